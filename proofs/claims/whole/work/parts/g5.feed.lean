/-! feed -/
section IF
variable {M M' N M1 N' : mv_M} {v r : Int32}
theorem ok_xx {α : Type} {o : Option (α × mv_M)} {Q : α → mv_M → Prop} (h : mv_ok o Q) : ∃ r M', o = some (r, M') ∧ Q r M' := by
  cases o with
  | none => exact h.elim
  | some x =>
    obtain ⟨r, M'⟩ := x
    exact ⟨r, M', rfl, h⟩
theorem fm_feed {a0 a1 a2 a3 a4 : Int32} {r : Int32 ⊕ String} (e : fX10_feed a0 a1 a2 a3 a4 M = some (r, M')) : ∀ c k, ¬ (c = 39 ∨ (c = 2 ∧ k = 1)) → M'.1 c k = M.1 c k ∧ M'.2.1 c k = M.2.1 c k ∧ M'.2.2 c k = M.2.2 c k := fun c k u => qX10_feed a0 a1 a2 a3 a4 M r M' e c k (by simp [mv_S]; omega)
theorem fr_feed {a0 a1 a2 a3 a4 : Int32} (e : fX11_feed a0 a1 a2 a3 a4 N = some (v, N')) : ∀ c k, ¬ (c = 63 ∨ (c = 62 ∧ (k = 0 ∨ k = 2))) → N'.1 c k = N.1 c k ∧ N'.2.1 c k = N.2.1 c k ∧ N'.2.2 c k = N.2.2 c k := fun c k u => qX11_feed a0 a1 a2 a3 a4 N v N' e c k (by simp [mv_S]; omega)
theorem H0 (a0 a1 a2 a3 a4 : Int32) : pm_I Iv (fL_feed a0 a1 a2 a3 a4) (fX11_feed a0 a1 a2 a3 a4) := by
  intro M hI
  have hI' := hI
  obtain ⟨⟨n, t1, t2, t3, t4⟩, h2, h3, b, b', h4, h5⟩ := hI
  have hb : b = 9 ∨ b = 24 := by have := h4.1; omega
  unfold fL_feed
  by_cases hn : n + 20 ≤ 4000
  · obtain ⟨r, M1, c1, c2, c3, c4, c5⟩ := ok_xx (ap20 (a := a0) (b := a1) (c := a2) (d := a3) (e := a4) t2 hn)
    subst c2
    have f1 := fm_feed c1
    have e2N : (mv_sl M1 106 0 (nI (n + 20)).toInt64).1 62 2 = nI n := (f1 _ _ (by omega)).1.trans t3
    obtain ⟨r2, N2, d1, d2, d3, d4, d5, d6⟩ := ok_xx (mf20 (x1 := a0) (x2 := a1) (x3 := a2) (x4 := a3) (x5 := a4) hn (fun j => M.1 63 j) 20 0 (mv_si (mv_sl M1 106 0 (nI (n + 20)).toInt64) 62 0 0) (by omega) (by simp (disch := omega) only [rd_hi, rd_mi, rd_hl, rd_ml, rd_hr, rd_mr, rd_si2, rd_sl1, rd_sl2, rd_sr1, rd_sr2]) (by simp (disch := omega) only [rd_hi, rd_mi, rd_hl, rd_ml, rd_hr, rd_mr, rd_si2, rd_sl1, rd_sl2, rd_sr1, rd_sr2]; exact e2N) (fun j hj => by simp (disch := omega) only [rd_hi, rd_mi, rd_hl, rd_ml, rd_hr, rd_mr, rd_si2, rd_sl1, rd_sl2, rd_sr1, rd_sr2]; exact (f1 _ _ (by omega)).1) (fun j hj => by omega))
    subst d2
    have d0 : fX11_feed a0 a1 a2 a3 a4 (mv_sl M1 106 0 (nI (n + 20)).toInt64) = some (nI (n + 20), N2) := by
      unfold fX11_feed fX11_feed_19
      rw [e2N, show nI n + (20 : Int32) = nI (n + 20) from nI_add n 20, if_pos (by rw [kM, k_le (by omega) (by omega)]; exact hn), k_lt', rd_hi ⟨rfl, rfl⟩, if_pos (by decide)]
      exact d1
    have f2 := fr_feed d0
    have e : ∀ c k, ¬ (c = 39 ∨ (c = 2 ∧ k = 1) ∨ c = 63 ∨ (c = 62 ∧ (k = 0 ∨ k = 2))) → N2.1 c k = M.1 c k := fun c k u => ((f2 c k (by omega)).1).trans (f1 c k (by omega)).1
    have eB : ∀ c k, c < 39 → c ≠ 2 → N2.2.2 c k = M.2.2 c k := fun c k u u2 => ((f2 c k (by omega)).2.2).trans (f1 c k (by omega)).2.2
    refine try_I c1 (fin_J d0 d3 ?_ ?_)
    · exact ((f2 106 0 (by omega)).2.1).trans rfl
    · refine ⟨⟨n + 20, hn, ((f2 _ _ (by omega)).1).trans c3, d4, fun k hk => ?_⟩, ?_, iN_s h3 (fun c k u => e c k (by omega)), b, b', ⟨h4.1, (eB _ _ (by omega) (by omega)).trans h4.2.1, (eB _ _ (by omega) (by omega)).trans h4.2.2⟩, ?_⟩
      · rw [(f2 39 k (by omega)).1, show (mv_sl M1 106 0 (nI (n + 20)).toInt64).1 39 k = M1.1 39 k from rfl]
        by_cases u : k < n
        · rw [c4 k u, d5 k u]
          exact t4 k u
        · obtain ⟨j, rfl⟩ : ∃ j, k = n + j := ⟨k - n, by omega⟩
          rw [c5 j (by omega), d6 j (by omega)]
          exact pb_of _
      · rw [e _ _ (by omega), e _ _ (by omega)]; exact h2
      · rcases h5 with ⟨a1, a2, ⟨h, a3, a4⟩, ⟨a5, a6⟩, a7⟩ | ⟨h, P, F, ND, ⟨a1, a2, a3, a4, a5⟩, a6, a7⟩
        · exact .inl ⟨(e _ _ (by omega)).trans a1, (e _ _ (by omega)).trans a2, ⟨h, a3, (e _ _ (by omega)).trans a4⟩, ⟨(e _ _ (by omega)).trans a5, (e _ _ (by omega)).trans a6⟩, Nr_s a7 (fun c k u => e c k (by omega))⟩
        · exact .inr ⟨h, P, F, ND, ⟨a1, a2, PR_s a3 (fun c k u => e c k (by omega)), (e _ _ (by omega)).trans a4, (e _ _ (by omega)).trans a5⟩, Rw_s a6 (fun c k u => e c k (by omega)) (eB _ _ (by omega) (by omega)), RU_s a7 (fun c k u => e c k (by omega)) (eB _ _ (by omega) (by omega))⟩
  · refine try_E (M := M) (E := mv_e1) ?_ (if_pos rfl) (fin_E (k := 1) (M1 := M) (N' := mv_si M 62 0 (nI 1)) (r := 0) ?_ (by simp (disch := omega) only [rd_hi, rd_mi, rd_hl, rd_ml, rd_hr, rd_mr, rd_si2, rd_sl1, rd_sl2, rd_sr1, rd_sr2]) (by omega) (Iv_1 hI'))
    · unfold fX10_feed
      rw [t2, if_neg (by rw [kM, k_le (by omega) (by omega)]; omega)]
      rfl
    · unfold fX11_feed fX11_feed_19
      rw [t3, show nI n + (20 : Int32) = nI (n + 20) from nI_add n 20, if_neg (by rw [kM, k_le (by omega) (by omega)]; exact hn)]
      simp (disch := omega) only [↓reduceIte, k_iT, k_iF, Bool.false_eq_true, eq_self, Nat.add_zero, k_lt', k_bs, k_T, k_F, k_inb, k_ck, k_nz, ↓kN, kL, k_lt, k_le, k_eq, kn_le, kn_lt, kn_eq, kn_le', kn_lt', kn_eq', nI_clamp, nI_add, k_sub, k_mul, k_div, rd_hi, rd_mi, rd_hl, rd_ml, rd_hr, rd_mr, rd_si2, rd_sl1, rd_sl2, rd_sr1, rd_sr2]
end IF
