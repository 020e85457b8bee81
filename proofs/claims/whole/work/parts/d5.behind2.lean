section DC
variable {n t i g : Nat} {M N : mv_M} {K : Nat → Nat}
theorem bh_f : ∀ g g' t i, t ≤ 4 → 0 < g → (1 ≤ t → 1 < g) → (2 ≤ t → 2 < g) → 0 < g' → (1 ≤ t → 1 < g') → (2 ≤ t → 2 < g') → bh K n g t i = bh K n g' t i := by
  intro g
  induction g with
  | zero => intro g' t i _ h; omega
  | succ g ih =>
    intro g' t i ht _ h1 h2 h3 h4 h5
    obtain ⟨g', rfl⟩ : ∃ x, g' = x + 1 := ⟨g' - 1, by omega⟩
    unfold bh
    by_cases c3 : 0 < t
    · rw [ih g' ((t - 1) / 2) (i + 1) (by omega) (by omega) (by omega) (by omega) (by omega) (by omega) (by omega)]
      have e : ∀ j, bh K n g ((t - 1) % 2) j = bh K n g' ((t - 1) % 2) j := fun j => ih g' ((t - 1) % 2) j (by omega) (by omega) (by omega) (by omega) (by omega) (by omega) (by omega)
      cases hb : bh K n g' ((t - 1) / 2) (i + 1) with
      | none => rfl
      | some j =>
        show (if n ≤ i then none else if K i = 1 then some (i + 1) else if 0 < t then (if K i = 2 then bh K n g ((t - 1) % 2) j else none) else if K i = 0 then some (i + 1) else none) = (if n ≤ i then none else if K i = 1 then some (i + 1) else if 0 < t then (if K i = 2 then bh K n g' ((t - 1) % 2) j else none) else if K i = 0 then some (i + 1) else none)
        rw [e j]
    · rw [if_neg c3, if_neg c3]
theorem rb_m1 {s : Nat} (hs : s ≤ 8) : fX11_behind_12 (-1) (nI s) N = some (-1, N) := by
  unfold fX11_behind_12
  refine lp_out ?_
  unfold gX11_behind_12
  by_cases c : nI s ≤ 0
  · rw [if_pos c]
  · rw [if_neg c, if_pos rfl]
theorem r_bh (hn : n ≤ 40) : ∀ g t i s N, t ≤ 4 → 0 < g → (1 ≤ t → 1 < g) → (2 ≤ t → 2 < g) → i ≤ 40 → s + g ≤ 8 → N.1 62 55 = nI n → (∀ i, i < n → K i ≤ 2 ∧ N.1 92 i = nI (K i)) → N.1 94 s = nI t → ∃ N', fX11_behind_12 (nI i) (nI (s + 1)) N = fX11_behind_12 (bi (bh K n g t i)) (nI s) N' ∧ N'.2 = N.2 ∧ ∀ a p, ¬ (a = 94 ∧ s ≤ p) → N'.1 a p = N.1 a p := by
  intro g
  induction g with
  | zero => intro t i s N _ h; omega
  | succ g ih =>
    intro t i s N ht _ h1 h2 hi hsg e55 hK e94
    have one : ∀ o : Option Nat, gX11_behind_12 (nI i) (nI (s + 1)) N = some (.inl (bi o, nI s), N) → fX11_behind_12 (nI i) (nI (s + 1)) N = fX11_behind_12 (bi o) (nI s) N := by
      intro o G
      unfold fX11_behind_12
      exact lp_go G
    have fr : N.2 = N.2 ∧ ∀ a p, ¬ (a = 94 ∧ s ≤ p) → N.1 a p = N.1 a p := ⟨rfl, fun _ _ _ => rfl⟩
    unfold bh
    by_cases c1 : n ≤ i
    · rw [if_pos c1]
      refine ⟨N, one none ?_, fr⟩
      unfold gX11_behind_12 fX11_behind_71 fX11_behind_118
      simp (disch := omega) only [e55, e94, Nat.add_sub_cancel, k_iT, k_iF, Bool.false_eq_true, eq_self, Nat.add_zero, k_lt', k_bs, k_T, k_F, k_inb, k_ck, k_nz, ↓kN, kL, k_lt, k_le, k_eq, kn_le, kn_lt, kn_eq, kn_le', kn_lt', kn_eq', nI_clamp, nI_add, k_sub, k_mul, k_div, rd_hi, rd_mi, rd_hl, rd_ml, rd_hr, rd_mr, rd_si2, rd_sl1, rd_sl2, rd_sr1, rd_sr2]
      rfl
    · obtain ⟨k2, e92⟩ := hK i (by omega)
      rw [if_neg c1]
      by_cases c2 : K i = 1
      · rw [if_pos c2]
        refine ⟨N, one (some (i + 1)) ?_, fr⟩
        unfold gX11_behind_12 fX11_behind_56 fX11_behind_76 fX11_behind_115 fX11_behind_118
        simp (disch := omega) only [e55, e94, e92, c2, Nat.add_sub_cancel, k_iT, k_iF, Bool.false_eq_true, eq_self, Nat.add_zero, k_lt', k_bs, k_T, k_F, k_inb, k_ck, k_nz, ↓kN, kL, k_lt, k_le, k_eq, kn_le, kn_lt, kn_eq, kn_le', kn_lt', kn_eq', nI_clamp, nI_add, k_sub, k_mul, k_div, rd_hi, rd_mi, rd_hl, rd_ml, rd_hr, rd_mr, rd_si2, rd_sl1, rd_sl2, rd_sr1, rd_sr2]
        rfl
      · rw [if_neg c2]
        by_cases c3 : 0 < t
        · rw [if_pos c3]
          by_cases c4 : K i = 2
          · rw [if_pos c4]
            have fs := (f_second (y := t) ht N).2
            have ff := (f_first (y := t) ht (mv_si N 94 s (nI ((t - 1) % 2)))).2
            have G : fX11_behind_12 (nI i) (nI (s + 1)) N = fX11_behind_12 (nI (i + 1)) (nI (s + 1 + 1)) (mv_si (mv_si N 94 s (nI ((t - 1) % 2))) 94 (s + 1) (nI ((t - 1) / 2))) := by
              unfold fX11_behind_12
              refine lp_go ?_
              unfold gX11_behind_12 fX11_behind_56 fX11_behind_76 fX11_behind_115 fX11_behind_118
              simp (disch := omega) only [e55, e94, e92, c4, Nat.add_sub_cancel, fs, ff, k_iT, k_iF, Bool.false_eq_true, eq_self, Nat.add_zero, k_lt', k_bs, k_T, k_F, k_inb, k_ck, k_nz, ↓kN, kL, k_lt, k_le, k_eq, kn_le, kn_lt, kn_eq, kn_le', kn_lt', kn_eq', nI_clamp, nI_add, k_sub, k_mul, k_div, rd_hi, rd_mi, rd_hl, rd_ml, rd_hr, rd_mr, rd_si2, rd_sl1, rd_sl2, rd_sr1, rd_sr2]
            obtain ⟨N1, E1, z1, z2⟩ := ih ((t - 1) / 2) (i + 1) (s + 1) (mv_si (mv_si N 94 s (nI ((t - 1) % 2))) 94 (s + 1) (nI ((t - 1) / 2))) (by omega) (by omega) (by omega) (by omega) (by omega) (by omega) (by simp (disch := omega) only [rd_hi, rd_mi, rd_hl, rd_ml, rd_hr, rd_mr, rd_si2, rd_sl1, rd_sl2, rd_sr1, rd_sr2]; exact e55) (fun i hi => ⟨(hK i hi).1, by simp (disch := omega) only [rd_hi, rd_mi, rd_hl, rd_ml, rd_hr, rd_mr, rd_si2, rd_sl1, rd_sl2, rd_sr1, rd_sr2]; exact (hK i hi).2⟩) (by simp (disch := omega) only [rd_hi, rd_mi, rd_hl, rd_ml, rd_hr, rd_mr, rd_si2, rd_sl1, rd_sl2, rd_sr1, rd_sr2])
            have y2 : ∀ a p, ¬ (a = 94 ∧ s ≤ p) → N1.1 a p = N.1 a p := fun a p z => by
              rw [z2 a p (by omega), rd_mi (by omega), rd_mi (by omega)]
            have y1 : N1.2 = N.2 := z1
            cases hb : bh K n g ((t - 1) / 2) (i + 1) with
            | none =>
              rw [hb] at E1
              refine ⟨N1, (G.trans E1).trans ?_, y1, y2⟩
              rw [show bi none = -1 from rfl, rb_m1 (by omega), rb_m1 (by omega)]
            | some j =>
              rw [hb] at E1
              obtain ⟨N2, E2, x1, x2⟩ := ih ((t - 1) % 2) j s N1 (by omega) (by omega) (by omega) (by omega) (by have := bh_le _ _ _ _ hb; omega) (by omega) ((y2 62 55 (by omega)).trans e55) (fun i hi => ⟨(hK i hi).1, (y2 92 i (by omega)).trans (hK i hi).2⟩) (by rw [z2 94 s (by omega)]; simp (disch := omega) only [rd_hi, rd_mi, rd_hl, rd_ml, rd_hr, rd_mr, rd_si2, rd_sl1, rd_sl2, rd_sr1, rd_sr2])
              exact ⟨N2, (G.trans E1).trans E2, x1.trans y1, fun a p z => (x2 a p z).trans (y2 a p z)⟩
          · rw [if_neg c4]
            refine ⟨N, one none ?_, fr⟩
            unfold gX11_behind_12 fX11_behind_71 fX11_behind_118
            have c5 : K i = 0 := by omega
            simp (disch := omega) only [e55, e94, e92, c5, Nat.add_sub_cancel, k_iT, k_iF, Bool.false_eq_true, eq_self, Nat.add_zero, k_lt', k_bs, k_T, k_F, k_inb, k_ck, k_nz, ↓kN, kL, k_lt, k_le, k_eq, kn_le, kn_lt, kn_eq, kn_le', kn_lt', kn_eq', nI_clamp, nI_add, k_sub, k_mul, k_div, rd_hi, rd_mi, rd_hl, rd_ml, rd_hr, rd_mr, rd_si2, rd_sl1, rd_sl2, rd_sr1, rd_sr2]
            rfl
        · rw [if_neg c3]
          have t0 : t = 0 := by omega
          by_cases c4 : K i = 0
          · rw [if_pos c4]
            refine ⟨N, one (some (i + 1)) ?_, fr⟩
            unfold gX11_behind_12 fX11_behind_56 fX11_behind_76 fX11_behind_115 fX11_behind_118
            simp (disch := omega) only [e55, e94, e92, c4, t0, Nat.add_sub_cancel, k_iT, k_iF, Bool.false_eq_true, eq_self, Nat.add_zero, k_lt', k_bs, k_T, k_F, k_inb, k_ck, k_nz, ↓kN, kL, k_lt, k_le, k_eq, kn_le, kn_lt, kn_eq, kn_le', kn_lt', kn_eq', nI_clamp, nI_add, k_sub, k_mul, k_div, rd_hi, rd_mi, rd_hl, rd_ml, rd_hr, rd_mr, rd_si2, rd_sl1, rd_sl2, rd_sr1, rd_sr2]
            rfl
          · rw [if_neg c4]
            refine ⟨N, one none ?_, fr⟩
            unfold gX11_behind_12 fX11_behind_56 fX11_behind_71 fX11_behind_118
            have c5 : K i = 2 := by omega
            simp (disch := omega) only [e55, e94, e92, c5, t0, Nat.add_sub_cancel, k_iT, k_iF, Bool.false_eq_true, eq_self, Nat.add_zero, k_lt', k_bs, k_T, k_F, k_inb, k_ck, k_nz, ↓kN, kL, k_lt, k_le, k_eq, kn_le, kn_lt, kn_eq, kn_le', kn_lt', kn_eq', nI_clamp, nI_add, k_sub, k_mul, k_div, rd_hi, rd_mi, rd_hl, rd_ml, rd_hr, rd_mr, rd_si2, rd_sl1, rd_sl2, rd_sr1, rd_sr2]
            rfl
/-- both sides -/
theorem r_behind (hn : n ≤ 40) (ht : t ≤ 4) (hi : i ≤ 40) (e55 : N.1 62 55 = nI n) (hK : ∀ i, i < n → K i ≤ 2 ∧ N.1 92 i = nI (K i)) : ∃ N', fX11_behind (nI i) (nI t) N = some (bi (bh K n 3 t i), N') ∧ N'.2 = N.2 ∧ ∀ a p, a ≠ 94 → N'.1 a p = N.1 a p := by
  obtain ⟨N', E, z1, z2⟩ := r_bh hn 3 t i 0 (mv_si N 94 0 (nI t)) ht (by omega) (by omega) (by omega) hi (by omega) (by simp (disch := omega) only [rd_hi, rd_mi, rd_hl, rd_ml, rd_hr, rd_mr, rd_si2, rd_sl1, rd_sl2, rd_sr1, rd_sr2]; exact e55) (fun i hi => ⟨(hK i hi).1, by simp (disch := omega) only [rd_hi, rd_mi, rd_hl, rd_ml, rd_hr, rd_mr, rd_si2, rd_sl1, rd_sl2, rd_sr1, rd_sr2]; exact (hK i hi).2⟩) (by simp (disch := omega) only [rd_hi, rd_mi, rd_hl, rd_ml, rd_hr, rd_mr, rd_si2, rd_sl1, rd_sl2, rd_sr1, rd_sr2])
  refine ⟨N', ?_, z1, fun a p ha => by rw [z2 a p (by omega), rd_mi (by omega)]⟩
  unfold fX11_behind
  refine Eq.trans E ?_
  unfold fX11_behind_12
  refine lp_out ?_
  unfold gX11_behind_12
  rw [if_pos (show (bi (bh K n 3 t i), nI 0).2 ≤ 0 from (show nI 0 ≤ 0 by decide))]
end DC
