/-! CHECK: a row that tells too much -/
def tm (P : Nat → Nat → Nat) (R : Nat → Nat → Option (Nat → Nat)) (f d : Nat) : Prop := ∃ x, bE P R f d = some x ∧ (R f d = none ∨ ∃ r, R f d = some r ∧ ∃ k, k < P 9 f ∧ ei (P 13 (16 * f + k)) (r k) (x k) ≠ r k)
theorem dm_alB : allN 5 (fun t => allN (dem t) fun a => decide (ei t a (dem t - 1) = a)) = true := by decide +kernel
theorem ei_all {t a : Nat} (ht : t < 5) (ha : a < dem t) : ei t a (dem t - 1) = a := by
  have h := allN_s (allN_s dm_alB t ht) a ha
  simpa only [decide_eq_true_eq] using h
section CK
variable {b h F ND f a q n i k c d g : Nat} {M M1 N N' N1 : mv_M} {P : Nat → Nat → Nat} {R : Nat → Nat → Option (Nat → Nat)} {ty w u y r x : Nat → Nat} {X : Option (Nat → Nat)}
theorem c_27 (hs : wS b h P F ND f R N M) (h0 : 0 < d) (hd : d < dem (P 11 f)) (hR : R f d = some r) (hx : ∀ k, k < P 9 f → x k < dem (P 13 (16 * f + k)) ∧ M.1 46 k = nI (x k)) : ∀ j i, i + j = P 9 f → ∃ v, v ≤ 1 ∧ (v = 0 ↔ ∀ m, i ≤ m → m < P 9 f → ei (P 13 (16 * f + m)) (r m) (x m) = r m) ∧ fX5_tellsTooMuch_27 (nI d) (nI i) M = some (nI v, M) := by
  have hF := hs.1.2.1
  have hf := hs.2.2.1
  have hp := (hs.1.2.2.2 f hf).1
  have e6 := hs.2.2.2.2.2.1
  have e2 := (hs.2.2.2.1.2.2.2.2.2 f hf).1.1
  have row := ((w_row hs hf h0 hd).2 r hR).2
  intro j
  induction j with
  | zero =>
    intro i hi
    obtain rfl : i = P 9 f := by omega
    refine ⟨0, by omega, ⟨fun _ m h1 h2 => by omega, fun _ => rfl⟩, ?_⟩
    unfold fX5_tellsTooMuch_27
    refine lp_out ?_
    unfold gX5_tellsTooMuch_27
    rw [w_get hs]
    simp (disch := omega) only [e6, e2, k_iT, k_iF, Bool.false_eq_true, eq_self, Nat.add_zero, k_lt', k_bs, k_T, k_F, k_inb, k_ck, k_nz, ↓kN, kL, k_lt, k_le, k_eq, kn_le, kn_lt, kn_eq, kn_le', kn_lt', kn_eq', nI_clamp, nI_add, k_sub, k_mul, k_div, rd_hi, rd_mi, rd_hl, rd_ml, rd_hr, rd_mr, rd_si2, rd_sl1, rd_sl2, rd_sr1, rd_sr2]
  | succ j ih =>
    intro i hi
    obtain ⟨x1, x2⟩ := hx i (by omega)
    have dv := row i (by omega)
    obtain ⟨nt, t4⟩ := g_nty (wS_P hs) (k := i) (by omega)
    have rb := hs.2.1 f hf d h0 hd r hR i (by omega)
    have et := ((cl_row (t := P 13 (16 * f + i)) (a := r i) (M := M) (by omega) rb).2.2.2 (x i) x1).2
    have d26 := dem_le (t := P 13 (16 * f + i))
    have eb := (tg_row (t := P 13 (16 * f + i)) (by omega) rb x1).2.2.1
    by_cases eq : ei (P 13 (16 * f + i)) (r i) (x i) = r i
    · obtain ⟨v, v1, v2, v3⟩ := ih (i + 1) (by omega)
      refine ⟨v, v1, ?_, ?_⟩
      · rw [v2]
        refine ⟨fun z m h1 h2 => ?_, fun z m h1 h2 => z m (by omega) h2⟩
        by_cases e : m = i
        · rw [e]; exact eq
        · exact z m (by omega) h2
      · unfold fX5_tellsTooMuch_27 at v3 ⊢
        refine Eq.trans (lp_go ?_) v3
        unfold gX5_tellsTooMuch_27
        rw [w_get hs]
        simp (disch := omega) only [e6, e2, dv, k_iT, k_iF, Bool.false_eq_true, eq_self, Nat.add_zero, k_lt', k_bs, k_T, k_F, k_inb, k_ck, k_nz, ↓kN, kL, k_lt, k_le, k_eq, kn_le, kn_lt, kn_eq, kn_le', kn_lt', kn_eq', nI_clamp, nI_add, k_sub, k_mul, k_div, rd_hi, rd_mi, rd_hl, rd_ml, rd_hr, rd_mr, rd_si2, rd_sl1, rd_sl2, rd_sr1, rd_sr2]
        rw [w_get hs]
        simp (disch := omega) only [nt, x2, et, eq, k_iT, k_iF, Bool.false_eq_true, eq_self, Nat.add_zero, k_lt', k_bs, k_T, k_F, k_inb, k_ck, k_nz, ↓kN, kL, k_lt, k_le, k_eq, kn_le, kn_lt, kn_eq, kn_le', kn_lt', kn_eq', nI_clamp, nI_add, k_sub, k_mul, k_div, rd_hi, rd_mi, rd_hl, rd_ml, rd_hr, rd_mr, rd_si2, rd_sl1, rd_sl2, rd_sr1, rd_sr2]
    · refine ⟨1, by omega, ⟨fun z => by omega, fun z => absurd (z i (Nat.le_refl _) (by omega)) eq⟩, ?_⟩
      unfold fX5_tellsTooMuch_27
      refine lp_out ?_
      unfold gX5_tellsTooMuch_27
      rw [w_get hs]
      simp (disch := omega) only [e6, e2, dv, k_iT, k_iF, Bool.false_eq_true, eq_self, Nat.add_zero, k_lt', k_bs, k_T, k_F, k_inb, k_ck, k_nz, ↓kN, kL, k_lt, k_le, k_eq, kn_le, kn_lt, kn_eq, kn_le', kn_lt', kn_eq', nI_clamp, nI_add, k_sub, k_mul, k_div, rd_hi, rd_mi, rd_hl, rd_ml, rd_hr, rd_mr, rd_si2, rd_sl1, rd_sl2, rd_sr1, rd_sr2]
      rw [w_get hs]
      simp (disch := omega) only [nt, x2, et, eq, k_iT, k_iF, Bool.false_eq_true, eq_self, Nat.add_zero, k_lt', k_bs, k_T, k_F, k_inb, k_ck, k_nz, ↓kN, kL, k_lt, k_le, k_eq, kn_le, kn_lt, kn_eq, kn_le', kn_lt', kn_eq', nI_clamp, nI_add, k_sub, k_mul, k_div, rd_hi, rd_mi, rd_hl, rd_ml, rd_hr, rd_mr, rd_si2, rd_sl1, rd_sl2, rd_sr1, rd_sr2]
theorem c_tm (hs : wS b h P F ND f R N M) (h0 : 0 < d) (hd : d < dem (P 11 f)) : ∃ M1 v, tX5_weigh (nI (P 12 f)) (nI d) (nI 0) M = some ((), M1) ∧ fX5_tellsTooMuch (nI d) M1 = some (nI v, M1) ∧ v ≤ 1 ∧ (v = 0 ↔ ¬ tm P R f d) ∧ wS b h P F ND f R N M1 := by
  have wf := hs.1.2.2.2 f hs.2.2.1
  have hl := (wf.2.2.2.2.2.2.2.2.2 (P 12 f) wf.2.2.2.2.1 (Nat.le_refl _)).2.1
  have hdm := dem_le (t := P 11 f)
  obtain ⟨M1, E1, L1, u, hu, hx⟩ := w_main 81 M hs 0 (P 12 f) d wf.2.2.2.2.1 (Nat.le_refl _) (by omega) h0 (by rw [wf.2.2.2.2.2.2.1]; exact hd) (by omega) 320 (by omega)
  have hs1 := wS_F hs L1.1
  have e6 := hs1.2.2.2.2.2.1
  have row := w_row hs1 hs.2.2.1 h0 hd
  change (bE P R f d = none ∧ _) ∨ (∃ x, bE P R f d = some x ∧ _) at hx
  rcases hx with ⟨hB, e47⟩ | ⟨x, hB, e47, ex⟩
  · refine ⟨M1, 0, E1, ?_, by omega, ⟨fun _ z => ?_, fun _ => rfl⟩, hs1⟩
    · unfold fX5_tellsTooMuch
      simp (disch := omega) only [e47, k_iT, k_iF, Bool.false_eq_true, eq_self, Nat.add_zero, k_lt', k_bs, k_T, k_F, k_inb, k_ck, k_nz, ↓kN, kL, k_lt, k_le, k_eq, kn_le, kn_lt, kn_eq, kn_le', kn_lt', kn_eq', nI_clamp, nI_add, k_sub, k_mul, k_div, rd_hi, rd_mi, rd_hl, rd_ml, rd_hr, rd_mr, rd_si2, rd_sl1, rd_sl2, rd_sr1, rd_sr2]
    · obtain ⟨x, hx, _⟩ := z
      rw [hB] at hx; cases hx
  · cases hR : R f d with
    | none =>
      have e := row.1 hR
      refine ⟨M1, 1, E1, ?_, by omega, ⟨fun z => by omega, fun z => absurd ⟨x, hB, .inl hR⟩ z⟩, hs1⟩
      unfold fX5_tellsTooMuch
      simp (disch := omega) only [e47, e6, e, k_iT, k_iF, Bool.false_eq_true, eq_self, Nat.add_zero, k_lt', k_bs, k_T, k_F, k_inb, k_ck, k_nz, ↓kN, kL, k_lt, k_le, k_eq, kn_le, kn_lt, kn_eq, kn_le', kn_lt', kn_eq', nI_clamp, nI_add, k_sub, k_mul, k_div, rd_hi, rd_mi, rd_hl, rd_ml, rd_hr, rd_mr, rd_si2, rd_sl1, rd_sl2, rd_sr1, rd_sr2]
    | some r =>
      have e := (row.2 r hR).1
      obtain ⟨v, v1, v2, v3⟩ := c_27 hs1 h0 hd hR (x := x) (fun k hk => by
        have h1 := hu k (by omega)
        rw [show 16 * 0 + k = k by omega, ex k (by omega)] at h1
        exact h1) (P 9 f) 0 (by omega)
      refine ⟨M1, v, E1, ?_, v1, ?_, hs1⟩
      · unfold fX5_tellsTooMuch
        simp (disch := omega) only [e47, e6, e, k_iT, k_iF, Bool.false_eq_true, eq_self, Nat.add_zero, k_lt', k_bs, k_T, k_F, k_inb, k_ck, k_nz, ↓kN, kL, k_lt, k_le, k_eq, kn_le, kn_lt, kn_eq, kn_le', kn_lt', kn_eq', nI_clamp, nI_add, k_sub, k_mul, k_div, rd_hi, rd_mi, rd_hl, rd_ml, rd_hr, rd_mr, rd_si2, rd_sl1, rd_sl2, rd_sr1, rd_sr2]
        exact v3
      · rw [v2]
        refine ⟨fun z y => ?_, fun z m _ hm => ?_⟩
        · obtain ⟨x', hx', y⟩ := y
          rw [hB] at hx'; cases hx'
          rcases y with y | ⟨r', hr', m, hm, y⟩
          · rw [hR] at y; cases y
          · rw [hR] at hr'; cases hr'
            exact y (z m (by omega) hm)
        · exact Classical.byContradiction fun y => z ⟨x, hB, .inr ⟨r, hR, m, hm, y⟩⟩
end CK
