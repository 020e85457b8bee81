/-! SHEETS of the class: the loops -/
section SL
variable {b h F ND f a q n i k c d lv g nn : Nat} {M M' M0 M1 N : mv_M} {P : Nat → Nat → Nat} {R : Nat → Nat → Option (Nat → Nat)} {ty w u y : Nat → Nat} {X : Option (Nat → Nat)}
theorem tg_0r {t a : Nat} (ht : t < 6) (ha : a < dem t) : tg t a 0 = a := by
  have r := tg_row ht ha (dem_pos (t := t))
  have r' := tg_row ht (dem_pos (t := t)) ha
  rw [r.2.1, r'.2.2.2.1]
theorem dem5 {t a : Nat} (ht : t < 6) (ha : a < dem t) (h0 : a ≠ 0) : t ≤ 4 := by
  apply Classical.byContradiction
  intro hn
  have : t = 5 := by omega
  subst this
  have : dem 5 = 1 := rfl
  omega
theorem ty6 (hs : wS b h P F ND f R N M) (hk : k < P 10 f) : P 13 (16 * f + k) < 6 := by
  have := (hs.1.2.2.2 f hs.2.2.1).2.2.2.2.2.2.2.2.1 k hk
  omega
theorem w_54 {r : Int32 → Int32 → Int32 → mv_M → Option (Unit × mv_M)} (hs : wS b h P F ND f R N M) (hl : lv + 1 < 84) (hu : ∀ m, m < P 10 f → u m < dem (P 13 (16 * f + m)) ∧ M.1 46 (16 * lv + m) = nI (u m)) (hy : ∀ m, m < P 10 f → y m < dem (P 13 (16 * f + m)) ∧ M.1 46 (16 * (lv + 1) + m) = nI (y m)) : fX5_weighTogether_54 r (nI (16 * lv)) (nI 0) M = some ((), pB 46 M (16 * lv) (P 10 f) (fun m => tg (P 13 (16 * f + m)) (u m) (y m))) := by
  have hn := (hs.1.2.2.2 f hs.2.2.1).2.2.1
  have hF := hs.1.2.1
  have hf := hs.2.2.1
  generalize ew : (fun m => tg (P 13 (16 * f + m)) (u m) (y m)) = w
  have ew' : ∀ m, w m = tg (P 13 (16 * f + m)) (u m) (y m) := fun m => by rw [← ew]
  have key : ∀ j i, i + j = P 10 f → fX5_weighTogether_54 r (nI (16 * lv)) (nI i) (pB 46 M (16 * lv) i w) = some ((), pB 46 M (16 * lv) (P 10 f) w) := by
    intro j
    induction j with
    | zero =>
      intro i hi
      have hs' := wS_F hs (wL_pB (lv := lv) (M := M) (n := i) (w := w) (Nat.le_refl _)).1
      have e6 := hs'.2.2.2.2.2.1
      have e3 := (hs'.2.2.2.1.2.2.2.2.2 f hf).1.2.1
      obtain rfl : i = P 10 f := by omega
      unfold fX5_weighTogether_54
      refine lp_out ?_
      unfold gX5_weighTogether_54
      rw [w_get hs']
      simp (disch := omega) only [e6, e3, k_iT, k_iF, Bool.false_eq_true, eq_self, Nat.add_zero, k_lt', k_bs, k_T, k_F, k_inb, k_ck, k_nz, ↓kN, kL, k_lt, k_le, k_eq, kn_le, kn_lt, kn_eq, kn_le', kn_lt', kn_eq', nI_clamp, nI_add, k_sub, k_mul, k_div, rd_hi, rd_mi, rd_hl, rd_ml, rd_hr, rd_mr, rd_si2, rd_sl1, rd_sl2, rd_sr1, rd_sr2]
    | succ j ih =>
      intro i hi
      have hs' := wS_F hs (wL_pB (lv := lv) (M := M) (n := i) (w := w) (Nat.le_refl _)).1
      have e6 := hs'.2.2.2.2.2.1
      have e3 := (hs'.2.2.2.1.2.2.2.2.2 f hf).1.2.1
      have h1 := ih (i + 1) (by omega)
      obtain ⟨u1, u2⟩ := hu i (by omega)
      obtain ⟨y1, y2⟩ := hy i (by omega)
      have t6 := ty6 hs (k := i) (by omega)
      have ey : (pB 46 M (16 * lv) i w).1 46 (16 * lv + 16 + i) = nI (y i) := by
        rw [pB_out (by omega), show 16 * lv + 16 + i = 16 * (lv + 1) + i by omega, y2]
      have eu : (pB 46 M (16 * lv) i w).1 46 (16 * lv + i) = nI (u i) := by
        rw [pB_out (by omega), u2]
      have yd := dem_le (t := P 13 (16 * f + i))
      unfold fX5_weighTogether_54 at h1 ⊢
      refine Eq.trans (lp_go (s' := (nI (16 * lv), nI (i + 1))) (M' := pB 46 M (16 * lv) (i + 1) w) ?_) h1
      unfold gX5_weighTogether_54 fX5_weighTogether_129
      rw [w_get hs']
      by_cases y0 : y i = 0
      · rw [← pB_k (n := i) (by rw [u2, ew' i, y0, tg_0r t6 u1])]
        simp (disch := omega) only [e6, e3, ey, y0, k_iT, k_iF, Bool.false_eq_true, eq_self, Nat.add_zero, k_lt', k_bs, k_T, k_F, k_inb, k_ck, k_nz, ↓kN, kL, k_lt, k_le, k_eq, kn_le, kn_lt, kn_eq, kn_le', kn_lt', kn_eq', nI_clamp, nI_add, k_sub, k_mul, k_div, rd_hi, rd_mi, rd_hl, rd_ml, rd_hr, rd_mr, rd_si2, rd_sl1, rd_sl2, rd_sr1, rd_sr2]
      · obtain ⟨v, nt, hv⟩ := w_nty hs' (k := i) (by omega)
        have ht := hv (dem5 t6 y1 y0)
        subst ht
        have tt := ((cl_row (t := P 13 (16 * f + i)) (a := u i) (M := pB 46 M (16 * lv) i w) (by have := dem5 t6 y1 y0; omega) u1).2.2.2 (y i) y1).1
        simp (disch := omega) only [e6, e3, ey, y0, k_iT, k_iF, Bool.false_eq_true, eq_self, Nat.add_zero, k_lt', k_bs, k_T, k_F, k_inb, k_ck, k_nz, ↓kN, kL, k_lt, k_le, k_eq, kn_le, kn_lt, kn_eq, kn_le', kn_lt', kn_eq', nI_clamp, nI_add, k_sub, k_mul, k_div, rd_hi, rd_mi, rd_hl, rd_ml, rd_hr, rd_mr, rd_si2, rd_sl1, rd_sl2, rd_sr1, rd_sr2]
        rw [w_get hs']
        simp (disch := omega) only [nt, eu, tt, k_iT, k_iF, Bool.false_eq_true, eq_self, Nat.add_zero, k_lt', k_bs, k_T, k_F, k_inb, k_ck, k_nz, ↓kN, kL, k_lt, k_le, k_eq, kn_le, kn_lt, kn_eq, kn_le', kn_lt', kn_eq', nI_clamp, nI_add, k_sub, k_mul, k_div, rd_hi, rd_mi, rd_hl, rd_ml, rd_hr, rd_mr, rd_si2, rd_sl1, rd_sl2, rd_sr1, rd_sr2]
        rw [← ew' i, pB_s]
  have h1 := key (P 10 f) 0 (by omega)
  rw [pB_0] at h1
  exact h1
theorem w_19 (hs : wS b h P F ND f R N M) (hl : lv + 1 < 84) {fl : Nat} (hfl : fl ≤ 1) (e47 : M.1 47 lv = nI fl) (hu : ∀ m, m < P 10 f → u m < dem (P 13 (16 * f + m)) ∧ M.1 46 (16 * lv + m) = nI (u m)) (hy : ∀ m, m < P 10 f → y m < dem (P 13 (16 * f + m)) ∧ M.1 46 (16 * (lv + 1) + m) = nI (y m)) : fX5_takeEither_19 (nI lv) (nI (16 * lv)) (nI 0) M = some ((), mv_si (pB 46 M (16 * lv) (P 10 f) (fun m => if fl = 0 then ei (P 13 (16 * f + m)) (u m) (y m) else y m)) 47 lv (nI 0)) := by
  have hn := (hs.1.2.2.2 f hs.2.2.1).2.2.1
  have hF := hs.1.2.1
  have hf := hs.2.2.1
  generalize ew : (fun m => if fl = 0 then ei (P 13 (16 * f + m)) (u m) (y m) else y m) = w
  have ew' : ∀ m, w m = if fl = 0 then ei (P 13 (16 * f + m)) (u m) (y m) else y m := fun m => by rw [← ew]
  have key : ∀ j i, i + j = P 10 f → fX5_takeEither_19 (nI lv) (nI (16 * lv)) (nI i) (pB 46 M (16 * lv) i w) = some ((), mv_si (pB 46 M (16 * lv) (P 10 f) w) 47 lv (nI 0)) := by
    intro j
    induction j with
    | zero =>
      intro i hi
      have hs' := wS_F hs (wL_pB (lv := lv) (M := M) (n := i) (w := w) (Nat.le_refl _)).1
      have e6 := hs'.2.2.2.2.2.1
      have e3 := (hs'.2.2.2.1.2.2.2.2.2 f hf).1.2.1
      obtain rfl : i = P 10 f := by omega
      unfold fX5_takeEither_19
      refine lp_out ?_
      unfold gX5_takeEither_19
      rw [w_get hs', vp0]
      simp (disch := omega) only [e6, e3, k_iT, k_iF, Bool.false_eq_true, eq_self, Nat.add_zero, k_lt', k_bs, k_T, k_F, k_inb, k_ck, k_nz, ↓kN, kL, k_lt, k_le, k_eq, kn_le, kn_lt, kn_eq, kn_le', kn_lt', kn_eq', nI_clamp, nI_add, k_sub, k_mul, k_div, rd_hi, rd_mi, rd_hl, rd_ml, rd_hr, rd_mr, rd_si2, rd_sl1, rd_sl2, rd_sr1, rd_sr2]
    | succ j ih =>
      intro i hi
      have hs' := wS_F hs (wL_pB (lv := lv) (M := M) (n := i) (w := w) (Nat.le_refl _)).1
      have e6 := hs'.2.2.2.2.2.1
      have e3 := (hs'.2.2.2.1.2.2.2.2.2 f hf).1.2.1
      have h1 := ih (i + 1) (by omega)
      obtain ⟨u1, u2⟩ := hu i (by omega)
      obtain ⟨y1, y2⟩ := hy i (by omega)
      have t6 := ty6 hs (k := i) (by omega)
      have ey : (pB 46 M (16 * lv) i w).1 46 (16 * lv + 16 + i) = nI (y i) := by
        rw [pB_out (by omega), show 16 * lv + 16 + i = 16 * (lv + 1) + i by omega, y2]
      have eu : (pB 46 M (16 * lv) i w).1 46 (16 * lv + i) = nI (u i) := by
        rw [pB_out (by omega), u2]
      have e7 : (pB 46 M (16 * lv) i w).1 47 lv = nI fl := by
        rw [pB_out (by omega), e47]
      have yd := dem_le (t := P 13 (16 * f + i))
      unfold fX5_takeEither_19 at h1 ⊢
      refine Eq.trans (lp_go (s' := (nI lv, nI (16 * lv), nI (i + 1))) (M' := pB 46 M (16 * lv) (i + 1) w) ?_) h1
      unfold gX5_takeEither_19 fX5_takeEither_98
      rw [w_get hs', ← pB_s, ew' i]
      by_cases f0 : fl = 0
      · obtain ⟨v, nt, hv⟩ := w_nty hs' (k := i) (by omega)
        have tt : tX6_either v (nI (u i)) (nI (y i)) (pB 46 M (16 * lv) i w) = some (nI (ei (P 13 (16 * f + i)) (u i) (y i)), pB 46 M (16 * lv) i w) := by
          by_cases u0 : u i = 0
          · rw [u0, show ei (P 13 (16 * f + i)) 0 (y i) = 0 from if_pos (.inl rfl)]
            exact ei_0
          · rw [hv (dem5 t6 u1 u0)]
            exact ((cl_row (t := P 13 (16 * f + i)) (a := u i) (by have := dem5 t6 u1 u0; omega) u1).2.2.2 (y i) y1).2
        rw [if_pos f0]
        simp (disch := omega) only [e6, e3, ey, eu, e7, f0, k_iT, k_iF, Bool.false_eq_true, eq_self, Nat.add_zero, k_lt', k_bs, k_T, k_F, k_inb, k_ck, k_nz, ↓kN, kL, k_lt, k_le, k_eq, kn_le, kn_lt, kn_eq, kn_le', kn_lt', kn_eq', nI_clamp, nI_add, k_sub, k_mul, k_div, rd_hi, rd_mi, rd_hl, rd_ml, rd_hr, rd_mr, rd_si2, rd_sl1, rd_sl2, rd_sr1, rd_sr2]
        rw [w_get hs']
        simp (disch := omega) only [nt, tt, k_iT, k_iF, Bool.false_eq_true, eq_self, Nat.add_zero, k_lt', k_bs, k_T, k_F, k_inb, k_ck, k_nz, ↓kN, kL, k_lt, k_le, k_eq, kn_le, kn_lt, kn_eq, kn_le', kn_lt', kn_eq', nI_clamp, nI_add, k_sub, k_mul, k_div, rd_hi, rd_mi, rd_hl, rd_ml, rd_hr, rd_mr, rd_si2, rd_sl1, rd_sl2, rd_sr1, rd_sr2]
      · rw [if_neg f0]
        simp (disch := omega) only [e6, e3, ey, eu, e7, k_iT, k_iF, Bool.false_eq_true, eq_self, Nat.add_zero, k_lt', k_bs, k_T, k_F, k_inb, k_ck, k_nz, ↓kN, kL, k_lt, k_le, k_eq, kn_le, kn_lt, kn_eq, kn_le', kn_lt', kn_eq', nI_clamp, nI_add, k_sub, k_mul, k_div, rd_hi, rd_mi, rd_hl, rd_ml, rd_hr, rd_mr, rd_si2, rd_sl1, rd_sl2, rd_sr1, rd_sr2]
  have h1 := key (P 10 f) 0 (by omega)
  rw [pB_0] at h1
  exact h1
theorem w_row (hs : wS b h P F ND f R N M) (hq : q < F) (h0 : 0 < d) (hd : d < dem (P 11 q)) : (R q d = none → fX5_isDead (nI q) (nI d) M = some (nI 1, M)) ∧ ∀ r, R q d = some r → fX5_isDead (nI q) (nI d) M = some (nI 0, M) ∧ ∀ k, k < P 9 q → fX5_demandOf (nI q) (nI d) (nI k) M = some (nI (r k), M) := by
  have hF := hs.1.2.1
  have hd' := dem_le (t := P 11 q)
  have hp := (hs.1.2.2.2 q hq).1
  obtain ⟨r1, r2⟩ := hs.2.2.2.2.2.2 q hq d h0 hd
  have e : q * 26 + d = 26 * q + d := by omega
  unfold fX5_isDead fX5_demandOf fX5_rowOf
  refine ⟨fun z => ?_, fun r z => ⟨?_, fun k hk => ?_⟩⟩
  · have a1 := (r1 z).1
    simp (disch := omega) only [e, a1, k_iT, k_iF, Bool.false_eq_true, eq_self, Nat.add_zero, k_lt', k_bs, k_T, k_F, k_inb, k_ck, k_nz, ↓kN, kL, k_lt, k_le, k_eq, kn_le, kn_lt, kn_eq, kn_le', kn_lt', kn_eq', nI_clamp, nI_add, k_sub, k_mul, k_div, rd_hi, rd_mi, rd_hl, rd_ml, rd_hr, rd_mr, rd_si2, rd_sl1, rd_sl2, rd_sr1, rd_sr2]
  · have a1 := (r2 r z).1
    simp (disch := omega) only [e, a1, k_iT, k_iF, Bool.false_eq_true, eq_self, Nat.add_zero, k_lt', k_bs, k_T, k_F, k_inb, k_ck, k_nz, ↓kN, kL, k_lt, k_le, k_eq, kn_le, kn_lt, kn_eq, kn_le', kn_lt', kn_eq', nI_clamp, nI_add, k_sub, k_mul, k_div, rd_hi, rd_mi, rd_hl, rd_ml, rd_hr, rd_mr, rd_si2, rd_sl1, rd_sl2, rd_sr1, rd_sr2]
  · have a1 := (r2 r z).2 k hk
    simp (disch := omega) only [e, a1, k_iT, k_iF, Bool.false_eq_true, eq_self, Nat.add_zero, k_lt', k_bs, k_T, k_F, k_inb, k_ck, k_nz, ↓kN, kL, k_lt, k_le, k_eq, kn_le, kn_lt, kn_eq, kn_le', kn_lt', kn_eq', nI_clamp, nI_add, k_sub, k_mul, k_div, rd_hi, rd_mi, rd_hl, rd_ml, rd_hr, rd_mr, rd_si2, rd_sl1, rd_sl2, rd_sr1, rd_sr2]
end SL
