theorem c_scanRow {M : mv_M} {T : Nat → Nat} {n s c : Nat} (h : c_tape M T n) (hs : s < n) (hr : t_rw (T s) = true) (hc : M.1 2 2 = nI c) (hc2 : c < 1002) : fX8_scanRow (nI s) M = some (nI (lx_end T n s), mv_sl (mv_si M 40 c (nI (lx_kd T n s))) 42 c (lx_tx T n s)) := by
  obtain ⟨h1, h2, h3⟩ := h
  have he : lx_end T n s = lx_re T n s := by unfold lx_end; rw [if_pos hr]
  have hle := lx_re_le (T := T) (n := n) (p := s) (by omega)
  have hlt := (lx_end_le (T := T) hs).1
  rw [he] at hlt
  rw [he]
  have fin : fX8_scanRow_77 (nI s) (nI (lx_re T n s)) (nI (lx_dc T s (lx_re T n s - s))) (lx_lt T s (lx_re T n s - s)) (lx_cv T s (lx_re T n s - s)) M = some (nI (lx_re T n s), mv_sl (mv_si M 40 c (nI (lx_kd T n s))) 42 c (lx_tx T n s)) := by
    unfold fX8_scanRow_77 fX8_scanRow_156 fX8_scanRow_115 fX8_scanRow_116 lx_kd lx_tx
    have hdc := lx_dc_ad (T := T) (s := s) (lx_re T n s - s)
    rw [if_pos hr, c_dig ⟨h1, h2, h3⟩ hs]
    by_cases hd : t_dg (T s) = true
    · simp only [if_pos hd]
      by_cases ha : lx_ad T s (lx_re T n s - s) = true
      · have := hdc.2.mpr ha
        by_cases h9 : lx_re T n s - s ≤ 9
        · rw [if_pos ⟨ha, h9⟩]
          simp (disch := omega) only [hc, this, k_iT, k_iF, Bool.false_eq_true, eq_self, Nat.add_zero, k_lt', k_bs, k_T, k_F, k_inb, k_ck, k_nz, ↓kN, kL, k_lt, k_le, k_eq, kn_le, kn_lt, kn_eq, kn_le', kn_lt', kn_eq', nI_clamp, nI_add, k_sub, k_mul, k_div, rd_hi, rd_mi, rd_hl, rd_ml, rd_hr, rd_mr, rd_si2, rd_sl1, rd_sl2, rd_sr1, rd_sr2]
        · rw [if_neg (fun z => h9 z.2)]
          simp (disch := omega) only [hc, this, k_iT, k_iF, Bool.false_eq_true, eq_self, Nat.add_zero, k_lt', k_bs, k_T, k_F, k_inb, k_ck, k_nz, ↓kN, kL, k_lt, k_le, k_eq, kn_le, kn_lt, kn_eq, kn_le', kn_lt', kn_eq', nI_clamp, nI_add, k_sub, k_mul, k_div, rd_hi, rd_mi, rd_hl, rd_ml, rd_hr, rd_mr, rd_si2, rd_sl1, rd_sl2, rd_sr1, rd_sr2]
      · have : ¬ lx_dc T s (lx_re T n s - s) = lx_re T n s - s := fun z => ha (hdc.2.mp z)
        rw [if_neg (fun z => ha z.1)]
        simp (disch := omega) only [hc, this, k_iT, k_iF, Bool.false_eq_true, eq_self, Nat.add_zero, k_lt', k_bs, k_T, k_F, k_inb, k_ck, k_nz, ↓kN, kL, k_lt, k_le, k_eq, kn_le, kn_lt, kn_eq, kn_le', kn_lt', kn_eq', nI_clamp, nI_add, k_sub, k_mul, k_div, rd_hi, rd_mi, rd_hl, rd_ml, rd_hr, rd_mr, rd_si2, rd_sl1, rd_sl2, rd_sr1, rd_sr2]
    · simp only [if_neg hd]
      by_cases h8 : lx_re T n s - s ≤ 8
      · rw [if_pos h8]
        simp (disch := omega) only [hc, c_word, k_iT, k_iF, Bool.false_eq_true, eq_self, Nat.add_zero, k_lt', k_bs, k_T, k_F, k_inb, k_ck, k_nz, ↓kN, kL, k_lt, k_le, k_eq, kn_le, kn_lt, kn_eq, kn_le', kn_lt', kn_eq', nI_clamp, nI_add, k_sub, k_mul, k_div, rd_hi, rd_mi, rd_hl, rd_ml, rd_hr, rd_mr, rd_si2, rd_sl1, rd_sl2, rd_sr1, rd_sr2]
      · rw [if_neg h8]
        simp (disch := omega) only [hc, k_iT, k_iF, Bool.false_eq_true, eq_self, Nat.add_zero, k_lt', k_bs, k_T, k_F, k_inb, k_ck, k_nz, ↓kN, kL, k_lt, k_le, k_eq, kn_le, kn_lt, kn_eq, kn_le', kn_lt', kn_eq', nI_clamp, nI_add, k_sub, k_mul, k_div, rd_hi, rd_mi, rd_hl, rd_ml, rd_hr, rd_mr, rd_si2, rd_sl1, rd_sl2, rd_sr1, rd_sr2]
  have key : ∀ d k, lx_re T n s - (s + k) = d → s + k ≤ lx_re T n s → mv_loop (fun (s : Int32 × Int32 × Int32 × Int64 × Int64) M => gX8_scanRow_10 s.1 s.2.1 s.2.2.1 s.2.2.2.1 s.2.2.2.2 M) (nI s, nI (s + k), nI (lx_dc T s k), lx_lt T s k, lx_cv T s k) M = some (nI (lx_re T n s), mv_sl (mv_si M 40 c (nI (lx_kd T n s))) 42 c (lx_tx T n s)) := by
    intro d
    induction d with
    | zero =>
      intro k hd hk
      obtain rfl : k = lx_re T n s - s := by omega
      rw [show s + (lx_re T n s - s) = lx_re T n s by omega]
      refine lp_out ?_
      show gX8_scanRow_10 _ _ _ _ _ M = _
      unfold gX8_scanRow_10
      by_cases hn : lx_re T n s < n
      · have hz : t_rw (T (lx_re T n s)) ≠ true := by
          intro z
          have hx : ∀ d p, n - p = d → p ≤ n → lx_re T n p < n → t_rw (T (lx_re T n p)) ≠ true := by
            intro d
            induction d with
            | zero => intro p h1 h2 h3; have := lx_re_le (T := T) (n := n) (p := p) h2; omega
            | succ d ih =>
              intro p h1 h2 h3
              by_cases hb : t_rw (T p) = true
              · rw [lx_reS (by omega) hb] at h3 ⊢
                exact ih (p + 1) (by omega) (by omega) h3
              · rw [lx_reZ (fun z => hb z.2)]
                exact hb
          exact hx _ s rfl (by omega) hn z
        simp (disch := omega) only [h1, c_row ⟨h1, h2, h3⟩ hn, hz, fin, k_iT, k_iF, Bool.false_eq_true, eq_self, Nat.add_zero, k_lt', k_bs, k_T, k_F, k_inb, k_ck, k_nz, ↓kN, kL, k_lt, k_le, k_eq, kn_le, kn_lt, kn_eq, kn_le', kn_lt', kn_eq', nI_clamp, nI_add, k_sub, k_mul, k_div, rd_hi, rd_mi, rd_hl, rd_ml, rd_hr, rd_mr, rd_si2, rd_sl1, rd_sl2, rd_sr1, rd_sr2]
        rfl
      · simp (disch := omega) only [h1, fin, k_iT, k_iF, Bool.false_eq_true, eq_self, Nat.add_zero, k_lt', k_bs, k_T, k_F, k_inb, k_ck, k_nz, ↓kN, kL, k_lt, k_le, k_eq, kn_le, kn_lt, kn_eq, kn_le', kn_lt', kn_eq', nI_clamp, nI_add, k_sub, k_mul, k_div, rd_hi, rd_mi, rd_hl, rd_ml, rd_hr, rd_mr, rd_si2, rd_sl1, rd_sl2, rd_sr1, rd_sr2]
        rfl
    | succ d ih =>
      intro k hd hk
      have hb := lx_re_in (T := T) (n := n) (p := s) (j := s + k) (by omega) (by omega)
      have hkn : s + k < n := by omega
      have hb2 := t_rwP.mp hb
      refine (lp_go (s' := (nI s, nI (s + (k + 1)), nI (lx_dc T s (k + 1)), lx_lt T s (k + 1), lx_cv T s (k + 1))) (M' := M) ?_).trans (ih (k + 1) (by omega) (by omega))
      show gX8_scanRow_10 _ _ _ _ _ M = _
      unfold gX8_scanRow_10 fX8_scanRow_37
      simp only [lx_dc, lx_lt, lx_cv, ← Nat.add_assoc]
      have hbt := (h3 (s + k) hkn).1
      rw [sb_lo (by omega)] at hbt
      by_cases hd : t_dg (T (s + k)) = true
      · rw [if_pos hd, sb_lo (t := T (s + k)) (by omega)]
        simp (disch := omega) only [h1, c_row ⟨h1, h2, h3⟩ hkn, c_dig ⟨h1, h2, h3⟩ hkn, hb, hd, hbt, k_iT, k_iF, Bool.false_eq_true, eq_self, Nat.add_zero, k_lt', k_bs, k_T, k_F, k_inb, k_ck, k_nz, ↓kN, kL, k_lt, k_le, k_eq, kn_le, kn_lt, kn_eq, kn_le', kn_lt', kn_eq', nI_clamp, nI_add, k_sub, k_mul, k_div, rd_hi, rd_mi, rd_hl, rd_ml, rd_hr, rd_mr, rd_si2, rd_sl1, rd_sl2, rd_sr1, rd_sr2]
      · rw [if_neg hd, sb_lo (t := T (s + k)) (by omega)]
        simp (disch := omega) only [h1, c_row ⟨h1, h2, h3⟩ hkn, c_dig ⟨h1, h2, h3⟩ hkn, hb, hd, hbt, k_iT, k_iF, Bool.false_eq_true, eq_self, Nat.add_zero, k_lt', k_bs, k_T, k_F, k_inb, k_ck, k_nz, ↓kN, kL, k_lt, k_le, k_eq, kn_le, kn_lt, kn_eq, kn_le', kn_lt', kn_eq', nI_clamp, nI_add, k_sub, k_mul, k_div, rd_hi, rd_mi, rd_hl, rd_ml, rd_hr, rd_mr, rd_si2, rd_sl1, rd_sl2, rd_sr1, rd_sr2]
  exact key _ 0 rfl (by omega)
theorem c_scanSign {M : mv_M} {T : Nat → Nat} {n s c : Nat} (h : c_tape M T n) (hs : s < n) (hr : ¬ t_rw (T s) = true) (hc : M.1 2 2 = nI c) (hc2 : c < 1002) : fX8_scanSign (nI s) M = some (nI (lx_end T n s), mv_si M 40 c (nI (lx_kd T n s))) := by
  obtain ⟨h1, h2, h3⟩ := h
  have hb := h3 s hs
  have hb2 := hb.2
  unfold fX8_scanSign lx_end lx_kd
  rw [if_neg hr, if_neg hr]
  have tail : fX8_scanSign_48 (nI s) M = some (nI (s + 1), mv_si M 40 c (nI (lx_sg (T s)))) := by
    unfold fX8_scanSign_48 fX8_scanSign_184 lx_sg
    by_cases e : T s = 61 ∨ T s = 40 ∨ T s = 41 ∨ T s = 44 ∨ T s = 59 ∨ T s = 58 ∨ T s = 43 ∨ T s = 45 ∨ T s = 42 ∨ T s = 60
    · rw [if_pos e]
      rcases e with e | e | e | e | e | e | e | e | e | e <;> simp (disch := omega) only [hb.1, e, sb_eq, hc, sb_lo, k_iT, k_iF, Bool.false_eq_true, eq_self, Nat.add_zero, k_lt', k_bs, k_T, k_F, k_inb, k_ck, k_nz, ↓kN, kL, k_lt, k_le, k_eq, kn_le, kn_lt, kn_eq, kn_le', kn_lt', kn_eq', nI_clamp, nI_add, k_sub, k_mul, k_div, rd_hi, rd_mi, rd_hl, rd_ml, rd_hr, rd_mr, rd_si2, rd_sl1, rd_sl2, rd_sr1, rd_sr2]
    · rw [if_neg e]
      simp (disch := omega) only [hb.1, sb_eq, hc, k_iT, k_iF, Bool.false_eq_true, eq_self, Nat.add_zero, k_lt', k_bs, k_T, k_F, k_inb, k_ck, k_nz, ↓kN, kL, k_lt, k_le, k_eq, kn_le, kn_lt, kn_eq, kn_le', kn_lt', kn_eq', nI_clamp, nI_add, k_sub, k_mul, k_div, rd_hi, rd_mi, rd_hl, rd_ml, rd_hr, rd_mr, rd_si2, rd_sl1, rd_sl2, rd_sr1, rd_sr2]
  by_cases he : T s = 61 ∧ s + 1 < n ∧ T (s + 1) = 61
  · rw [if_pos he, if_pos he]
    have hb3 := h3 (s + 1) he.2.1
    have := he.2.1
    simp (disch := omega) only [hb.1, he.1, sb_eq, h1, hb3.1, he.2.2, hc, k_iT, k_iF, Bool.false_eq_true, eq_self, Nat.add_zero, k_lt', k_bs, k_T, k_F, k_inb, k_ck, k_nz, ↓kN, kL, k_lt, k_le, k_eq, kn_le, kn_lt, kn_eq, kn_le', kn_lt', kn_eq', nI_clamp, nI_add, k_sub, k_mul, k_div, rd_hi, rd_mi, rd_hl, rd_ml, rd_hr, rd_mr, rd_si2, rd_sl1, rd_sl2, rd_sr1, rd_sr2]
  · rw [if_neg he, if_neg he]
    by_cases e1 : T s = 61
    · by_cases e2 : s + 1 < n
      · have hb3 := h3 (s + 1) e2
        have hb4 := hb3.2
        have e3 : ¬ T (s + 1) = 61 := fun z => he ⟨e1, e2, z⟩
        simp (disch := omega) only [hb.1, e1, sb_eq, h1, hb3.1, tail, k_iT, k_iF, Bool.false_eq_true, eq_self, Nat.add_zero, k_lt', k_bs, k_T, k_F, k_inb, k_ck, k_nz, ↓kN, kL, k_lt, k_le, k_eq, kn_le, kn_lt, kn_eq, kn_le', kn_lt', kn_eq', nI_clamp, nI_add, k_sub, k_mul, k_div, rd_hi, rd_mi, rd_hl, rd_ml, rd_hr, rd_mr, rd_si2, rd_sl1, rd_sl2, rd_sr1, rd_sr2]
      · simp (disch := omega) only [hb.1, e1, sb_eq, h1, tail, k_iT, k_iF, Bool.false_eq_true, eq_self, Nat.add_zero, k_lt', k_bs, k_T, k_F, k_inb, k_ck, k_nz, ↓kN, kL, k_lt, k_le, k_eq, kn_le, kn_lt, kn_eq, kn_le', kn_lt', kn_eq', nI_clamp, nI_add, k_sub, k_mul, k_div, rd_hi, rd_mi, rd_hl, rd_ml, rd_hr, rd_mr, rd_si2, rd_sl1, rd_sl2, rd_sr1, rd_sr2]
    · simp (disch := omega) only [hb.1, sb_eq, h1, tail, k_iT, k_iF, Bool.false_eq_true, eq_self, Nat.add_zero, k_lt', k_bs, k_T, k_F, k_inb, k_ck, k_nz, ↓kN, kL, k_lt, k_le, k_eq, kn_le, kn_lt, kn_eq, kn_le', kn_lt', kn_eq', nI_clamp, nI_add, k_sub, k_mul, k_div, rd_hi, rd_mi, rd_hl, rd_ml, rd_hr, rd_mr, rd_si2, rd_sl1, rd_sl2, rd_sr1, rd_sr2]
