/-! the class scans -/
theorem lp_go {σ τ : Type} {g : σ → mv_M → Option ((σ ⊕ τ) × mv_M)} {s s' : σ} {M M' : mv_M} (h : g s M = some (.inl s', M')) : mv_loop g s M = mv_loop g s' M' := by
  rw [mv_loop_eq, h]
theorem lp_out {σ τ : Type} {g : σ → mv_M → Option ((σ ⊕ τ) × mv_M)} {s : σ} {M M' : mv_M} {t : τ} (h : g s M = some (.inr t, M')) : mv_loop g s M = some (t, M') := by
  rw [mv_loop_eq, h]
theorem sb_i {t : Nat} (h : t < 256) : (sb_b t).toInt = if t < 128 then (t : Int) else (t : Int) - 256 := by
  have : ∀ t, t < 256 → (sb_b t).toInt = if t < 128 then (t : Int) else (t : Int) - 256 := by decide +kernel
  exact this t h
theorem sb_eq {t c : Nat} (ht : t < 256) (hc : c < 128) : (sb_b t = nI c) = (t = c) := by
  rw [← Int32.toInt_inj, sb_i ht, nI_toInt (by omega)]
  apply propext
  by_cases h : t < 128
  · rw [if_pos h]; omega
  · rw [if_neg h]; omega
theorem sb_lt {t c : Nat} (ht : t < 256) (hc : c < 128) : (sb_b t < nI c) = (t < c ∨ 128 ≤ t) := by
  rw [lt_toInt, sb_i ht, nI_toInt (by omega)]
  apply propext
  by_cases h : t < 128
  · rw [if_pos h]; omega
  · rw [if_neg h]; omega
theorem sb_gt {t c : Nat} (ht : t < 256) (hc : c < 128) : (nI c < sb_b t) = (c < t ∧ t < 128) := by
  rw [lt_toInt, sb_i ht, nI_toInt (by omega)]
  apply propext
  by_cases h : t < 128
  · rw [if_pos h]; omega
  · rw [if_neg h]; omega
/-- the class's tape is T, n bytes -/
def c_tape (M : mv_M) (T : Nat → Nat) (n : Nat) : Prop := M.1 2 1 = nI n ∧ n ≤ 4000 ∧ ∀ k, k < n → M.1 39 k = sb_b (T k) ∧ T k < 256
theorem c_past {M : mv_M} {T : Nat → Nat} {n : Nat} (h : c_tape M T n) : ∀ d p, p ≤ n → n - p = d → fX8_pastBlanks (nI p) M = some (nI (lx_sk T n p), M) := by
  obtain ⟨h1, h2, h3⟩ := h
  intro d
  induction d with
  | zero =>
    intro p hp hd
    rw [lx_skZ (by omega)]
    refine lp_out ?_
    unfold gX8_pastBlanks_2
    simp (disch := omega) only [h1, k_iT, k_iF, k_lt', k_bs, k_T, k_F, k_inb, k_ck, k_nz, ↓kN, kL, k_lt, k_le, k_eq, kn_le, kn_lt, kn_eq, kn_le', kn_lt', kn_eq', nI_clamp, nI_add, k_sub, k_mul, k_div, rd_hi, rd_mi, rd_hl, rd_ml, rd_hr, rd_mr, rd_si2, rd_sl1, rd_sl2, rd_sr1, rd_sr2]
  | succ d ih =>
    intro p hp hd
    have hb := h3 p (by omega)
    by_cases hbl : t_bl (T p) = true
    · rw [lx_skS (by omega) hbl]
      refine (lp_go ?_).trans (ih (p + 1) (by omega) (by omega))
      unfold gX8_pastBlanks_2 fX8_pastBlanks_32
      rw [t_blP] at hbl
      rcases hbl with z | z
      · simp (disch := omega) only [h1, hb.1, z, sb_eq, k_iT, k_iF, k_lt', k_bs, k_T, k_F, k_inb, k_ck, k_nz, ↓kN, kL, k_lt, k_le, k_eq, kn_le, kn_lt, kn_eq, kn_le', kn_lt', kn_eq', nI_clamp, nI_add, k_sub, k_mul, k_div, rd_hi, rd_mi, rd_hl, rd_ml, rd_hr, rd_mr, rd_si2, rd_sl1, rd_sl2, rd_sr1, rd_sr2]
      · simp (disch := omega) only [h1, hb.1, z, sb_eq, k_iT, k_iF, k_lt', k_bs, k_T, k_F, k_inb, k_ck, k_nz, ↓kN, kL, k_lt, k_le, k_eq, kn_le, kn_lt, kn_eq, kn_le', kn_lt', kn_eq', nI_clamp, nI_add, k_sub, k_mul, k_div, rd_hi, rd_mi, rd_hl, rd_ml, rd_hr, rd_mr, rd_si2, rd_sl1, rd_sl2, rd_sr1, rd_sr2]
    · rw [lx_skZ (fun z => hbl z.2)]
      refine lp_out ?_
      unfold gX8_pastBlanks_2
      rw [t_blP] at hbl
      have := hb.2
      simp (disch := omega) only [h1, hb.1, sb_eq, k_iT, k_iF, k_lt', k_bs, k_T, k_F, k_inb, k_ck, k_nz, ↓kN, kL, k_lt, k_le, k_eq, kn_le, kn_lt, kn_eq, kn_le', kn_lt', kn_eq', nI_clamp, nI_add, k_sub, k_mul, k_div, rd_hi, rd_mi, rd_hl, rd_ml, rd_hr, rd_mr, rd_si2, rd_sl1, rd_sl2, rd_sr1, rd_sr2]
theorem c_dig {M : mv_M} {T : Nat → Nat} {n p : Nat} (h : c_tape M T n) (hp : p < n) : fX8_isDigit (nI p) M = some (if t_dg (T p) = true then 1 else 0, M) := by
  obtain ⟨h1, h2, h3⟩ := h
  obtain ⟨hb, hc⟩ := h3 p hp
  unfold fX8_isDigit
  by_cases hd : t_dg (T p) = true
  · rw [if_pos hd]
    rw [t_dgP] at hd
    simp (disch := omega) only [h1, hb, sb_lt, sb_gt, k_iT, k_iF, k_lt', k_bs, k_T, k_F, k_inb, k_ck, k_nz, ↓kN, kL, k_lt, k_le, k_eq, kn_le, kn_lt, kn_eq, kn_le', kn_lt', kn_eq', nI_clamp, nI_add, k_sub, k_mul, k_div, rd_hi, rd_mi, rd_hl, rd_ml, rd_hr, rd_mr, rd_si2, rd_sl1, rd_sl2, rd_sr1, rd_sr2]
  · rw [if_neg hd]
    rw [t_dgP] at hd
    by_cases hl : T p < 48 ∨ 128 ≤ T p
    · simp (disch := omega) only [h1, hb, sb_lt, sb_gt, k_iT, k_iF, k_lt', k_bs, k_T, k_F, k_inb, k_ck, k_nz, ↓kN, kL, k_lt, k_le, k_eq, kn_le, kn_lt, kn_eq, kn_le', kn_lt', kn_eq', nI_clamp, nI_add, k_sub, k_mul, k_div, rd_hi, rd_mi, rd_hl, rd_ml, rd_hr, rd_mr, rd_si2, rd_sl1, rd_sl2, rd_sr1, rd_sr2]
    · simp (disch := omega) only [h1, hb, sb_lt, sb_gt, k_iT, k_iF, k_lt', k_bs, k_T, k_F, k_inb, k_ck, k_nz, ↓kN, kL, k_lt, k_le, k_eq, kn_le, kn_lt, kn_eq, kn_le', kn_lt', kn_eq', nI_clamp, nI_add, k_sub, k_mul, k_div, rd_hi, rd_mi, rd_hl, rd_ml, rd_hr, rd_mr, rd_si2, rd_sl1, rd_sl2, rd_sr1, rd_sr2]
theorem c_row {M : mv_M} {T : Nat → Nat} {n p : Nat} (h : c_tape M T n) (hp : p < n) : fX8_isOfRow (nI p) M = some (if t_rw (T p) = true then 1 else 0, M) := by
  unfold fX8_isOfRow fX8_isOfRow_38
  rw [c_dig h hp]
  obtain ⟨h1, h2, h3⟩ := h
  obtain ⟨hb, hc⟩ := h3 p hp
  by_cases hd : t_dg (T p) = true
  · rw [if_pos hd, if_pos (t_rwP.mpr (.inl (t_dgP.mp hd)))]
    simp (disch := omega) only [k_iT, k_iF, k_lt', k_bs, k_T, k_F, k_inb, k_ck, k_nz, ↓kN, kL, k_lt, k_le, k_eq, kn_le, kn_lt, kn_eq, kn_le', kn_lt', kn_eq', nI_clamp, nI_add, k_sub, k_mul, k_div, rd_hi, rd_mi, rd_hl, rd_ml, rd_hr, rd_mr, rd_si2, rd_sl1, rd_sl2, rd_sr1, rd_sr2]
  · rw [if_neg hd]
    rw [t_dgP] at hd
    by_cases hr : t_rw (T p) = true
    · rw [if_pos hr]
      rw [t_rwP] at hr
      simp (disch := omega) only [h1, hb, sb_lt, sb_gt, k_iT, k_iF, k_lt', k_bs, k_T, k_F, k_inb, k_ck, k_nz, ↓kN, kL, k_lt, k_le, k_eq, kn_le, kn_lt, kn_eq, kn_le', kn_lt', kn_eq', nI_clamp, nI_add, k_sub, k_mul, k_div, rd_hi, rd_mi, rd_hl, rd_ml, rd_hr, rd_mr, rd_si2, rd_sl1, rd_sl2, rd_sr1, rd_sr2]
    · rw [if_neg hr]
      rw [t_rwP] at hr
      by_cases hl : T p < 97 ∨ 128 ≤ T p
      · simp (disch := omega) only [h1, hb, sb_lt, sb_gt, k_iT, k_iF, k_lt', k_bs, k_T, k_F, k_inb, k_ck, k_nz, ↓kN, kL, k_lt, k_le, k_eq, kn_le, kn_lt, kn_eq, kn_le', kn_lt', kn_eq', nI_clamp, nI_add, k_sub, k_mul, k_div, rd_hi, rd_mi, rd_hl, rd_ml, rd_hr, rd_mr, rd_si2, rd_sl1, rd_sl2, rd_sr1, rd_sr2]
      · simp (disch := omega) only [h1, hb, sb_lt, sb_gt, k_iT, k_iF, k_lt', k_bs, k_T, k_F, k_inb, k_ck, k_nz, ↓kN, kL, k_lt, k_le, k_eq, kn_le, kn_lt, kn_eq, kn_le', kn_lt', kn_eq', nI_clamp, nI_add, k_sub, k_mul, k_div, rd_hi, rd_mi, rd_hl, rd_ml, rd_hr, rd_mr, rd_si2, rd_sl1, rd_sl2, rd_sr1, rd_sr2]
theorem cmp0 {x y : Int64} : (lg_cmp x y = nI 0) = (x = y) := by
  apply propext
  constructor
  · intro h
    have h1 : ¬ x < y := fun z => by
      have := (lg_cmp_lt x y).mpr z
      rw [h] at this
      exact absurd this (by decide)
    have h2 : ¬ y < x := fun z => by
      have := (lg_cmp_gt x y).mpr z
      rw [h] at this
      exact absurd this (by decide)
    rw [Int64.lt_iff_toInt_lt] at h1 h2
    exact Int64.toInt_inj.mp (by omega)
  · rintro rfl
    exact ok_cmp x
theorem c_word {M : mv_M} (x : Int64) : fX8_wordOrName x M = some (nI (lx_wd x), M) := by
  have go : ∀ j : Nat, j < 9 → mv_words j ≠ x → mv_loop (fun (s : Int64 × Int32) M => gX8_wordOrName_2 s.1 s.2 M) (x, nI j) M = mv_loop (fun (s : Int64 × Int32) M => gX8_wordOrName_2 s.1 s.2 M) (x, nI (j + 1)) M := fun j hj hx => by
    refine lp_go ?_
    show gX8_wordOrName_2 x (nI j) M = _
    unfold gX8_wordOrName_2
    simp (disch := omega) only [cmp0, hx, k_iT, k_iF, k_lt', k_bs, k_T, k_F, k_inb, k_ck, k_nz, ↓kN, kL, k_lt, k_le, k_eq, kn_le, kn_lt, kn_eq, kn_le', kn_lt', kn_eq', nI_clamp, nI_add, k_sub, k_mul, k_div, rd_hi, rd_mi, rd_hl, rd_ml, rd_hr, rd_mr, rd_si2, rd_sl1, rd_sl2, rd_sr1, rd_sr2]
  have out : ∀ j : Nat, j < 9 → mv_words j = x → mv_loop (fun (s : Int64 × Int32) M => gX8_wordOrName_2 s.1 s.2 M) (x, nI j) M = some (nI (300 + j), M) := fun j hj hx => by
    refine lp_out ?_
    show gX8_wordOrName_2 x (nI j) M = _
    unfold gX8_wordOrName_2
    simp (disch := omega) only [cmp0, hx, k_iT, k_iF, k_lt', k_bs, k_T, k_F, k_inb, k_ck, k_nz, ↓kN, kL, k_lt, k_le, k_eq, kn_le, kn_lt, kn_eq, kn_le', kn_lt', kn_eq', nI_clamp, nI_add, k_sub, k_mul, k_div, rd_hi, rd_mi, rd_hl, rd_ml, rd_hr, rd_mr, rd_si2, rd_sl1, rd_sl2, rd_sr1, rd_sr2]
  have fin : mv_loop (fun (s : Int64 × Int32) M => gX8_wordOrName_2 s.1 s.2 M) (x, nI 9) M = some (nI 2, M) := by
    refine lp_out ?_
    show gX8_wordOrName_2 x (nI 9) M = _
    unfold gX8_wordOrName_2
    simp (disch := omega) only [k_iT, k_iF, k_lt', k_bs, k_T, k_F, k_inb, k_ck, k_nz, ↓kN, kL, k_lt, k_le, k_eq, kn_le, kn_lt, kn_eq, kn_le', kn_lt', kn_eq', nI_clamp, nI_add, k_sub, k_mul, k_div, rd_hi, rd_mi, rd_hl, rd_ml, rd_hr, rd_mr, rd_si2, rd_sl1, rd_sl2, rd_sr1, rd_sr2]
  show mv_loop (fun (s : Int64 × Int32) M => gX8_wordOrName_2 s.1 s.2 M) (x, nI 0) M = _
  unfold lx_wd
  by_cases h0 : mv_words 0 = x
  · rw [if_pos h0, out 0 (by omega) h0]
  rw [if_neg h0, go 0 (by omega) h0]
  by_cases h1 : mv_words 1 = x
  · rw [if_pos h1, out 1 (by omega) h1]
  rw [if_neg h1, go 1 (by omega) h1]
  by_cases h2 : mv_words 2 = x
  · rw [if_pos h2, out 2 (by omega) h2]
  rw [if_neg h2, go 2 (by omega) h2]
  by_cases h3 : mv_words 3 = x
  · rw [if_pos h3, out 3 (by omega) h3]
  rw [if_neg h3, go 3 (by omega) h3]
  by_cases h4 : mv_words 4 = x
  · rw [if_pos h4, out 4 (by omega) h4]
  rw [if_neg h4, go 4 (by omega) h4]
  by_cases h5 : mv_words 5 = x
  · rw [if_pos h5, out 5 (by omega) h5]
  rw [if_neg h5, go 5 (by omega) h5]
  by_cases h6 : mv_words 6 = x
  · rw [if_pos h6, out 6 (by omega) h6]
  rw [if_neg h6, go 6 (by omega) h6]
  by_cases h7 : mv_words 7 = x
  · rw [if_pos h7, out 7 (by omega) h7]
  rw [if_neg h7, go 7 (by omega) h7]
  by_cases h8 : mv_words 8 = x
  · rw [if_pos h8, out 8 (by omega) h8]
  rw [if_neg h8, go 8 (by omega) h8]
  exact fin
