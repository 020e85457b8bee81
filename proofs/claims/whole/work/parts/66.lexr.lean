/-! the reference's tokens -/
def r_tape (M : mv_M) (T : Nat → Nat) (n : Nat) : Prop := M.1 62 2 = nI n ∧ n ≤ 4000 ∧ ∀ k, k < n → M.1 63 k = nI (T k) ∧ T k < 256
theorem r_dig {M : mv_M} {t : Nat} (h : t < 256) : fX11_isDigit (nI t) M = some (if t_dg t = true then 1 else 0, M) := by
  unfold fX11_isDigit
  by_cases hd : t_dg t = true
  · rw [if_pos hd]
    rw [t_dgP] at hd
    simp (disch := omega) only [k_iT, k_iF, Bool.false_eq_true, eq_self, Nat.add_zero, k_lt', k_bs, k_T, k_F, k_inb, k_ck, k_nz, ↓kN, kL, k_lt, k_le, k_eq, kn_le, kn_lt, kn_eq, kn_le', kn_lt', kn_eq', nI_clamp, nI_add, k_sub, k_mul, k_div, rd_hi, rd_mi, rd_hl, rd_ml, rd_hr, rd_mr, rd_si2, rd_sl1, rd_sl2, rd_sr1, rd_sr2]
  · rw [if_neg hd]
    rw [t_dgP] at hd
    by_cases hl : t < 48
    · simp (disch := omega) only [k_iT, k_iF, Bool.false_eq_true, eq_self, Nat.add_zero, k_lt', k_bs, k_T, k_F, k_inb, k_ck, k_nz, ↓kN, kL, k_lt, k_le, k_eq, kn_le, kn_lt, kn_eq, kn_le', kn_lt', kn_eq', nI_clamp, nI_add, k_sub, k_mul, k_div, rd_hi, rd_mi, rd_hl, rd_ml, rd_hr, rd_mr, rd_si2, rd_sl1, rd_sl2, rd_sr1, rd_sr2]
    · simp (disch := omega) only [k_iT, k_iF, Bool.false_eq_true, eq_self, Nat.add_zero, k_lt', k_bs, k_T, k_F, k_inb, k_ck, k_nz, ↓kN, kL, k_lt, k_le, k_eq, kn_le, kn_lt, kn_eq, kn_le', kn_lt', kn_eq', nI_clamp, nI_add, k_sub, k_mul, k_div, rd_hi, rd_mi, rd_hl, rd_ml, rd_hr, rd_mr, rd_si2, rd_sl1, rd_sl2, rd_sr1, rd_sr2]
theorem r_row {M : mv_M} {t : Nat} (h : t < 256) : fX11_isRow (nI t) M = some (if t_rw t = true then 1 else 0, M) := by
  unfold fX11_isRow fX11_isRow_19
  rw [r_dig h]
  by_cases hd : t_dg t = true
  · rw [if_pos hd, if_pos (t_rwP.mpr (.inl (t_dgP.mp hd)))]
    simp (disch := omega) only [k_iT, k_iF, Bool.false_eq_true, eq_self, Nat.add_zero, k_lt', k_bs, k_T, k_F, k_inb, k_ck, k_nz, ↓kN, kL, k_lt, k_le, k_eq, kn_le, kn_lt, kn_eq, kn_le', kn_lt', kn_eq', nI_clamp, nI_add, k_sub, k_mul, k_div, rd_hi, rd_mi, rd_hl, rd_ml, rd_hr, rd_mr, rd_si2, rd_sl1, rd_sl2, rd_sr1, rd_sr2]
  · rw [if_neg hd]
    rw [t_dgP] at hd
    by_cases hr : t_rw t = true
    · rw [if_pos hr]
      rw [t_rwP] at hr
      simp (disch := omega) only [k_iT, k_iF, Bool.false_eq_true, eq_self, Nat.add_zero, k_lt', k_bs, k_T, k_F, k_inb, k_ck, k_nz, ↓kN, kL, k_lt, k_le, k_eq, kn_le, kn_lt, kn_eq, kn_le', kn_lt', kn_eq', nI_clamp, nI_add, k_sub, k_mul, k_div, rd_hi, rd_mi, rd_hl, rd_ml, rd_hr, rd_mr, rd_si2, rd_sl1, rd_sl2, rd_sr1, rd_sr2]
    · rw [if_neg hr]
      rw [t_rwP] at hr
      by_cases hl : t < 97
      · simp (disch := omega) only [k_iT, k_iF, Bool.false_eq_true, eq_self, Nat.add_zero, k_lt', k_bs, k_T, k_F, k_inb, k_ck, k_nz, ↓kN, kL, k_lt, k_le, k_eq, kn_le, kn_lt, kn_eq, kn_le', kn_lt', kn_eq', nI_clamp, nI_add, k_sub, k_mul, k_div, rd_hi, rd_mi, rd_hl, rd_ml, rd_hr, rd_mr, rd_si2, rd_sl1, rd_sl2, rd_sr1, rd_sr2]
      · simp (disch := omega) only [k_iT, k_iF, Bool.false_eq_true, eq_self, Nat.add_zero, k_lt', k_bs, k_T, k_F, k_inb, k_ck, k_nz, ↓kN, kL, k_lt, k_le, k_eq, kn_le, kn_lt, kn_eq, kn_le', kn_lt', kn_eq', nI_clamp, nI_add, k_sub, k_mul, k_div, rd_hi, rd_mi, rd_hl, rd_ml, rd_hr, rd_mr, rd_si2, rd_sl1, rd_sl2, rd_sr1, rd_sr2]
/-- a class's kind of token as the reference's -/
def lx_tk (k : Nat) : Nat := if k = 0 then 23 else if k = 1 then 0 else if k = 2 then 10 else if k = 3 then 11 else if k = 4 then 12 else if k = 61 then 13 else if k = 40 then 14 else if k = 41 then 15 else if k = 44 then 16 else if k = 59 then 17 else if k = 58 then 18 else if k = 43 then 19 else if k = 45 then 20 else if k = 42 then 21 else if k = 60 then 22 else k - 299
def lx_rw (x : Int64) : Nat := if x = mv_words 0 then 1 else if x = mv_words 1 then 2 else if x = mv_words 2 then 3 else if x = mv_words 3 then 4 else if x = mv_words 4 then 5 else if x = mv_words 5 then 6 else if x = mv_words 6 then 7 else if x = mv_words 7 then 8 else if x = mv_words 8 then 9 else 0
theorem r_word {M : mv_M} (x : Int64) : fX11_wordOf x M = some (nI (lx_rw x), M) := by
  have p0 : fX11_packed 0 110 117 109 M = some (mv_words 0, M) := congrArg (fun z => some (z, M)) (by decide +kernel)
  have p1 : fX11_packed 0 0 105 102 M = some (mv_words 1, M) := congrArg (fun z => some (z, M)) (by decide +kernel)
  have p2 : fX11_packed 116 104 101 110 M = some (mv_words 2, M) := congrArg (fun z => some (z, M)) (by decide +kernel)
  have p3 : fX11_packed 101 108 115 101 M = some (mv_words 3, M) := congrArg (fun z => some (z, M)) (by decide +kernel)
  have p4 : fX11_packed 0 108 101 116 M = some (mv_words 4, M) := congrArg (fun z => some (z, M)) (by decide +kernel)
  have p5 : fX11_packed 0 0 105 110 M = some (mv_words 5, M) := congrArg (fun z => some (z, M)) (by decide +kernel)
  have p6 : fX11_packed 99 97 115 101 M = some (mv_words 6, M) := congrArg (fun z => some (z, M)) (by decide +kernel)
  have p7 : fX11_packed 0 0 111 102 M = some (mv_words 7, M) := congrArg (fun z => some (z, M)) (by decide +kernel)
  have p8 : fX11_packed 102 97 105 108 M = some (mv_words 8, M) := congrArg (fun z => some (z, M)) (by decide +kernel)
  have cz : ∀ y : Int64, (lg_cmp x y = 0) = (x = y) := fun y => cmp0
  unfold fX11_wordOf lx_rw
  simp only [p0, p1, p2, p3, p4, p5, p6, p7, p8, k_bs, cz]
  repeat first | rfl | (split; rfl)
/-- the letters as a number -/
def lx_nv (T : Nat → Nat) (s : Nat) : Nat → Nat
  | 0 => 0
  | k + 1 => lx_nv T s k * 256 + T (s + k)
theorem lx_nv_lt {T : Nat → Nat} {s : Nat} : ∀ k, (∀ j, j < k → T (s + j) < 256) → lx_nv T s k < 256 ^ k := by
  intro k
  induction k with
  | zero => intro _; show 0 < 1; omega
  | succ k ih =>
    intro h
    have h1 := ih (fun j hj => h j (by omega))
    have h2 := h k (by omega)
    simp only [lx_nv, Nat.pow_succ]
    omega
theorem lx_nv_ge {T : Nat → Nat} {s : Nat} (h0 : 0 < T s) : ∀ k, 256 ^ k ≤ lx_nv T s (k + 1) := by
  intro k
  induction k with
  | zero => show 1 ≤ 0 * 256 + T (s + 0); rw [Nat.add_zero]; omega
  | succ k ih =>
    rw [lx_nv, Nat.pow_succ]
    omega
theorem lx_lt_nv {T : Nat → Nat} {s : Nat} : ∀ k, k ≤ 8 → (∀ j, j < k → T (s + j) < 128) → (lx_lt T s k).toBitVec.toNat = lx_nv T s k := by
  intro k
  induction k with
  | zero => intro _ _; rfl
  | succ k ih =>
    intro hk h
    have h1 := ih (by omega) (fun j hj => h j (by omega))
    have h2 := h k (by omega)
    have h3 := lx_nv_lt (T := T) (s := s) (k + 1) (fun j hj => by have := h j hj; omega)
    have h4 : lx_nv T s (k + 1) < 18446744073709551616 := Nat.lt_of_lt_of_le h3 (Nat.le_trans (Nat.pow_le_pow_right (by decide) hk) (by decide))
    clear h3
    simp only [lx_lt, lx_nv] at h4 ⊢
    have hx : ∀ x : Int64, x.toBitVec.toNat * 256 < 2 ^ 64 → ((x <<< ((8 : Int32).toInt64 &&& 63)) ||| (nI (T (s + k))).toInt64).toBitVec.toNat = x.toBitVec.toNat * 256 + T (s + k) := by
      intro x hx
      have e1 : (nI (T (s + k))).toInt64.toBitVec.toNat = T (s + k) := by
        have : (nI (T (s + k))).toInt64 = Int64.ofNat (T (s + k)) := by
          apply Int64.toInt_inj.mp
          rw [Int32.toInt_toInt64, nI_toInt (by omega), Int64.toInt_ofNat_of_lt (by omega)]
        rw [this]
        show (BitVec.ofNat 64 (T (s + k))).toNat = _
        rw [BitVec.toNat_ofNat]
        omega
      have e2 : (x <<< ((8 : Int32).toInt64 &&& 63)).toBitVec.toNat = x.toBitVec.toNat <<< 8 := by
        have : x <<< ((8 : Int32).toInt64 &&& 63) = x <<< (8 : Int64) := by
          congr 1
        rw [this, Int64.toBitVec_shiftLeft]
        show (x.toBitVec <<< ((8 : Int64).toBitVec.smod 64)).toNat = _
        rw [show (8 : Int64).toBitVec.smod 64 = (8 : BitVec 64) from by decide +kernel]
        rw [BitVec.shiftLeft_eq', BitVec.toNat_shiftLeft, show (8 : BitVec 64).toNat = 8 from rfl, Nat.shiftLeft_eq, Nat.mod_eq_of_lt (by omega)]
      rw [Int64.toBitVec_or, BitVec.toNat_or, e1, e2, ← Nat.shiftLeft_add_eq_or_of_lt (show T (s + k) < 2 ^ 8 by omega), Nat.shiftLeft_eq]
    rw [hx _ (by rw [h1]; exact Nat.lt_of_le_of_lt (Nat.le_add_right _ _) h4), h1]
theorem lx_long {T : Nat → Nat} {s k : Nat} (h5 : 5 ≤ k) (h8 : k ≤ 8) (h : ∀ j, j < k → T (s + j) < 128) (h0 : 0 < T s) : lx_wd (lx_lt T s k) = 2 ∧ lx_rw (lx_lt T s k) = 0 := by
  have h1 := lx_lt_nv k h8 h
  have h2 := lx_nv_ge (T := T) (s := s) h0 (k - 1)
  rw [show k - 1 + 1 = k by omega] at h2
  have h3 : 256 ^ 4 ≤ 256 ^ (k - 1) := Nat.pow_le_pow_right (by decide) (by omega)
  have h4 : 4294967296 ≤ (lx_lt T s k).toBitVec.toNat := by
    rw [h1]
    exact Nat.le_trans (show 4294967296 ≤ 256 ^ 4 by decide) (Nat.le_trans h3 h2)
  have hw : ∀ j : Nat, j < 9 → (mv_words j).toBitVec.toNat < 4294967296 := by decide +kernel
  have hne : ∀ j : Nat, j < 9 → mv_words j ≠ lx_lt T s k := fun j hj e => by
    have := hw j hj
    rw [e] at this
    omega
  unfold lx_wd lx_rw
  simp only [hne 0 (by omega), hne 1 (by omega), hne 2 (by omega), hne 3 (by omega), hne 4 (by omega), hne 5 (by omega), hne 6 (by omega), hne 7 (by omega), hne 8 (by omega), (hne 0 (by omega)).symm, (hne 1 (by omega)).symm, (hne 2 (by omega)).symm, (hne 3 (by omega)).symm, (hne 4 (by omega)).symm, (hne 5 (by omega)).symm, (hne 6 (by omega)).symm, (hne 7 (by omega)).symm, (hne 8 (by omega)).symm, if_false, and_self]
theorem lx_wr (x : Int64) : lx_rw x = lx_wd x - 299 ∧ (lx_wd x = 2 ∨ (300 ≤ lx_wd x ∧ lx_wd x ≤ 308)) := by
  unfold lx_rw lx_wd
  by_cases h0 : mv_words 0 = x
  · rw [if_pos h0, if_pos h0.symm]; omega
  rw [if_neg h0, if_neg (Ne.symm h0)]
  by_cases h1 : mv_words 1 = x
  · rw [if_pos h1, if_pos h1.symm]; omega
  rw [if_neg h1, if_neg (Ne.symm h1)]
  by_cases h2 : mv_words 2 = x
  · rw [if_pos h2, if_pos h2.symm]; omega
  rw [if_neg h2, if_neg (Ne.symm h2)]
  by_cases h3 : mv_words 3 = x
  · rw [if_pos h3, if_pos h3.symm]; omega
  rw [if_neg h3, if_neg (Ne.symm h3)]
  by_cases h4 : mv_words 4 = x
  · rw [if_pos h4, if_pos h4.symm]; omega
  rw [if_neg h4, if_neg (Ne.symm h4)]
  by_cases h5 : mv_words 5 = x
  · rw [if_pos h5, if_pos h5.symm]; omega
  rw [if_neg h5, if_neg (Ne.symm h5)]
  by_cases h6 : mv_words 6 = x
  · rw [if_pos h6, if_pos h6.symm]; omega
  rw [if_neg h6, if_neg (Ne.symm h6)]
  by_cases h7 : mv_words 7 = x
  · rw [if_pos h7, if_pos h7.symm]; omega
  rw [if_neg h7, if_neg (Ne.symm h7)]
  by_cases h8 : mv_words 8 = x
  · rw [if_pos h8, if_pos h8.symm]; omega
  rw [if_neg h8, if_neg (Ne.symm h8)]
  omega
