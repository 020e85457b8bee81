/-! INPUTS: what lies behind a value of a type -/
def bh (K : Nat → Nat) (n : Nat) : Nat → Nat → Nat → Option Nat
  | 0, _, _ => none
  | g + 1, t, i => if n ≤ i then none else if K i = 1 then some (i + 1) else if 0 < t then (if K i = 2 then (match bh K n g ((t - 1) / 2) (i + 1) with
    | none => none
    | some j => bh K n g ((t - 1) % 2) j) else none) else if K i = 0 then some (i + 1) else none
def bi : Option Nat → Int32
  | none => -1
  | some j => nI j
section DB
variable {n t i g : Nat} {M N : mv_M} {K : Nat → Nat}
theorem bh_le : ∀ g t i j, bh K n g t i = some j → j ≤ n := by
  intro g
  induction g with
  | zero => intro t i j h; cases h
  | succ g ih =>
    intro t i j h
    unfold bh at h
    by_cases c1 : n ≤ i
    · rw [if_pos c1] at h; cases h
    · rw [if_neg c1] at h
      by_cases c2 : K i = 1
      · rw [if_pos c2] at h; cases h; omega
      · rw [if_neg c2] at h
        by_cases c3 : 0 < t
        · rw [if_pos c3] at h
          by_cases c4 : K i = 2
          · rw [if_pos c4] at h
            cases hb : bh K n g ((t - 1) / 2) (i + 1) with
            | none => rw [hb] at h; cases h
            | some j' => rw [hb] at h; exact ih _ _ _ h
          · rw [if_neg c4] at h; cases h
        · rw [if_neg c3] at h
          by_cases c4 : K i = 0
          · rw [if_pos c4] at h; cases h; omega
          · rw [if_neg c4] at h; cases h
theorem cb_m1 {x : Int32} : RX1_behind (g + 1) 0 x (-1) M = some (-1, M) := by
  show fX1_behind _ x (-1) M = _
  unfold fX1_behind
  rw [if_pos (by decide)]
theorem c_bh (hn : n ≤ 40) (e6 : M.1 6 0 = nI n) (hK : ∀ i, i < n → K i ≤ 2 ∧ M.1 48 i = nI (K i)) : ∀ g t i, t ≤ 4 → 0 < g → (1 ≤ t → 1 < g) → (2 ≤ t → 2 < g) → i ≤ 40 → RX1_behind g 0 (nI t) (nI i) M = some (bi (bh K n g t i), M) := by
  intro g
  induction g with
  | zero => intro t i _ h; omega
  | succ g ih =>
    intro t i ht _ h1 h2 hi
    show fX1_behind (fun a0 a1 M => RX1_behind g 0 a0 a1 M) (nI t) (nI i) M = _
    unfold fX1_behind bh
    by_cases c1 : n ≤ i
    · rw [if_pos c1]
      simp (disch := omega) only [e6, k_iT, k_iF, Bool.false_eq_true, eq_self, Nat.add_zero, k_lt', k_bs, k_T, k_F, k_inb, k_ck, k_nz, ↓kN, kL, k_lt, k_le, k_eq, kn_le, kn_lt, kn_eq, kn_le', kn_lt', kn_eq', nI_clamp, nI_add, k_sub, k_mul, k_div, rd_hi, rd_mi, rd_hl, rd_ml, rd_hr, rd_mr, rd_si2, rd_sl1, rd_sl2, rd_sr1, rd_sr2]
      rfl
    · obtain ⟨k2, e48⟩ := hK i (by omega)
      rw [if_neg c1]
      by_cases c2 : K i = 1
      · rw [if_pos c2]
        simp (disch := omega) only [e6, e48, c2, k_iT, k_iF, Bool.false_eq_true, eq_self, Nat.add_zero, k_lt', k_bs, k_T, k_F, k_inb, k_ck, k_nz, ↓kN, kL, k_lt, k_le, k_eq, kn_le, kn_lt, kn_eq, kn_le', kn_lt', kn_eq', nI_clamp, nI_add, k_sub, k_mul, k_div, rd_hi, rd_mi, rd_hl, rd_ml, rd_hr, rd_mr, rd_si2, rd_sl1, rd_sl2, rd_sr1, rd_sr2]
        rfl
      · rw [if_neg c2]
        by_cases c3 : 0 < t
        · rw [if_pos c3]
          by_cases c4 : K i = 2
          · rw [if_pos c4]
            obtain ⟨g, rfl⟩ : ∃ g', g = g' + 1 := ⟨g - 1, by omega⟩
            have fs := (f_second (y := t) ht M).1
            have ff := (f_first (y := t) ht M).1
            have E1 := ih ((t - 1) / 2) (i + 1) (by omega) (by omega) (by omega) (by omega) (by omega)
            cases hb : bh K n (g + 1) ((t - 1) / 2) (i + 1) with
            | none =>
              rw [hb] at E1
              have m1 := cb_m1 (g := g) (M := M) (x := nI ((t - 1) % 2))
              simp (disch := omega) only [e6, e48, c4, fs, ff, k_iT, k_iF, Bool.false_eq_true, eq_self, Nat.add_zero, k_lt', k_bs, k_T, k_F, k_inb, k_ck, k_nz, ↓kN, kL, k_lt, k_le, k_eq, kn_le, kn_lt, kn_eq, kn_le', kn_lt', kn_eq', nI_clamp, nI_add, k_sub, k_mul, k_div, rd_hi, rd_mi, rd_hl, rd_ml, rd_hr, rd_mr, rd_si2, rd_sl1, rd_sl2, rd_sr1, rd_sr2]
              rw [E1, k_bs, show bi none = -1 from rfl, m1]
              rfl
            | some j =>
              rw [hb] at E1
              have E2 := ih ((t - 1) % 2) j (by omega) (by omega) (by omega) (by omega) (by have := bh_le _ _ _ _ hb; omega)
              simp (disch := omega) only [e6, e48, c4, fs, ff, k_iT, k_iF, Bool.false_eq_true, eq_self, Nat.add_zero, k_lt', k_bs, k_T, k_F, k_inb, k_ck, k_nz, ↓kN, kL, k_lt, k_le, k_eq, kn_le, kn_lt, kn_eq, kn_le', kn_lt', kn_eq', nI_clamp, nI_add, k_sub, k_mul, k_div, rd_hi, rd_mi, rd_hl, rd_ml, rd_hr, rd_mr, rd_si2, rd_sl1, rd_sl2, rd_sr1, rd_sr2]
              rw [E1, k_bs, show bi (some j) = nI j from rfl, E2]
              rfl
          · rw [if_neg c4]
            simp (disch := omega) only [e6, e48, k_iT, k_iF, Bool.false_eq_true, eq_self, Nat.add_zero, k_lt', k_bs, k_T, k_F, k_inb, k_ck, k_nz, ↓kN, kL, k_lt, k_le, k_eq, kn_le, kn_lt, kn_eq, kn_le', kn_lt', kn_eq', nI_clamp, nI_add, k_sub, k_mul, k_div, rd_hi, rd_mi, rd_hl, rd_ml, rd_hr, rd_mr, rd_si2, rd_sl1, rd_sl2, rd_sr1, rd_sr2]
            rfl
        · rw [if_neg c3]
          by_cases c4 : K i = 0
          · rw [if_pos c4]
            simp (disch := omega) only [e6, e48, c4, k_iT, k_iF, Bool.false_eq_true, eq_self, Nat.add_zero, k_lt', k_bs, k_T, k_F, k_inb, k_ck, k_nz, ↓kN, kL, k_lt, k_le, k_eq, kn_le, kn_lt, kn_eq, kn_le', kn_lt', kn_eq', nI_clamp, nI_add, k_sub, k_mul, k_div, rd_hi, rd_mi, rd_hl, rd_ml, rd_hr, rd_mr, rd_si2, rd_sl1, rd_sl2, rd_sr1, rd_sr2]
            rfl
          · rw [if_neg c4]
            simp (disch := omega) only [e6, e48, k_iT, k_iF, Bool.false_eq_true, eq_self, Nat.add_zero, k_lt', k_bs, k_T, k_F, k_inb, k_ck, k_nz, ↓kN, kL, k_lt, k_le, k_eq, kn_le, kn_lt, kn_eq, kn_le', kn_lt', kn_eq', nI_clamp, nI_add, k_sub, k_mul, k_div, rd_hi, rd_mi, rd_hl, rd_ml, rd_hr, rd_mr, rd_si2, rd_sl1, rd_sl2, rd_sr1, rd_sr2]
            rfl
end DB
