/-! the TOKENS of a text T of n bytes, as functions: no memory -/
def lx_f (c : Nat → Bool) : Nat → Nat → Nat
  | 0, p => p
  | k + 1, p => if c p = true then lx_f c k (p + 1) else p
theorem lx_f_ge {c : Nat → Bool} : ∀ k p, p ≤ lx_f c k p ∧ lx_f c k p ≤ p + k := by
  intro k
  induction k with
  | zero => intro p; exact ⟨Nat.le_refl _, Nat.le_refl _⟩
  | succ k ih =>
    intro p
    unfold lx_f
    have := ih (p + 1)
    by_cases h : c p = true
    · rw [if_pos h]; omega
    · rw [if_neg h]; omega
theorem lx_f_in {c : Nat → Bool} : ∀ k p j, p ≤ j → j < lx_f c k p → c j = true := by
  intro k
  induction k with
  | zero => intro p j h1 h2; unfold lx_f at h2; omega
  | succ k ih =>
    intro p j h1 h2
    unfold lx_f at h2
    by_cases h : c p = true
    · rw [if_pos h] at h2
      by_cases hj : j = p
      · rw [hj]; exact h
      · exact ih (p + 1) j (by omega) h2
    · rw [if_neg h] at h2; omega
def t_bl (t : Nat) : Bool := decide (t = 32) || decide (t = 10)
def t_dg (t : Nat) : Bool := decide (48 ≤ t) && decide (t ≤ 57)
def t_rw (t : Nat) : Bool := t_dg t || (decide (97 ≤ t) && decide (t ≤ 122))
theorem t_blP {t : Nat} : t_bl t = true ↔ t = 32 ∨ t = 10 := by unfold t_bl; simp
theorem t_dgP {t : Nat} : t_dg t = true ↔ 48 ≤ t ∧ t ≤ 57 := by unfold t_dg; simp
theorem t_rwP {t : Nat} : t_rw t = true ↔ (48 ≤ t ∧ t ≤ 57) ∨ (97 ≤ t ∧ t ≤ 122) := by unfold t_rw t_dg; simp
/-- past blanks -/
def lx_sk (T : Nat → Nat) (n p : Nat) : Nat := lx_f (fun j => t_bl (T j)) (n - p) p
/-- past a row -/
def lx_re (T : Nat → Nat) (n p : Nat) : Nat := lx_f (fun j => t_rw (T j)) (n - p) p
theorem lx_skS {T : Nat → Nat} {n p : Nat} (h : p < n) (hb : t_bl (T p) = true) : lx_sk T n p = lx_sk T n (p + 1) := by
  unfold lx_sk
  rw [show n - p = (n - (p + 1)) + 1 by omega]
  show (if t_bl (T p) = true then _ else _) = _
  rw [if_pos hb]
theorem lx_skZ {T : Nat → Nat} {n p : Nat} (h : ¬ (p < n ∧ t_bl (T p) = true)) : lx_sk T n p = p := by
  unfold lx_sk
  by_cases hp : p < n
  · rw [show n - p = (n - (p + 1)) + 1 by omega]
    show (if t_bl (T p) = true then _ else _) = _
    rw [if_neg (fun z => h ⟨hp, z⟩)]
  · rw [show n - p = 0 by omega]
    rfl
theorem lx_reS {T : Nat → Nat} {n p : Nat} (h : p < n) (hb : t_rw (T p) = true) : lx_re T n p = lx_re T n (p + 1) := by
  unfold lx_re
  rw [show n - p = (n - (p + 1)) + 1 by omega]
  show (if t_rw (T p) = true then _ else _) = _
  rw [if_pos hb]
theorem lx_reZ {T : Nat → Nat} {n p : Nat} (h : ¬ (p < n ∧ t_rw (T p) = true)) : lx_re T n p = p := by
  unfold lx_re
  by_cases hp : p < n
  · rw [show n - p = (n - (p + 1)) + 1 by omega]
    show (if t_rw (T p) = true then _ else _) = _
    rw [if_neg (fun z => h ⟨hp, z⟩)]
  · rw [show n - p = 0 by omega]
    rfl
theorem lx_sk_le {T : Nat → Nat} {n p : Nat} (h : p ≤ n) : p ≤ lx_sk T n p ∧ lx_sk T n p ≤ n := by
  have := lx_f_ge (c := fun j => t_bl (T j)) (n - p) p
  unfold lx_sk
  omega
theorem lx_re_le {T : Nat → Nat} {n p : Nat} (h : p ≤ n) : p ≤ lx_re T n p ∧ lx_re T n p ≤ n := by
  have := lx_f_ge (c := fun j => t_rw (T j)) (n - p) p
  unfold lx_re
  omega
theorem lx_re_in {T : Nat → Nat} {n p j : Nat} (h1 : p ≤ j) (h2 : j < lx_re T n p) : t_rw (T j) = true := lx_f_in (c := fun j => t_rw (T j)) (n - p) p j h1 h2
/-- the letters of a row, packed -/
def lx_lt (T : Nat → Nat) (s : Nat) : Nat → Int64
  | 0 => 0
  | k + 1 => (lx_lt T s k <<< ((8 : Int32).toInt64 &&& 63)) ||| (nI (T (s + k))).toInt64
/-- a row's value, as the class reckons it, and as the reference does -/
def lx_cv (T : Nat → Nat) (s : Nat) : Nat → Int64
  | 0 => 0
  | k + 1 => lx_cv T s k * 10 + (sb_b (T (s + k)) - 48).toInt64
def lx_rv (T : Nat → Nat) (s : Nat) : Nat → Int64
  | 0 => 0
  | k + 1 => if lg_cmp (lx_rv T s k) 1000000000 ≤ 0 then ((10 * lx_rv T s k) + (nI (T (s + k))).toInt64) - 48 else lx_rv T s k
/-- how many of k bytes are digits; whether all are -/
def lx_dc (T : Nat → Nat) (s : Nat) : Nat → Nat
  | 0 => 0
  | k + 1 => lx_dc T s k + (if t_dg (T (s + k)) = true then 1 else 0)
def lx_ad (T : Nat → Nat) (s : Nat) : Nat → Bool
  | 0 => true
  | k + 1 => lx_ad T s k && t_dg (T (s + k))
theorem lx_dc_ad {T : Nat → Nat} {s : Nat} : ∀ k, lx_dc T s k ≤ k ∧ (lx_dc T s k = k ↔ lx_ad T s k = true) := by
  intro k
  induction k with
  | zero => exact ⟨Nat.le_refl _, by simp [lx_dc, lx_ad]⟩
  | succ k ih =>
    simp only [lx_dc, lx_ad, Bool.and_eq_true]
    by_cases h : t_dg (T (s + k)) = true
    · rw [if_pos h]
      refine ⟨by omega, fun z => ⟨ih.2.mp (by omega), h⟩, fun z => by have := ih.2.mpr z.1; omega⟩
    · rw [if_neg h]
      refine ⟨by omega, fun z => by omega, fun z => absurd z.2 h⟩
theorem l64 {x : Int64} {n : Nat} (h : x.toInt = (n : Int)) (hn : n < 2 ^ 31) : x.toInt32 = nI n := by
  apply Int32.toInt_inj.mp
  rw [Int64.toInt_toInt32, h, nI_toInt hn, Int.bmod_eq_of_le (by omega) (by omega)]
/-- the value of k digits -/
def lx_dv (T : Nat → Nat) (s : Nat) : Nat → Nat
  | 0 => 0
  | k + 1 => 10 * lx_dv T s k + (T (s + k) - 48)
theorem lx_ad_in {T : Nat → Nat} {s : Nat} : ∀ k, lx_ad T s k = true → ∀ j, j < k → t_dg (T (s + j)) = true := by
  intro k
  induction k with
  | zero => intro _ j h; omega
  | succ k ih =>
    intro h j hj
    simp only [lx_ad, Bool.and_eq_true] at h
    by_cases e : j = k
    · rw [e]; exact h.2
    · exact ih h.1 j (by omega)
theorem lx_dv_lt {T : Nat → Nat} {s : Nat} : ∀ k, lx_ad T s k = true → lx_dv T s k < 10 ^ k := by
  intro k
  induction k with
  | zero => intro _; show 0 < 1; omega
  | succ k ih =>
    intro h
    simp only [lx_ad, Bool.and_eq_true] at h
    have h1 := ih h.1
    have h2 := t_dgP.mp h.2
    simp only [lx_dv, Nat.pow_succ]
    omega
theorem sb_lo {t : Nat} (h : t < 128) : sb_b t = nI t := by
  have : ∀ t, t < 128 → sb_b t = nI t := by decide +kernel
  exact this t h
theorem p10 {k : Nat} (h : k ≤ 9) : 10 ^ k ≤ 10 ^ 9 := Nat.pow_le_pow_right (by decide) h
theorem lx_cv_dv {T : Nat → Nat} {s : Nat} : ∀ k, k ≤ 9 → lx_ad T s k = true → (lx_cv T s k).toInt = lx_dv T s k := by
  intro k
  induction k with
  | zero => intro _ _; rfl
  | succ k ih =>
    intro hk h
    have hl := lx_dv_lt (k + 1) h
    have hp := p10 hk
    simp only [lx_ad, Bool.and_eq_true] at h
    have h1 := ih (by omega) h.1
    have h2 := t_dgP.mp h.2
    simp only [lx_cv, lx_dv] at hl ⊢
    rw [sb_lo (by omega), show (48 : Int32) = nI 48 from rfl, k_sub (by omega), Int64.toInt_add, Int64.toInt_mul, h1, Int32.toInt_toInt64, nI_toInt (by omega), show (10 : Int64).toInt = 10 from rfl]
    rw [Int.bmod_eq_of_le (n := lx_dv T s k * 10) (by omega) (by omega), Int.bmod_eq_of_le (by omega) (by omega)]
    omega
theorem lx_rv_dv {T : Nat → Nat} {s : Nat} : ∀ k, k ≤ 9 → lx_ad T s k = true → (lx_rv T s k).toInt = lx_dv T s k := by
  intro k
  induction k with
  | zero => intro _ _; rfl
  | succ k ih =>
    intro hk h
    have hl := lx_dv_lt (k + 1) h
    have hp := p10 hk
    simp only [lx_ad, Bool.and_eq_true] at h
    have h1 := ih (by omega) h.1
    have h2 := t_dgP.mp h.2
    simp only [lx_rv, lx_dv] at hl ⊢
    have hc : lg_cmp (lx_rv T s k) 1000000000 ≤ 0 := by
      have : ¬ 0 < lg_cmp (lx_rv T s k) 1000000000 := fun z => by
        have z2 := (lg_cmp_gt (lx_rv T s k) 1000000000).mp z
        rw [Int64.lt_iff_toInt_lt, h1, show (1000000000 : Int64).toInt = 1000000000 from rfl] at z2
        omega
      simp only [Int32.le_iff_toInt_le, Int32.lt_iff_toInt_lt] at *
      omega
    rw [if_pos hc, Int64.toInt_sub, Int64.toInt_add, Int64.toInt_mul, h1, Int32.toInt_toInt64, nI_toInt (by omega), show (10 : Int64).toInt = 10 from rfl, show (48 : Int64).toInt = 48 from rfl]
    rw [Int.bmod_eq_of_le (n := 10 * lx_dv T s k) (by omega) (by omega), Int.bmod_eq_of_le (n := 10 * lx_dv T s k + _) (by omega) (by omega), Int.bmod_eq_of_le (by omega) (by omega)]
    omega
/-- a word's kind, or a NAME's -/
def lx_wd (x : Int64) : Nat := if mv_words 0 = x then 300 else if mv_words 1 = x then 301 else if mv_words 2 = x then 302 else if mv_words 3 = x then 303 else if mv_words 4 = x then 304 else if mv_words 5 = x then 305 else if mv_words 6 = x then 306 else if mv_words 7 = x then 307 else if mv_words 8 = x then 308 else 2
def lx_sg (t : Nat) : Nat := if t = 61 ∨ t = 40 ∨ t = 41 ∨ t = 44 ∨ t = 59 ∨ t = 58 ∨ t = 43 ∨ t = 45 ∨ t = 42 ∨ t = 60 then t else 1
def lx_ee (T : Nat → Nat) (n s : Nat) : Prop := T s = 61 ∧ s + 1 < n ∧ T (s + 1) = 61
/-- where the token that begins at s ends; its kind; its text -/
noncomputable def lx_end (T : Nat → Nat) (n s : Nat) : Nat := if t_rw (T s) = true then lx_re T n s else if T s = 61 ∧ s + 1 < n ∧ T (s + 1) = 61 then s + 2 else s + 1
noncomputable def lx_kd (T : Nat → Nat) (n s : Nat) : Nat :=
  if t_rw (T s) = true then
    if t_dg (T s) = true then (if lx_ad T s (lx_re T n s - s) = true ∧ lx_re T n s - s ≤ 9 then 3 else 1)
    else (if lx_re T n s - s ≤ 8 then lx_wd (lx_lt T s (lx_re T n s - s)) else 1)
  else if T s = 61 ∧ s + 1 < n ∧ T (s + 1) = 61 then 4 else lx_sg (T s)
noncomputable def lx_tx (T : Nat → Nat) (n s : Nat) : Int64 := if t_dg (T s) = true then lx_cv T s (lx_re T n s - s) else lx_lt T s (lx_re T n s - s)
/-- where the i-th token begins to be looked for, and where it begins -/
noncomputable def lx_ps (T : Nat → Nat) (n : Nat) : Nat → Nat
  | 0 => 0
  | i + 1 => lx_end T n (lx_sk T n (lx_ps T n i))
noncomputable def lx_st (T : Nat → Nat) (n i : Nat) : Nat := lx_sk T n (lx_ps T n i)
theorem lx_end_le {T : Nat → Nat} {n s : Nat} (h : s < n) : s < lx_end T n s ∧ lx_end T n s ≤ n := by
  unfold lx_end
  by_cases h1 : t_rw (T s) = true
  · rw [if_pos h1, lx_reS h h1]
    have := lx_re_le (T := T) (n := n) (p := s + 1) (by omega)
    omega
  · rw [if_neg h1]
    by_cases h2 : T s = 61 ∧ s + 1 < n ∧ T (s + 1) = 61
    · rw [if_pos h2]; omega
    · rw [if_neg h2]; omega
