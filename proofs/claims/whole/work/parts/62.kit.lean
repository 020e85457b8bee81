/-! rows for simp: execution by rewriting; side conditions by omega -/
def nN : Int32 := -1
theorem kN : (-1 : Int32) = nN := rfl
theorem rd_hi {M : mv_M} {c k c' k' : Nat} {v : Int32} (h : c' = c ∧ k' = k) : (mv_si M c k v).1 c' k' = v := if_pos h
theorem rd_mi {M : mv_M} {c k c' k' : Nat} {v : Int32} (h : ¬ (c' = c ∧ k' = k)) : (mv_si M c k v).1 c' k' = M.1 c' k' := if_neg h
theorem rd_hl {M : mv_M} {c k c' k' : Nat} {v : Int64} (h : c' = c ∧ k' = k) : (mv_sl M c k v).2.1 c' k' = v := if_pos h
theorem rd_ml {M : mv_M} {c k c' k' : Nat} {v : Int64} (h : ¬ (c' = c ∧ k' = k)) : (mv_sl M c k v).2.1 c' k' = M.2.1 c' k' := if_neg h
theorem rd_hr {M : mv_M} {c k c' k' : Nat} {v : Option Nat} (h : c' = c ∧ k' = k) : (mv_sr M c k v).2.2 c' k' = v := if_pos h
theorem rd_mr {M : mv_M} {c k c' k' : Nat} {v : Option Nat} (h : ¬ (c' = c ∧ k' = k)) : (mv_sr M c k v).2.2 c' k' = M.2.2 c' k' := if_neg h
theorem kL (n : Nat) : (OfNat.ofNat n : Int32) = nI n := rfl
theorem k_le {a b : Nat} (ha : a < 2 ^ 31) (hb : b < 2 ^ 31) : (nI a ≤ nI b) = (a ≤ b) := propext (nI_leI ha hb)
theorem k_lt {a b : Nat} (ha : a < 2 ^ 31) (hb : b < 2 ^ 31) : (nI a < nI b) = (a < b) := propext (nI_ltI ha hb)
theorem k_eq {a b : Nat} (ha : a < 2 ^ 31) (hb : b < 2 ^ 31) : (nI a = nI b) = (a = b) := propext (nI_eq ha hb)
theorem nN_toInt : nN.toInt = -1 := by decide
theorem kn_le {a : Nat} (ha : a < 2 ^ 31) : (nI a ≤ nN) = False := by
  rw [le_toInt, nN_toInt, nI_toInt ha]; exact eq_false (by omega)
theorem kn_lt {a : Nat} (ha : a < 2 ^ 31) : (nI a < nN) = False := by
  rw [lt_toInt, nN_toInt, nI_toInt ha]; exact eq_false (by omega)
theorem kn_eq {a : Nat} (ha : a < 2 ^ 31) : (nI a = nN) = False := eq_false fun z => by
  have := congrArg Int32.toInt z
  rw [nN_toInt, nI_toInt ha] at this
  omega
theorem kn_le' {a : Nat} (ha : a < 2 ^ 31) : (nN ≤ nI a) = True := by
  rw [le_toInt, nN_toInt, nI_toInt ha]; exact eq_true (by omega)
theorem kn_lt' {a : Nat} (ha : a < 2 ^ 31) : (nN < nI a) = True := by
  rw [lt_toInt, nN_toInt, nI_toInt ha]; exact eq_true (by omega)
theorem kn_eq' {a : Nat} (ha : a < 2 ^ 31) : (nN = nI a) = False := eq_false fun z => by
  have := congrArg Int32.toInt z
  rw [nN_toInt, nI_toInt ha] at this
  omega
theorem k_T {α : Type} {c : Prop} [Decidable c] {a b : α} (h : c) : (if c then a else b) = a := if_pos h
theorem k_F {α : Type} {c : Prop} [Decidable c] {a b : α} (h : ¬ c) : (if c then a else b) = b := if_neg h
theorem k_inb {n N : Nat} (h : n < N) (hN : N < 2 ^ 31) : mv_inb (nI n) N = true := nI_inb h hN
theorem k_ck {β : Type} {o : Option β} : mv_chk true o = o := rfl
theorem k_bs {α β : Type} {r : α} {M : mv_M} {f : α → mv_M → Option (β × mv_M)} : mv_bind (some (r, M)) f = f r M := rfl
theorem k_lt' {α β : Type} {v : α} {f : α → β} : mv_let v f = f v := rfl
theorem k_nz {n : Nat} (h : 0 < n) (hn : n < 2 ^ 31) : mv_nz (nI n) = true := by
  unfold mv_nz
  simpa using nI_ne0 h hn
theorem k_sub {a b : Nat} (h : b ≤ a) : nI a - nI b = nI (a - b) := by
  have h1 : nI a = nI (a - b) + nI b := by rw [nI_add]; congr 1; omega
  rw [h1]
  exact Int32.add_sub_cancel _ _
theorem k_mul (a b : Nat) : nI a * nI b = nI (a * b) := (Int32.ofNat_mul a b).symm
theorem k_div {a d : Nat} (ha : a < 2 ^ 31) (h0 : 0 < d) (hd : d < 2 ^ 31) : nI a / nI d = nI (a / d) := pk_div ha h0 hd

theorem k_iT {α : Type} [d : Decidable True] {a b : α} : (@ite α True d a b) = a := if_pos trivial
theorem k_iF {α : Type} [d : Decidable False] {a b : α} : (@ite α False d a b) = b := if_neg id
