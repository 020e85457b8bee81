/-! what is proved of the pure functions: rows that make mv_ok -/
section OKR
variable {α β : Type} {Q : α → mv_M → Prop}
theorem ok_let {γ : Type} {v : γ} {f : γ → Option (α × mv_M)} (h : mv_ok (f v) Q) : mv_ok (mv_let v f) Q := h
theorem ok_some {r : α} {M : mv_M} (h : Q r M) : mv_ok (some (r, M)) Q := h
theorem ok_if {c : Prop} [Decidable c] {a b : Option (α × mv_M)} (ha : c → mv_ok a Q) (hb : ¬ c → mv_ok b Q) : mv_ok (if c then a else b) Q := by
  by_cases hc : c
  · rw [if_pos hc]; exact ha hc
  · rw [if_neg hc]; exact hb hc
theorem ok_T {c : Prop} [Decidable c] {a b : Option (α × mv_M)} (hc : c) (ha : mv_ok a Q) : mv_ok (if c then a else b) Q := by
  rw [if_pos hc]; exact ha
theorem ok_F {c : Prop} [Decidable c] {a b : Option (α × mv_M)} (hc : ¬ c) (hb : mv_ok b Q) : mv_ok (if c then a else b) Q := by
  rw [if_neg hc]; exact hb
theorem ok_chk {b : Bool} {o : Option (α × mv_M)} (hb : b = true) (h : mv_ok o Q) : mv_ok (mv_chk b o) Q := by
  subst hb
  exact h
theorem ok_bind {o : Option (β × mv_M)} {f : β → mv_M → Option (α × mv_M)} (h : mv_ok o (fun r M => mv_ok (f r M) Q)) : mv_ok (mv_bind o f) Q := by
  cases o with
  | none => exact h
  | some r => exact h
theorem ok_mono {o : Option (α × mv_M)} {P : α → mv_M → Prop} (h : mv_ok o P) (hq : ∀ r M, P r M → Q r M) : mv_ok o Q := by
  cases o with
  | none => exact h
  | some r => exact hq r.1 r.2 h
theorem ok_frm {o : Option (α × mv_M)} {S : Nat → Nat → Bool} {M : mv_M} (hf : mv_frm S o M) (h : mv_ok o Q) : mv_ok o (fun r M' => Q r M' ∧ mv_sm S M M') := by
  cases o with
  | none => exact h
  | some r => exact ⟨h, hf r.1 r.2 rfl⟩
theorem ok_len {o : Option Nat} {f : Nat → Option (α × mv_M)} {n : Nat} (ho : o = some n) (h : mv_ok (f n) Q) : mv_ok (mv_lenE o f) Q := by
  subst ho
  exact h
theorem ok_getp {o : Option Nat} {f : Nat → Option (α × mv_M)} {b : Nat} (ho : o = some b) (hb : b = 9 ∨ b = 24) (h : mv_ok (f b) Q) : mv_ok (mv_getp o f) Q := by
  subst ho
  exact ok_chk (by simpa using hb) h
theorem ok_inr {σ : Type} {o : Option (α × mv_M)} {P : σ ⊕ α → mv_M → Prop} (h : mv_ok o (fun r M => P (.inr r) M)) : mv_ok (mv_inr (σ := σ) o) P := by
  cases o with
  | none => exact h
  | some r => exact h
theorem ok_tryx {γ : Type} {o : Option ((γ ⊕ String) × mv_M)} {f : γ → mv_M → Option (α × mv_M)} {g : String → mv_M → Option (α × mv_M)} (h : mv_ok o (fun r M => match r with
    | .inl a => mv_ok (f a M) Q
    | .inr E => mv_ok (g E M) Q)) : mv_ok (mv_tryx o f g) Q := by
  match o, h with
  | none, h => exact h
  | some (.inl a, M), h => exact h
  | some (.inr E, M), h => exact h
theorem ok_bindx {γ δ : Type} {o : Option ((γ ⊕ String) × mv_M)} {f : γ → mv_M → Option ((δ ⊕ String) × mv_M)} {P : δ ⊕ String → mv_M → Prop} (h : mv_ok o (fun r M => match r with
    | .inl a => mv_ok (f a M) P
    | .inr E => P (.inr E) M)) : mv_ok (mv_bindx o f) P := by
  match o, h with
  | none, h => exact h
  | some (.inl a, M), h => exact h
  | some (.inr E, M), h => exact h
theorem ok_eq {o : Option (α × mv_M)} {r : α} {M : mv_M} (ho : o = some (r, M)) (h : Q r M) : mv_ok o Q := by
  subst ho
  exact h
/-- one turn of a loop -/
theorem ok_loop {σ : Type} {g : σ → mv_M → Option ((σ ⊕ α) × mv_M)} {s : σ} {M : mv_M} (h : mv_ok (g s M) (fun t M' => match t with
    | .inl s' => mv_ok (mv_loop g s' M') Q
    | .inr r => Q r M')) : mv_ok (mv_loop g s M) Q := by
  rw [mv_loop_eq]
  match hg : g s M with
  | none => rw [hg] at h; exact h
  | some (.inl s', M') => rw [hg] at h; exact h
  | some (.inr t, M') => rw [hg] at h; exact h
end OKR
/-! numbers: an int that is a natural number n is 'nI n' -/
theorem nI_lit (n : Nat) : (OfNat.ofNat n : Int32) = nI n := rfl
theorem nI_inb {n N : Nat} (h : n < N) (hN : N < 2 ^ 31) : mv_inb (nI n) N = true := by
  unfold mv_inb
  rw [nI_clamp (by omega)]
  simp only [Bool.and_eq_true, Bool.not_eq_true', decide_eq_false_iff_not, decide_eq_true_eq]
  exact ⟨nI_pos (by omega), h⟩
theorem nI_addl (n k : Nat) : nI n + (OfNat.ofNat k : Int32) = nI (n + k) := nI_add n k
theorem lt_toInt {x y : Int32} : x < y ↔ x.toInt < y.toInt := Int32.lt_iff_toInt_lt
theorem le_toInt {x y : Int32} : x ≤ y ↔ x.toInt ≤ y.toInt := Int32.le_iff_toInt_le
theorem ok_cmp (x : Int64) : lg_cmp x x = 0 := by
  unfold lg_cmp
  simp
