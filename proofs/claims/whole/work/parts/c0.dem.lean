/-! DEMANDS as numbers. Types 0 .. 4; 5: a name that nobody uses. -/
def dem (t : Nat) : Nat := if t = 0 then 2 else if t = 1 then 5 else if t = 2 then 11 else if t = 3 then 11 else if t = 4 then 26 else 1
def d2 (t : Nat) : Nat := dem ((t - 1) % 2)
/-- what is asked of the parts -/
def af (t d : Nat) : Nat := (d - 1) / d2 t
def as (t d : Nat) : Nat := (d - 1) % d2 t
def pd (t x y : Nat) : Nat := 1 + x * d2 t + y
def tgN (a b : Nat) : Nat := if a = 0 ∨ b = 0 then a + b else 1
def tg1 (a b : Nat) : Nat := if a = 0 ∨ b = 0 then a + b else pd 1 (tgN (af 1 a) (af 1 b)) (tgN (as 1 a) (as 1 b))
def tgP (t a b : Nat) : Nat := if t = 0 then tgN a b else tg1 a b
/-- TOGETHER -/
def tg (t a b : Nat) : Nat := if a = 0 ∨ b = 0 then a + b else if t = 0 then 1 else pd t (tgP ((t - 1) / 2) (af t a) (af t b)) (tgP ((t - 1) % 2) (as t a) (as t b))
def eiN (a b : Nat) : Nat := if a = 0 ∨ b = 0 then 0 else 1
def ei1 (a b : Nat) : Nat := if a = 0 ∨ b = 0 then 0 else pd 1 (eiN (af 1 a) (af 1 b)) (eiN (as 1 a) (as 1 b))
def eiP (t a b : Nat) : Nat := if t = 0 then eiN a b else ei1 a b
/-- EITHER -/
def ei (t a b : Nat) : Nat := if a = 0 ∨ b = 0 then 0 else if t = 0 then 1 else pd t (eiP ((t - 1) / 2) (af t a) (af t b)) (eiP ((t - 1) % 2) (as t a) (as t b))
/-- a asks no more than b -/
def dl (t a b : Nat) : Prop := ei t a b = a
theorem dl_def {t a b : Nat} : dl t a b ↔ ei t a b = a := Iff.rfl
def mz : mv_M := (fun _ _ => 0, fun _ _ => 0, fun _ _ => none)
/-- a function that only reckons -/
def PU (g : mv_M → Option (Int32 × mv_M)) : Prop := (∃ v, ∀ M, g M = some (v, M)) ∨ ∀ M, g M = none
theorem PU_val {g : mv_M → Option (Int32 × mv_M)} (h : PU g) {v : Int32} (e : (g mz).map Prod.fst = some v) (M : mv_M) : g M = some (v, M) := by
  rcases h with ⟨w, hw⟩ | hw
  · rw [hw mz] at e
    have : w = v := by simpa using e
    rw [hw M, this]
  · rw [hw mz] at e
    simp at e
theorem PU_some {v : Int32} : PU (fun M => some (v, M)) := .inl ⟨v, fun _ => rfl⟩
theorem PU_none : PU (fun _ => none) := .inr fun _ => rfl
theorem PU_if {c : Prop} [Decidable c] {a b : mv_M → Option (Int32 × mv_M)} (ha : PU a) (hb : PU b) : PU (fun M => if c then a M else b M) := by
  by_cases hc : c
  · rcases ha with ⟨v, hv⟩ | hv
    · exact .inl ⟨v, fun M => (if_pos hc).trans (hv M)⟩
    · exact .inr fun M => (if_pos hc).trans (hv M)
  · rcases hb with ⟨v, hv⟩ | hv
    · exact .inl ⟨v, fun M => (if_neg hc).trans (hv M)⟩
    · exact .inr fun M => (if_neg hc).trans (hv M)
theorem PU_bind {g : mv_M → Option (Int32 × mv_M)} {k : Int32 → mv_M → Option (Int32 × mv_M)} (hg : PU g) (hk : ∀ v, PU (k v)) : PU (fun M => mv_bind (g M) k) := by
  rcases hg with ⟨v, hv⟩ | hv
  · rcases hk v with ⟨w, hw⟩ | hw
    · exact .inl ⟨w, fun M => by show mv_bind (g M) k = _; rw [hv M]; exact hw M⟩
    · exact .inr fun M => by show mv_bind (g M) k = _; rw [hv M]; exact hw M
  · exact .inr fun M => by show mv_bind (g M) k = _; rw [hv M]; rfl
theorem PU_chk {b : Bool} {g : mv_M → Option (Int32 × mv_M)} (hg : PU g) : PU (fun M => mv_chk b (g M)) := by
  cases b with
  | true => exact hg
  | false => exact .inr fun _ => rfl
theorem PU_let {α : Type} {v : α} {g : α → mv_M → Option (Int32 × mv_M)} (hg : PU (g v)) : PU (fun M => mv_let v (fun x => g x M)) := hg
def allN : Nat → (Nat → Bool) → Bool
  | 0, _ => true
  | n + 1, p => allN n p && p n
theorem allN_s : ∀ {n : Nat} {p : Nat → Bool}, allN n p = true → ∀ k, k < n → p k = true := by
  intro n p
  induction n with
  | zero => intro _ k hk; omega
  | succ n ih =>
    intro h k hk
    unfold allN at h
    rw [Bool.and_eq_true] at h
    by_cases e : k = n
    · subst e; exact h.2
    · exact ih h.1 k (by omega)
theorem dm_tgB : allN 6 (fun t => allN (dem t) fun a => allN (dem t) fun b => decide (tg t a b < dem t) && (decide (tg t a b = tg t b a) && (decide (ei t a b < dem t) && (decide (tg t 0 b = b) && (decide (tg t a b = 0 → a = 0 ∧ b = 0) && (decide (ei t (ei t a b) b = ei t a b) && (decide (ei t (ei t a b) a = ei t a b) && decide (ei t a a = a)))))))) = true := by decide +kernel
theorem dm_leB : allN 6 (fun t => allN (dem t) fun a => allN (dem t) fun b => decide (ei t a b = a → a ≤ b ∧ (ei t b a = b → a = b) ∧ (a ≠ 0 → b ≠ 0))) = true := by decide +kernel
theorem dm_3B : allN 6 (fun t => allN (dem t) fun a => allN (dem t) fun b => !(decide (ei t a b = a)) || allN (dem t) fun c => decide (ei t (tg t a c) (tg t b c) = tg t a c) && (decide (ei t (ei t a c) (ei t b c) = ei t a c) && decide (ei t b c = b → ei t a c = a))) = true := by decide +kernel
