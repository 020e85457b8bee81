/-! FRAMES: what a function doesn't write stays. 'mv_S cs ps': the cells cs, and the places ps. -/
def mv_S (cs : List Nat) (ps : List (Nat × Nat)) (c k : Nat) : Bool := cs.contains c || ps.contains (c, k)
def mv_sm (S : Nat → Nat → Bool) (M M' : mv_M) : Prop := ∀ c k, S c k = false → M'.1 c k = M.1 c k ∧ M'.2.1 c k = M.2.1 c k ∧ M'.2.2 c k = M.2.2 c k
def mv_frm {α : Type} (S : Nat → Nat → Bool) (o : Option (α × mv_M)) (M : mv_M) : Prop := ∀ r M', o = some (r, M') → mv_sm S M M'
def mv_sub2 (cs' : List Nat) (ps' : List (Nat × Nat)) (cs : List Nat) (ps : List (Nat × Nat)) : Bool := cs'.all (fun c => cs.contains c) && ps'.all (fun q => ps.contains q || cs.contains q.1)
theorem mv_S_sub {cs' cs : List Nat} {ps' ps : List (Nat × Nat)} (h : mv_sub2 cs' ps' cs ps = true) {c k : Nat} (hS : mv_S cs ps c k = false) : mv_S cs' ps' c k = false := by
  unfold mv_sub2 at h
  unfold mv_S at hS ⊢
  simp only [Bool.and_eq_true, List.all_eq_true, Bool.or_eq_true, List.contains_iff_mem] at h
  simp only [Bool.or_eq_false_iff, List.contains_eq_mem, decide_eq_false_iff_not] at hS ⊢
  refine ⟨fun z => hS.1 (h.1 c z), fun z => ?_⟩
  rcases h.2 (c, k) z with w | w
  · exact hS.2 w
  · exact hS.1 w
theorem mv_Sc {cs : List Nat} {ps : List (Nat × Nat)} {c k : Nat} (h : cs.contains c = true) : mv_S cs ps c k = true := by
  unfold mv_S
  rw [h, Bool.true_or]
theorem mv_Ss {cs : List Nat} {ps : List (Nat × Nat)} {c k : Nat} (h : ps.contains (c, k) = true) : mv_S cs ps c k = true := by
  unfold mv_S
  rw [h, Bool.or_true]
theorem sm_rfl {S : Nat → Nat → Bool} {M : mv_M} : mv_sm S M M := fun _ _ _ => ⟨rfl, rfl, rfl⟩
theorem sm_trans {S : Nat → Nat → Bool} {M M1 M2 : mv_M} (h1 : mv_sm S M M1) (h2 : mv_sm S M1 M2) : mv_sm S M M2 := fun c k h => ⟨((h2 c k h).1).trans (h1 c k h).1, ((h2 c k h).2.1).trans (h1 c k h).2.1, ((h2 c k h).2.2).trans (h1 c k h).2.2⟩
theorem mv_up_ck {α : Type} {f : Nat → Nat → α} {c k c' k' : Nat} {v : α} (h : ¬ (c' = c ∧ k' = k)) : mv_up f c k v c' k' = f c' k' := by
  unfold mv_up
  rw [if_neg h]
theorem sm_si {S : Nat → Nat → Bool} {M : mv_M} {c k : Nat} {v : Int32} (h : S c k = true) : mv_sm S M (mv_si M c k v) := fun c' k' h' => ⟨mv_up_ck (fun q => by rw [q.1, q.2, h] at h'; cases h'), rfl, rfl⟩
theorem sm_sl {S : Nat → Nat → Bool} {M : mv_M} {c k : Nat} {v : Int64} (h : S c k = true) : mv_sm S M (mv_sl M c k v) := fun c' k' h' => ⟨rfl, mv_up_ck (fun q => by rw [q.1, q.2, h] at h'; cases h'), rfl⟩
theorem sm_sr {S : Nat → Nat → Bool} {M : mv_M} {c k : Nat} {v : Option Nat} (h : S c k = true) : mv_sm S M (mv_sr M c k v) := fun c' k' h' => ⟨rfl, rfl, mv_up_ck (fun q => by rw [q.1, q.2, h] at h'; cases h')⟩
section FRM
variable {α β : Type} {S : Nat → Nat → Bool} {M : mv_M}
theorem frm_some {r : α} : mv_frm S (some (r, M)) M := fun r' M' h => by
  cases h
  exact sm_rfl
theorem frm_none : mv_frm S (none : Option (α × mv_M)) M := fun r' M' h => by cases h
theorem frm_let {γ : Type} {v : γ} {f : γ → Option (α × mv_M)} (h : ∀ x, mv_frm S (f x) M) : mv_frm S (mv_let v f) M := h v
theorem frm_letM {v : mv_M} {f : mv_M → Option (α × mv_M)} (h1 : mv_sm S M v) (h : ∀ x, mv_frm S (f x) x) : mv_frm S (mv_let v f) M := fun r M' e => sm_trans h1 (h v r M' e)
theorem frm_if {c : Prop} [Decidable c] {a b : Option (α × mv_M)} (ha : mv_frm S a M) (hb : mv_frm S b M) : mv_frm S (if c then a else b) M := by
  by_cases hc : c
  · rw [if_pos hc]; exact ha
  · rw [if_neg hc]; exact hb
theorem frm_chk {b : Bool} {o : Option (α × mv_M)} (h : mv_frm S o M) : mv_frm S (mv_chk b o) M := by
  cases b with
  | true => exact h
  | false => exact frm_none
theorem frm_getp {o : Option Nat} {f : Nat → Option (α × mv_M)} (h : ∀ b, (b = 9 ∨ b = 24) → mv_frm S (f b) M) : mv_frm S (mv_getp o f) M := by
  cases o with
  | none => exact frm_none
  | some b =>
    intro r M' e
    by_cases hb : b = 9 ∨ b = 24
    · exact h b hb r M' (by
        have h1 : (decide (b = 9) || decide (b = 24)) = true := by simpa using hb
        unfold mv_getp at e
        dsimp only at e
        rw [h1] at e
        exact e)
    · have h1 : (decide (b = 9) || decide (b = 24)) = false := by simpa using hb
      unfold mv_getp at e
      dsimp only at e
      rw [h1] at e
      cases e
theorem frm_len {o : Option Nat} {f : Nat → Option (α × mv_M)} (h : ∀ b, mv_frm S (f b) M) : mv_frm S (mv_lenE o f) M := by
  cases o with
  | none => exact frm_none
  | some b => exact h b
theorem frm_sub {cs' cs : List Nat} {ps' ps : List (Nat × Nat)} (hs : mv_sub2 cs' ps' cs ps = true) {o : Option (α × mv_M)} (h : mv_frm (mv_S cs' ps') o M) : mv_frm (mv_S cs ps) o M := fun r M' e c k hS => h r M' e c k (mv_S_sub hs hS)
theorem frm_bind {cs' cs : List Nat} {ps' ps : List (Nat × Nat)} (hs : mv_sub2 cs' ps' cs ps = true) {o : Option (β × mv_M)} {f : β → mv_M → Option (α × mv_M)} (h1 : mv_frm (mv_S cs' ps') o M) (h : ∀ r M1, mv_frm (mv_S cs ps) (f r M1) M1) : mv_frm (mv_S cs ps) (mv_bind o f) M := by
  cases o with
  | none => exact frm_none
  | some q => exact fun r M' e => sm_trans (frm_sub hs h1 q.1 q.2 rfl) (h q.1 q.2 r M' e)
theorem frm_bindx {γ : Type} {cs' cs : List Nat} {ps' ps : List (Nat × Nat)} (hs : mv_sub2 cs' ps' cs ps = true) {o : Option ((γ ⊕ String) × mv_M)} {f : γ → mv_M → Option ((β ⊕ String) × mv_M)} (h1 : mv_frm (mv_S cs' ps') o M) (h : ∀ r M1, mv_frm (mv_S cs ps) (f r M1) M1) : mv_frm (mv_S cs ps) (mv_bindx o f) M := by
  match o, h1 with
  | none, _ => exact frm_none
  | some (.inl a, M1), h1 => exact fun r M' e => sm_trans (frm_sub hs h1 _ M1 rfl) (h a M1 r M' e)
  | some (.inr E, M1), h1 =>
    intro r M' e
    cases e
    exact frm_sub hs h1 _ M1 rfl
theorem frm_tryx {γ : Type} {cs' cs : List Nat} {ps' ps : List (Nat × Nat)} (hs : mv_sub2 cs' ps' cs ps = true) {o : Option ((γ ⊕ String) × mv_M)} {f : γ → mv_M → Option (α × mv_M)} {g : String → mv_M → Option (α × mv_M)} (h1 : mv_frm (mv_S cs' ps') o M) (h : ∀ r M1, mv_frm (mv_S cs ps) (f r M1) M1) (h2 : ∀ E M1, mv_frm (mv_S cs ps) (g E M1) M1) : mv_frm (mv_S cs ps) (mv_tryx o f g) M := by
  match o, h1 with
  | none, _ => exact frm_none
  | some (.inl a, M1), h1 => exact fun r M' e => sm_trans (frm_sub hs h1 _ M1 rfl) (h a M1 r M' e)
  | some (.inr E, M1), h1 => exact fun r M' e => sm_trans (frm_sub hs h1 _ M1 rfl) (h2 E M1 r M' e)
theorem frm_inr {σ : Type} {o : Option (α × mv_M)} (h : mv_frm S o M) : mv_frm S (mv_inr (σ := σ) o) M := by
  cases o with
  | none => exact frm_none
  | some q =>
    intro r M' e
    cases e
    exact h q.1 q.2 rfl
theorem frm_it {σ τ : Type} {g : σ → mv_M → Option ((σ ⊕ τ) × mv_M)} (h : ∀ s M, mv_frm S (g s M) M) : ∀ n s M, mv_frm S (mv_it g n s M) M := by
  intro n
  induction n with
  | zero => exact fun s M => frm_none
  | succ n ih =>
    intro s M r M' e
    rw [mv_it] at e
    match hg : g s M with
    | none => rw [hg] at e; cases e
    | some (.inl s', M1) => rw [hg] at e; exact sm_trans (h s M _ M1 hg) (ih s' M1 r M' e)
    | some (.inr t, M1) =>
      rw [hg] at e
      cases e
      exact h s M _ _ hg
theorem frm_loop {σ τ : Type} {g : σ → mv_M → Option ((σ ⊕ τ) × mv_M)} (h : ∀ s M, mv_frm S (g s M) M) (s : σ) (M : mv_M) : mv_frm S (mv_loop g s M) M := frm_it h _ s M
end FRM
