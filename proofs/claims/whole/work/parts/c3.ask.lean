/-! WHAT AN EXPRESSION ASKS, as numbers. none: DEAD. -/
def jn (ty : Nat → Nat) (X Y : Option (Nat → Nat)) : Option (Nat → Nat) := match X, Y with
  | some x, some y => some (fun n => tg (ty n) (x n) (y n))
  | _, _ => none
def eo (ty : Nat → Nat) (X Y : Option (Nat → Nat)) : Option (Nat → Nat) := match X, Y with
  | none, Y => Y
  | some x, none => some x
  | some x, some y => some (fun n => ei (ty n) (x n) (y n))
/-- arguments k .. k + d - 1, each asked r k -/
def ag (ty : Nat → Nat) (E : Nat → Nat → Option (Nat → Nat)) (a r : Nat → Nat) : Nat → Nat → Option (Nat → Nat) → Option (Nat → Nat)
  | 0, _, X => X
  | d + 1, k, X => ag ty E a r d (k + 1) (if r k = 0 then X else jn ty X (E (a k) (r k)))
def lt1 (ty : Nat → Nat) (E : Nat → Option (Nat → Nat)) (v : (Nat → Nat) → Nat) (X : Option (Nat → Nat)) : Option (Nat → Nat) := match X with
  | none => none
  | some x => if v x = 0 then some x else jn ty (some x) (E (v x))
def pE (P : Nat → Nat → Nat) (R : Nat → Nat → Option (Nat → Nat)) (ty : Nat → Nat) : Nat → Nat → Nat → Option (Nat → Nat)
  | 0, _, _ => none
  | k + 1, c, d =>
    if P 0 c = 3 then some (fun _ => 0)
    else if P 0 c = 308 then none
    else if P 0 c = 2 then some (fun n => if n = P 1 c then d else 0)
    else if P 0 c = 5 then (match R (P 1 c) d with
      | none => none
      | some r => ag ty (pE P R ty k) (ar P c) r (P 3 c) 0 (some (fun _ => 0)))
    else if P 0 c = 6 then
      jn ty (if af (P 5 c) d = 0 then some (fun _ => 0) else pE P R ty k (P 1 c) (af (P 5 c) d)) (if as (P 5 c) d = 0 then some (fun _ => 0) else pE P R ty k (P 2 c) (as (P 5 c) d))
    else if P 0 c = 301 then jn ty (pE P R ty k (P 1 c) 1) (eo ty (pE P R ty k (P 2 c) d) (pE P R ty k (P 3 c) d))
    else if P 0 c = 304 then lt1 ty (pE P R ty k (P 1 c)) (fun x => x (P 3 c)) (pE P R ty k (P 2 c) d)
    else if P 0 c = 306 then lt1 ty (pE P R ty k (P 1 c)) (fun x => pd (P 5 (P 1 c)) (x (P 3 c)) (x (P 3 c + 1))) (pE P R ty k (P 2 c) d)
    else jn ty (pE P R ty k (P 1 c) 1) (pE P R ty k (P 2 c) 1)
def vOK (ty : Nat → Nat) (nn : Nat) (X : Option (Nat → Nat)) : Prop := ∀ x, X = some x → ∀ n, n < nn → x n < dem (ty n)
def rOK (P : Nat → Nat → Nat) (F : Nat) (R : Nat → Nat → Option (Nat → Nat)) : Prop := ∀ q, q < F → ∀ d, 0 < d → d < dem (P 11 q) → ∀ r, R q d = some r → ∀ k, k < P 9 q → r k < dem (P 13 (16 * q + k))
section AK
variable {P : Nat → Nat → Nat} {F ND f nn : Nat} {R : Nat → Nat → Option (Nat → Nat)} {ty : Nat → Nat} {X Y : Option (Nat → Nat)}
theorem jn_some {x y : Nat → Nat} : jn ty (some x) (some y) = some (fun n => tg (ty n) (x n) (y n)) := rfl
theorem jn_none : jn ty X none = none := by cases X <;> rfl
theorem vOK_jn (ht : ∀ n, n < nn → ty n < 6) (hx : vOK ty nn X) (hy : vOK ty nn Y) : vOK ty nn (jn ty X Y) := by
  intro z hz n hn
  cases X with
  | none => cases hz
  | some x =>
    cases Y with
    | none => cases hz
    | some y =>
      cases hz
      exact (tg_row (ht n hn) (hx x rfl n hn) (hy y rfl n hn)).1
theorem vOK_eo (ht : ∀ n, n < nn → ty n < 6) (hx : vOK ty nn X) (hy : vOK ty nn Y) : vOK ty nn (eo ty X Y) := by
  intro z hz n hn
  cases X with
  | none => exact hy z hz n hn
  | some x =>
    cases Y with
    | none => exact hx z hz n hn
    | some y =>
      cases hz
      exact (tg_row (ht n hn) (hx x rfl n hn) (hy y rfl n hn)).2.2.1
theorem vOK_0 : vOK ty nn (some (fun _ => 0)) := by
  intro z hz n _
  cases hz
  exact dem_pos
theorem vOK_ag {E : Nat → Nat → Option (Nat → Nat)} {a r : Nat → Nat} (ht : ∀ n, n < nn → ty n < 6) : ∀ d k X, vOK ty nn X → (∀ i, k ≤ i → i < k + d → r i ≠ 0 → vOK ty nn (E (a i) (r i))) → vOK ty nn (ag ty E a r d k X) := by
  intro d
  induction d with
  | zero => intro k X hX _; exact hX
  | succ d ih =>
    intro k X hX hE
    refine ih (k + 1) _ ?_ (fun i i1 i2 i3 => hE i (by omega) (by omega) i3)
    by_cases h0 : r k = 0
    · rw [if_pos h0]; exact hX
    · rw [if_neg h0]; exact vOK_jn ht hX (hE k (by omega) (by omega) h0)
theorem vOK_lt1 {E : Nat → Option (Nat → Nat)} {v : (Nat → Nat) → Nat} (ht : ∀ n, n < nn → ty n < 6) (hX : vOK ty nn X) (hE : ∀ x, X = some x → v x ≠ 0 → vOK ty nn (E (v x))) : vOK ty nn (lt1 ty E v X) := by
  cases X with
  | none => intro z hz; cases hz
  | some x =>
    show vOK ty nn (if v x = 0 then some x else jn ty (some x) (E (v x)))
    by_cases h0 : v x = 0
    · rw [if_pos h0]; exact hX
    · rw [if_neg h0]; exact vOK_jn ht hX (hE x rfl h0)
/-- a part of a function's tree -/
theorem in_seg (hW : WFp P F ND) (hf : f < F) {c c' : Nat} (h1 : P 15 f ≤ c) (h2 : c ≤ P 12 f) (hc : pC P c c') : P 15 f ≤ c' ∧ c' ≤ P 12 f := by
  have w := (hW.2.2.2 f hf).2.2.2.2.2.2.2.2.2 c h1 h2
  obtain ⟨a1, a2, _⟩ := hc
  omega
theorem pE_ok (hW : WFp P F ND) (hR : rOK P F R) (hf : f < F) : ∀ k c d, P 15 f ≤ c → c ≤ P 12 f → P 8 c < k → 0 < d → d < dem (P 5 c) → vOK (fun n => P 13 (16 * f + n)) (P 10 f) (pE P R (fun n => P 13 (16 * f + n)) k c d) := by
  have ht : ∀ n, n < P 10 f → (fun n => P 13 (16 * f + n)) n < 6 := fun n hn => by
    have := (hW.2.2.2 f hf).2.2.2.2.2.2.2.2.1 n hn
    show P 13 (16 * f + n) < 6
    omega
  intro k
  induction k with
  | zero => intro c d _ _ h; omega
  | succ k ih =>
    intro c d h1 h2 hl hd hd2
    have w := (hW.2.2.2 f hf).2.2.2.2.2.2.2.2.2 c h1 h2
    have hseg := fun c' hc => in_seg hW hf (c' := c') h1 h2 hc
    have IH : ∀ c' d', pC P c c' → 0 < d' → d' < dem (P 5 c') → vOK (fun n => P 13 (16 * f + n)) (P 10 f) (pE P R (fun n => P 13 (16 * f + n)) k c' d') := by
      intro c' d' hc u1 u2
      have s := hseg c' hc
      exact ih c' d' s.1 s.2 (by have := hc.2.2; omega) u1 u2
    have h50 : dem 0 = 2 := rfl
    unfold pE
    rcases w.2.2.2.2.2 with ⟨z0, z1⟩ | z0 | ⟨z0, z1, z2, z3⟩ | ⟨z0, z1, z2, z3, z4⟩ | ⟨z0, z1, z2, z3, z4, z5⟩ | ⟨z0, z1, z2, z3, z4, z5⟩ | ⟨z0, z1, z2, z3, z4, z5, z6, z7, z8, z9⟩ | ⟨z0, z1, z2, z3, z4, z5, z6, z7, z8, z9, zA, zB, zC⟩ | ⟨z0, z1, z2, z3, z4, z5, z6⟩
    · rw [if_pos z0]; exact vOK_0
    · rw [if_neg (by omega), if_pos z0]
      intro x hx; cases hx
    · rw [if_neg (by omega), if_neg (by omega), if_pos z0]
      intro x hx n hn
      cases hx
      show (if n = P 1 c then d else 0) < dem (P 13 (16 * f + n))
      by_cases e : n = P 1 c
      · rw [if_pos e, e, z2]; exact hd2
      · rw [if_neg e]; exact dem_pos
    · rw [if_neg (by omega), if_neg (by omega), if_neg (by omega), if_pos z0]
      cases hr : R (P 1 c) d with
      | none => intro x hx; cases hx
      | some r =>
        refine vOK_ag ht (P 3 c) 0 _ vOK_0 (fun i _ i2 i3 => ?_)
        have i2' : i < P 3 c := by omega
        obtain ⟨w1, w2⟩ := z4 i i2'
        have := hR (P 1 c) z1 d hd (by rw [← z3]; exact hd2) r hr i (by omega)
        exact IH _ _ w1 (by omega) (by rw [w2]; exact this)
    · unfold sgK at z0
      rw [if_neg (by omega), if_neg (by omega), if_neg (by omega), if_neg (by omega), if_neg (by omega), if_neg (by omega), if_neg (by omega), if_neg (by omega)]
      exact vOK_jn ht (IH _ 1 z1 (by omega) (by rw [z3]; omega)) (IH _ 1 z2 (by omega) (by rw [z4]; omega))
    · rw [if_neg (by omega), if_neg (by omega), if_neg (by omega), if_neg (by omega), if_pos z0]
      obtain ⟨p1, p2, _⟩ := pt_row (t := P 5 c) (by omega) (by omega) hd2 (by omega)
      rw [show (P 5 c - 1) / 2 = P 5 (P 1 c) by omega] at p1
      rw [show (P 5 c - 1) % 2 = P 5 (P 2 c) by omega] at p2
      refine vOK_jn ht ?_ ?_
      · by_cases e : af (P 5 c) d = 0
        · rw [if_pos e]; exact vOK_0
        · rw [if_neg e]; exact IH _ _ z1 (by omega) p1
      · by_cases e : as (P 5 c) d = 0
        · rw [if_pos e]; exact vOK_0
        · rw [if_neg e]; exact IH _ _ z2 (by omega) p2
    · rw [if_neg (by omega), if_neg (by omega), if_neg (by omega), if_neg (by omega), if_neg (by omega), if_neg (by omega), if_pos z0]
      have h2' := IH _ d z2 hd (by rw [z3]; exact hd2)
      refine vOK_lt1 ht h2' (fun x hx hv => IH _ _ z1 (by omega) ?_)
      have := h2' x hx (P 3 c) z5
      show x (P 3 c) < _
      rw [← z6]; exact this
    · rw [if_neg (by omega), if_neg (by omega), if_neg (by omega), if_neg (by omega), if_neg (by omega), if_neg (by omega), if_neg (by omega), if_pos z0]
      have h2' := IH _ d z2 hd (by rw [z3]; exact hd2)
      refine vOK_lt1 ht h2' (fun x hx hv => IH _ _ z1 (by omega) ?_)
      have a1 := h2' x hx (P 3 c) (by omega)
      have a2 := h2' x hx (P 3 c + 1) z5
      have s1 := hseg _ z1
      have t1 := ((hW.2.2.2 f hf).2.2.2.2.2.2.2.2.2 _ s1.1 s1.2).1
      exact (pd_row (t := P 5 (P 1 c)) (by omega) (by omega) (by rw [← z7]; exact a1) (by rw [← z8]; exact a2)).2.1
    · rw [if_neg (by omega), if_neg (by omega), if_neg (by omega), if_neg (by omega), if_neg (by omega), if_pos z0]
      exact vOK_jn ht (IH _ 1 z1 (by omega) (by rw [z4]; omega)) (vOK_eo ht (IH _ d z2 hd (by rw [z5]; exact hd2)) (IH _ d z3 hd (by rw [z6]; exact hd2)))
end AK
