/-! asking more, of rows that ask more, asks more -/
theorem dm_ecB : allN 6 (fun t => allN (dem t) fun a => allN (dem t) fun b => decide (ei t a b = ei t b a)) = true := by decide +kernel
def xle (ty : Nat → Nat) (nn : Nat) (X Y : Option (Nat → Nat)) : Prop := ∀ y, Y = some y → ∃ x, X = some x ∧ ∀ n, n < nn → ei (ty n) (x n) (y n) = x n
/-- rows, one table against another -/
def XM (P : Nat → Nat → Nat) (F : Nat) (R1 R2 : Nat → Nat → Option (Nat → Nat)) : Prop := ∀ q, q < F → ∀ d d', 0 < d → d < dem (P 11 q) → d' < dem (P 11 q) → ei (P 11 q) d d' = d → xle (fun k => P 13 (16 * q + k)) (P 9 q) (R1 q d) (R2 q d')
section MO
variable {P : Nat → Nat → Nat} {F ND f nn : Nat} {R1 R2 : Nat → Nat → Option (Nat → Nat)} {ty : Nat → Nat} {X Y X' Y' Z : Option (Nat → Nat)} {t a b c : Nat}
theorem ei_comm (ht : t < 6) (ha : a < dem t) (hb : b < dem t) : ei t a b = ei t b a := of_decide_eq_true (allN_s (allN_s (allN_s dm_ecB t ht) a ha) b hb)
theorem ei_z : ei t 0 b = 0 := by unfold ei; rw [if_pos (.inl rfl)]
theorem dl_tr (ht : t < 6) (ha : a < dem t) (hb : b < dem t) (hc : c < dem t) (h1 : ei t a b = a) (h2 : ei t b c = b) : ei t a c = a := (d3_row ht ha hb h1 hc).2.2 h2
theorem dl_tg (ht : t < 6) (ha : a < dem t) (hc : c < dem t) : ei t a (tg t a c) = a := by
  have h := (d3_row (a := 0) (b := c) ht dem_pos hc ei_z ha).1
  rw [(tg_row ht dem_pos ha).2.2.2.1, (tg_row ht hc ha).2.1] at h
  exact h
theorem dl_tg2 {a' c' : Nat} (ht : t < 6) (ha : a < dem t) (hc : c < dem t) (ha' : a' < dem t) (hc' : c' < dem t) (h1 : ei t a a' = a) (h2 : ei t c c' = c) : ei t (tg t a c) (tg t a' c') = tg t a c := by
  have u1 := (d3_row ht ha ha' h1 hc).1
  have u2 := (d3_row ht hc hc' h2 ha').1
  rw [(tg_row ht hc ha').2.1, (tg_row ht hc' ha').2.1] at u2
  exact dl_tr ht (tg_row ht ha hc).1 (tg_row ht ha' hc).1 (tg_row ht ha' hc').1 u1 u2
theorem dl_ei2 {a' c' : Nat} (ht : t < 6) (ha : a < dem t) (hc : c < dem t) (ha' : a' < dem t) (hc' : c' < dem t) (h1 : ei t a a' = a) (h2 : ei t c c' = c) : ei t (ei t a c) (ei t a' c') = ei t a c := by
  have u1 := (d3_row ht ha ha' h1 hc).2.1
  have u2 := (d3_row ht hc hc' h2 ha').2.1
  rw [ei_comm ht hc ha', ei_comm ht hc' ha'] at u2
  exact dl_tr ht (tg_row ht ha hc).2.2.1 (tg_row ht ha' hc).2.2.1 (tg_row ht ha' hc').2.2.1 u1 u2
theorem xle_jn (ht : ∀ n, n < nn → ty n < 6) (vX : vOK ty nn X) (vY : vOK ty nn Y) (vX' : vOK ty nn X') (vY' : vOK ty nn Y') (h1 : xle ty nn X X') (h2 : xle ty nn Y Y') : xle ty nn (jn ty X Y) (jn ty X' Y') := by
  intro z hz
  cases X' with
  | none => cases hz
  | some x' =>
    cases Y' with
    | none => cases hz
    | some y' =>
      cases hz
      obtain ⟨x, rfl, hx⟩ := h1 x' rfl
      obtain ⟨y, rfl, hy⟩ := h2 y' rfl
      exact ⟨_, rfl, fun n hn => dl_tg2 (ht n hn) (vX x rfl n hn) (vY y rfl n hn) (vX' x' rfl n hn) (vY' y' rfl n hn) (hx n hn) (hy n hn)⟩
theorem xle_up (ht : ∀ n, n < nn → ty n < 6) (vX : vOK ty nn X) (vX' : vOK ty nn X') (vY' : vOK ty nn Y') (h1 : xle ty nn X X') : xle ty nn X (jn ty X' Y') := by
  intro z hz
  cases X' with
  | none => cases hz
  | some x' =>
    cases Y' with
    | none => cases hz
    | some y' =>
      cases hz
      obtain ⟨x, rfl, hx⟩ := h1 x' rfl
      exact ⟨x, rfl, fun n hn => dl_tr (ht n hn) (vX x rfl n hn) (vX' x' rfl n hn) (tg_row (ht n hn) (vX' x' rfl n hn) (vY' y' rfl n hn)).1 (hx n hn) (dl_tg (ht n hn) (vX' x' rfl n hn) (vY' y' rfl n hn))⟩
theorem xle_eo (ht : ∀ n, n < nn → ty n < 6) (vX : vOK ty nn X) (vY : vOK ty nn Y) (vX' : vOK ty nn X') (vY' : vOK ty nn Y') (h1 : xle ty nn X X') (h2 : xle ty nn Y Y') : xle ty nn (eo ty X Y) (eo ty X' Y') := by
  intro z hz
  cases X' with
  | none =>
    have hz' : Y' = some z := hz
    obtain ⟨y, rfl, hy⟩ := h2 z hz'
    cases X with
    | none => exact ⟨y, rfl, hy⟩
    | some x =>
      refine ⟨_, rfl, fun n hn => ?_⟩
      have r := tg_row (ht n hn) (vX x rfl n hn) (vY y rfl n hn)
      exact dl_tr (ht n hn) r.2.2.1 (vY y rfl n hn) (vY' z hz' n hn) r.2.2.2.2.2.1 (hy n hn)
  | some x' =>
    obtain ⟨x, rfl, hx⟩ := h1 x' rfl
    cases Y' with
    | none =>
      cases hz
      cases Y with
      | none => exact ⟨x, rfl, hx⟩
      | some y =>
        refine ⟨_, rfl, fun n hn => ?_⟩
        have r := tg_row (ht n hn) (vX x rfl n hn) (vY y rfl n hn)
        exact dl_tr (ht n hn) r.2.2.1 (vX x rfl n hn) (vX' _ rfl n hn) r.2.2.2.2.2.2.1 (hx n hn)
    | some y' =>
      cases hz
      obtain ⟨y, rfl, hy⟩ := h2 y' rfl
      exact ⟨_, rfl, fun n hn => dl_ei2 (ht n hn) (vX x rfl n hn) (vY y rfl n hn) (vX' x' rfl n hn) (vY' y' rfl n hn) (hx n hn) (hy n hn)⟩
theorem xle_0 : xle ty nn (some (fun _ => 0)) Y := fun _ _ => ⟨_, rfl, fun _ _ => ei_z⟩
theorem xle_ag {E1 E2 : Nat → Nat → Option (Nat → Nat)} {a r1 r2 : Nat → Nat} (ht : ∀ n, n < nn → ty n < 6) : ∀ d k X Y, vOK ty nn X → vOK ty nn Y → xle ty nn X Y → (∀ i, k ≤ i → i < k + d → (r2 i = 0 → r1 i = 0) ∧ (r1 i ≠ 0 → vOK ty nn (E1 (a i) (r1 i))) ∧ (r2 i ≠ 0 → vOK ty nn (E2 (a i) (r2 i))) ∧ (r1 i ≠ 0 → xle ty nn (E1 (a i) (r1 i)) (E2 (a i) (r2 i)))) → xle ty nn (ag ty E1 a r1 d k X) (ag ty E2 a r2 d k Y) := by
  intro d
  induction d with
  | zero => intro k X Y _ _ h _; exact h
  | succ d ih =>
    intro k X Y vX vY h hE
    obtain ⟨e1, e2, e3, e4⟩ := hE k (by omega) (by omega)
    refine ih (k + 1) _ _ ?_ ?_ ?_ (fun i i1 i2 => hE i (by omega) (by omega))
    · by_cases h0 : r1 k = 0
      · rw [if_pos h0]; exact vX
      · rw [if_neg h0]; exact vOK_jn ht vX (e2 h0)
    · by_cases h0 : r2 k = 0
      · rw [if_pos h0]; exact vY
      · rw [if_neg h0]; exact vOK_jn ht vY (e3 h0)
    · by_cases h2 : r2 k = 0
      · rw [if_pos h2, if_pos (e1 h2)]; exact h
      · rw [if_neg h2]
        by_cases h1 : r1 k = 0
        · rw [if_pos h1]; exact xle_up ht vX vY (e3 h2) h
        · rw [if_neg h1]; exact xle_jn ht vX (e2 h1) vY (e3 h2) h (e4 h1)
theorem xle_lt1 {E1 E2 : Nat → Option (Nat → Nat)} {v : (Nat → Nat) → Nat} (ht : ∀ n, n < nn → ty n < 6) (vX : vOK ty nn X) (vY : vOK ty nn Y) (h : xle ty nn X Y) (hE : ∀ x y, X = some x → Y = some y → (∀ n, n < nn → ei (ty n) (x n) (y n) = x n) → (v y = 0 → v x = 0) ∧ (v x ≠ 0 → vOK ty nn (E1 (v x))) ∧ (v y ≠ 0 → vOK ty nn (E2 (v y))) ∧ (v x ≠ 0 → xle ty nn (E1 (v x)) (E2 (v y)))) : xle ty nn (lt1 ty E1 v X) (lt1 ty E2 v Y) := by
  cases Y with
  | none => intro z hz; cases hz
  | some y =>
    obtain ⟨x, rfl, hx⟩ := h y rfl
    obtain ⟨e1, e2, e3, e4⟩ := hE x y rfl rfl hx
    show xle ty nn (if v x = 0 then some x else jn ty (some x) (E1 (v x))) (if v y = 0 then some y else jn ty (some y) (E2 (v y)))
    by_cases h2 : v y = 0
    · rw [if_pos h2, if_pos (e1 h2)]; exact h
    · rw [if_neg h2]
      by_cases h1 : v x = 0
      · rw [if_pos h1]; exact xle_up ht vX vY (e3 h2) h
      · rw [if_neg h1]; exact xle_jn ht vX (e2 h1) vY (e3 h2) h (e4 h1)
theorem pE_mono (hW : WFp P F ND) (hR1 : rOK P F R1) (hR2 : rOK P F R2) (hX : XM P F R1 R2) (hf : f < F) : ∀ k c d d', P 15 f ≤ c → c ≤ P 12 f → P 8 c < k → 0 < d → d < dem (P 5 c) → d' < dem (P 5 c) → ei (P 5 c) d d' = d → xle (fun n => P 13 (16 * f + n)) (P 10 f) (pE P R1 (fun n => P 13 (16 * f + n)) k c d) (pE P R2 (fun n => P 13 (16 * f + n)) k c d') := by
  have ht : ∀ n, n < P 10 f → (fun n => P 13 (16 * f + n)) n < 6 := fun n hn => by
    have := (hW.2.2.2 f hf).2.2.2.2.2.2.2.2.1 n hn
    show P 13 (16 * f + n) < 6
    omega
  intro k
  induction k with
  | zero => intro c d d' _ _ h; omega
  | succ k ih =>
    intro c d d' h1 h2 hl hd hd2 hd3 hle
    have w := (hW.2.2.2 f hf).2.2.2.2.2.2.2.2.2 c h1 h2
    have hseg := fun c' hc => in_seg hW hf (c' := c') h1 h2 hc
    have hd0 : d' ≠ 0 := (le_row (by omega) hd2 hd3 hle).2.2 (by omega)
    have V1 : ∀ c' d', pC P c c' → 0 < d' → d' < dem (P 5 c') → vOK (fun n => P 13 (16 * f + n)) (P 10 f) (pE P R1 (fun n => P 13 (16 * f + n)) k c' d') := by
      intro c' d' hc u1 u2
      have s := hseg c' hc
      exact pE_ok hW hR1 hf k c' d' s.1 s.2 (by have := hc.2.2; omega) u1 u2
    have V2 : ∀ c' d', pC P c c' → 0 < d' → d' < dem (P 5 c') → vOK (fun n => P 13 (16 * f + n)) (P 10 f) (pE P R2 (fun n => P 13 (16 * f + n)) k c' d') := by
      intro c' d' hc u1 u2
      have s := hseg c' hc
      exact pE_ok hW hR2 hf k c' d' s.1 s.2 (by have := hc.2.2; omega) u1 u2
    have IH : ∀ c' d d', pC P c c' → 0 < d → d < dem (P 5 c') → d' < dem (P 5 c') → ei (P 5 c') d d' = d → xle (fun n => P 13 (16 * f + n)) (P 10 f) (pE P R1 (fun n => P 13 (16 * f + n)) k c' d) (pE P R2 (fun n => P 13 (16 * f + n)) k c' d') := by
      intro c' d d' hc u1 u2 u3 u4
      have s := hseg c' hc
      exact ih c' d d' s.1 s.2 (by have := hc.2.2; omega) u1 u2 u3 u4
    have h50 : dem 0 = 2 := rfl
    have e11 : ei 0 1 1 = 1 := by decide
    rcases w.2.2.2.2.2 with ⟨z0, z1⟩ | z0 | ⟨z0, z1, z2, z3⟩ | ⟨z0, z1, z2, z3, z4⟩ | ⟨z0, z1, z2, z3, z4, z5⟩ | ⟨z0, z1, z2, z3, z4, z5⟩ | ⟨z0, z1, z2, z3, z4, z5, z6, z7, z8, z9⟩ | ⟨z0, z1, z2, z3, z4, z5, z6, z7, z8, z9, zA, zB, zC⟩ | ⟨z0, z1, z2, z3, z4, z5, z6⟩
    · rw [pe3 z0]; exact xle_0
    · rw [pe308 (R := R2) z0]
      intro y hy; cases hy
    · rw [pe2 z0, pe2 z0]
      intro y hy
      cases hy
      refine ⟨_, rfl, fun n hn => ?_⟩
      show ei (P 13 (16 * f + n)) (if n = P 1 c then d else 0) (if n = P 1 c then d' else 0) = if n = P 1 c then d else 0
      by_cases e : n = P 1 c
      · rw [if_pos e, if_pos e, e, z2]; exact hle
      · rw [if_neg e, if_neg e]; exact ei_z
    · rw [pe5 z0, pe5 z0]
      rw [z3] at hd2 hd3 hle
      have hx := hX (P 1 c) z1 d d' hd hd2 hd3 hle
      cases hr2 : R2 (P 1 c) d' with
      | none => intro y hy; cases hy
      | some r2 =>
        obtain ⟨r1, hr1, hrr⟩ := hx r2 hr2
        rw [hr1]
        refine xle_ag ht (P 3 c) 0 _ _ vOK_0 vOK_0 xle_0 (fun i _ i2 => ?_)
        have i2' : i < P 3 c := by omega
        obtain ⟨w1, w2⟩ := z4 i i2'
        have a1 := hR1 (P 1 c) z1 d hd hd2 r1 hr1 i (by omega)
        have a2 := hR2 (P 1 c) z1 d' (by omega) hd3 r2 hr2 i (by omega)
        have a3 := hrr i (by omega)
        have t6 : P 13 (16 * P 1 c + i) < 6 := by
          have := (hW.2.2.2 (P 1 c) z1).2.2.2.2.2.2.2.1 i (by omega)
          omega
        have a4 := le_row t6 a1 a2 a3
        refine ⟨fun u => by omega, fun u => V1 _ _ w1 (by omega) (by rw [w2]; exact a1), fun u => V2 _ _ w1 (by omega) (by rw [w2]; exact a2), fun u => IH _ _ _ w1 (by omega) (by rw [w2]; exact a1) (by rw [w2]; exact a2) (by rw [w2]; exact a3)⟩
    · rw [pes z0, pes z0]
      exact xle_jn ht (V1 _ 1 z1 (by omega) (by rw [z3]; omega)) (V1 _ 1 z2 (by omega) (by rw [z4]; omega)) (V2 _ 1 z1 (by omega) (by rw [z3]; omega)) (V2 _ 1 z2 (by omega) (by rw [z4]; omega)) (IH _ 1 1 z1 (by omega) (by rw [z3]; omega) (by rw [z3]; omega) (by rw [z3]; exact e11)) (IH _ 1 1 z2 (by omega) (by rw [z4]; omega) (by rw [z4]; omega) (by rw [z4]; exact e11))
    · rw [pe6 z0, pe6 z0]
      obtain ⟨p1, p2, _⟩ := pt_row (t := P 5 c) (by omega) (by omega) hd2 (by omega)
      obtain ⟨q1, q2, _⟩ := pt_row (t := P 5 c) (by omega) (by omega) hd3 hd0
      obtain ⟨m1, m2⟩ := pt_mono (t := P 5 c) (by omega) (by omega) hd2 (by omega) hd3 hle
      rw [show (P 5 c - 1) / 2 = P 5 (P 1 c) by omega] at p1 q1 m1
      rw [show (P 5 c - 1) % 2 = P 5 (P 2 c) by omega] at p2 q2 m2
      have l1 := le_row (by omega) p1 q1 m1
      have l2 := le_row (by omega) p2 q2 m2
      have part : ∀ c' x y, pC P c c' → x < dem (P 5 c') → y < dem (P 5 c') → ei (P 5 c') x y = x → x ≤ y → vOK (fun n => P 13 (16 * f + n)) (P 10 f) (if x = 0 then some (fun _ => 0) else pE P R1 (fun n => P 13 (16 * f + n)) k c' x) ∧ vOK (fun n => P 13 (16 * f + n)) (P 10 f) (if y = 0 then some (fun _ => 0) else pE P R2 (fun n => P 13 (16 * f + n)) k c' y) ∧ xle (fun n => P 13 (16 * f + n)) (P 10 f) (if x = 0 then some (fun _ => 0) else pE P R1 (fun n => P 13 (16 * f + n)) k c' x) (if y = 0 then some (fun _ => 0) else pE P R2 (fun n => P 13 (16 * f + n)) k c' y) := by
        intro c' x y hc u1 u2 u3 u4
        by_cases hx0 : x = 0
        · rw [if_pos hx0]
          refine ⟨vOK_0, ?_, xle_0⟩
          by_cases hy0 : y = 0
          · rw [if_pos hy0]; exact vOK_0
          · rw [if_neg hy0]; exact V2 _ _ hc (by omega) u2
        · rw [if_neg hx0, if_neg (by omega)]
          exact ⟨V1 _ _ hc (by omega) u1, V2 _ _ hc (by omega) u2, IH _ _ _ hc (by omega) u1 u2 u3⟩
      obtain ⟨A1, A2, A3⟩ := part _ _ _ z1 p1 q1 m1 l1.1
      obtain ⟨B1, B2, B3⟩ := part _ _ _ z2 p2 q2 m2 l2.1
      exact xle_jn ht A1 B1 A2 B2 A3 B3
    · rw [pe304 z0, pe304 z0]
      have v1 := V1 _ d z2 hd (by rw [z3]; exact hd2)
      have v2 := V2 _ d' z2 (by omega) (by rw [z3]; exact hd3)
      refine xle_lt1 ht v1 v2 (IH _ d d' z2 hd (by rw [z3]; exact hd2) (by rw [z3]; exact hd3) (by rw [z3]; exact hle)) (fun x y hx hy hxy => ?_)
      have a1 := v1 x hx (P 3 c) z5
      have a2 := v2 y hy (P 3 c) z5
      have a3 := hxy (P 3 c) z5
      have a4 := le_row (ht _ z5) a1 a2 a3
      have a1' : x (P 3 c) < dem (P 5 (P 1 c)) := by rw [← z6]; exact a1
      have a2' : y (P 3 c) < dem (P 5 (P 1 c)) := by rw [← z6]; exact a2
      have a3' : ei (P 5 (P 1 c)) (x (P 3 c)) (y (P 3 c)) = x (P 3 c) := by rw [← z6]; exact a3
      exact ⟨fun (u : y (P 3 c) = 0) => show x (P 3 c) = 0 by omega, fun u => V1 _ _ z1 (Nat.pos_of_ne_zero u) a1', fun u => V2 _ _ z1 (Nat.pos_of_ne_zero u) a2', fun u => IH _ _ _ z1 (Nat.pos_of_ne_zero u) a1' a2' a3'⟩
    · rw [pe306 z0, pe306 z0]
      have v1 := V1 _ d z2 hd (by rw [z3]; exact hd2)
      have v2 := V2 _ d' z2 (by omega) (by rw [z3]; exact hd3)
      have s1 := hseg _ z1
      have t1 := ((hW.2.2.2 f hf).2.2.2.2.2.2.2.2.2 _ s1.1 s1.2).1
      refine xle_lt1 ht v1 v2 (IH _ d d' z2 hd (by rw [z3]; exact hd2) (by rw [z3]; exact hd3) (by rw [z3]; exact hle)) (fun x y hx hy hxy => ?_)
      have a1 := v1 x hx (P 3 c) (by omega)
      have a2 := v2 y hy (P 3 c) (by omega)
      have a3 := hxy (P 3 c) (by omega)
      have b1 := v1 x hx (P 3 c + 1) z5
      have b2 := v2 y hy (P 3 c + 1) z5
      have b3 := hxy (P 3 c + 1) z5
      have x1 := pd_row (t := P 5 (P 1 c)) (by omega) (by omega) (by rw [← z7]; exact a1) (by rw [← z8]; exact b1)
      have x2 := pd_row (t := P 5 (P 1 c)) (by omega) (by omega) (by rw [← z7]; exact a2) (by rw [← z8]; exact b2)
      have x3 := pd_mono (t := P 5 (P 1 c)) (by omega) (by omega) (by rw [← z7]; exact a1) (by rw [← z8]; exact b1) (by rw [← z7]; exact a2) (by rw [← z8]; exact b2) (by rw [← z7]; exact a3) (by rw [← z8]; exact b3)
      exact ⟨fun (u : pd _ _ _ = 0) => by omega, fun _ => V1 _ _ z1 x1.1 x1.2.1, fun _ => V2 _ _ z1 x2.1 x2.2.1, fun _ => IH _ _ _ z1 x1.1 x1.2.1 x2.2.1 x3⟩
    · rw [pe301 z0, pe301 z0]
      have A1 := V1 _ 1 z1 (by omega) (by rw [z4]; omega)
      have A2 := V2 _ 1 z1 (by omega) (by rw [z4]; omega)
      have B1 := V1 _ d z2 hd (by rw [z5]; exact hd2)
      have B2 := V2 _ d' z2 (by omega) (by rw [z5]; exact hd3)
      have C1 := V1 _ d z3 hd (by rw [z6]; exact hd2)
      have C2 := V2 _ d' z3 (by omega) (by rw [z6]; exact hd3)
      exact xle_jn ht A1 (vOK_eo ht B1 C1) A2 (vOK_eo ht B2 C2) (IH _ 1 1 z1 (by omega) (by rw [z4]; omega) (by rw [z4]; omega) (by rw [z4]; exact e11)) (xle_eo ht B1 C1 B2 C2 (IH _ d d' z2 hd (by rw [z5]; exact hd2) (by rw [z5]; exact hd3) (by rw [z5]; exact hle)) (IH _ d d' z3 hd (by rw [z6]; exact hd2) (by rw [z6]; exact hd3) (by rw [z6]; exact hle)))
end MO
