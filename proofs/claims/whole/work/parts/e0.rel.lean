/-! RUNS: class and reference side by side. Thing k of the class is thing fi k of the reference. -/
def fi (k : Nat) : Nat := if k < 1500 then 40 + k else k - 1500
def kD (t : Nat) : Nat := if t = 0 then 0 else 1
/-- thing k is there, of type t -/
def oT (P : Nat → Nat → Nat) (it : Nat → Nat) (n m : Nat) (M : mv_M) (k t : Nat) : Prop := (k < m ∧ ∃ x, M.1 55 k = nI x ∧ x < 1000 ∧ P 5 x = t) ∨ (1500 ≤ k ∧ k < 1500 + n ∧ it (k - 1500) = t)
/-- a value of type t -/
def vV (P : Nat → Nat → Nat) (it : Nat → Nat) (n m pr : Nat) (M N : mv_M) (v : Int32) (t : Nat) : Prop := t = 0 ∨ ∃ p k1 k2, v = nI p ∧ (p < pr ∨ (1500 ≤ p ∧ p < 1540)) ∧ M.1 60 p = nI k1 ∧ M.1 61 p = nI k2 ∧ N.1 101 p = nI (fi k1) ∧ N.1 102 p = nI (fi k2) ∧ oT P it n m M k1 ((t - 1) / 2) ∧ oT P it n m M k2 ((t - 1) % 2)
/-- what name nm of frame fr has -/
def bB (P : Nat → Nat → Nat) (it : Nat → Nat) (n m : Nat) (M N : mv_M) (fr nm t : Nat) : Prop := nm < 16 ∧ ∃ k, M.1 50 (16 * fr + nm) = nI k ∧ N.1 103 (16 * fr + nm) = nI (fi k) ∧ oT P it n m M k t
/-- expression x can be worked out in frame fr -/
def xX (P : Nat → Nat → Nat) (F : Nat) (it : Nat → Nat) (n m cl : Nat) (ff : Nat → Nat) (M N : mv_M) (x fr : Nat) : Prop := fr ≤ cl ∧ ff fr < F ∧ P 15 (ff fr) ≤ x ∧ x ≤ P 12 (ff fr) ∧ ∀ y, P 7 x ≤ y → y ≤ x → P 0 y = 2 → (P 1 y < P 9 (ff fr) ∨ x < P 14 (16 * ff fr + P 1 y)) → bB P it n m M N fr (P 1 y) (P 13 (16 * ff fr + P 1 y))
/-- how a thing of type t stands -/
def tS (P : Nat → Nat → Nat) (it : Nat → Nat) (n m pr : Nat) (M N : mv_M) (k t : Nat) : Prop := ∃ s, M.1 57 k = nI s ∧ N.1 97 (fi k) = nI s ∧ s ≤ 3 ∧ (s = 0 → k < m) ∧ M.1 59 k = N.1 100 (fi k) ∧ (s = 2 → M.1 58 k = N.1 99 (fi k) ∧ N.1 98 (fi k) = nI (kD t) ∧ vV P it n m pr M N (M.1 58 k) t)
def nS (P : Nat → Nat → Nat) (F : Nat) (it : Nat → Nat) (n m cl : Nat) (ff : Nat → Nat) (M N : mv_M) (k : Nat) : Prop := ∃ x fr, M.1 55 k = nI x ∧ x < 1000 ∧ M.1 56 k = nI fr ∧ N.1 95 (40 + k) = nI (P 6 x) ∧ N.1 96 (40 + k) = nI fr ∧ xX P F it n m cl ff M N x fr
/-- node c of frame fr belongs to a thing that waits -/
def Ow (P : Nat → Nat → Nat) (m : Nat) (M : mv_M) (fr c : Nat) : Prop := ∃ k x, k < m ∧ M.1 57 k = nI 0 ∧ M.1 55 k = nI x ∧ x < 1000 ∧ M.1 56 k = nI fr ∧ P 7 x ≤ c ∧ c ≤ x
/-- things that wait lie apart -/
def Dj (P : Nat → Nat → Nat) (m : Nat) (M : mv_M) : Prop := ∀ j k x y fr, j < m → k < m → j ≠ k → M.1 57 j = nI 0 → M.1 57 k = nI 0 → M.1 55 j = nI x → M.1 55 k = nI y → x < 1000 → y < 1000 → M.1 56 j = nI fr → M.1 56 k = nI fr → x < P 7 y ∨ y < P 7 x
def Cr (P : Nat → Nat → Nat) (F : Nat) (it : Nat → Nat) (n m pr cl : Nat) (ff : Nat → Nat) (M N : mv_M) : Prop := (m ≤ 1500 ∧ pr ≤ 1500 ∧ cl ≤ 1500 ∧ n ≤ 40) ∧ (∀ k, k < m → nS P F it n m cl ff M N k) ∧ (∀ k t, oT P it n m M k t → tS P it n m pr M N k t) ∧ Dj P m M
/-- later memories: only bindings of Z changed, only things of Z wait anew -/
def Ex (P : Nat → Nat → Nat) (it : Nat → Nat) (n : Nat) (Z : Nat → Nat → Prop) (m pr cl : Nat) (ff : Nat → Nat) (M N : mv_M) (m' pr' cl' : Nat) (ff' : Nat → Nat) (M' N' : mv_M) : Prop := (m ≤ m' ∧ pr ≤ pr' ∧ cl ≤ cl') ∧ (∀ fr, fr ≤ cl → ff' fr = ff fr) ∧ (∀ k, k < m → M'.1 55 k = M.1 55 k ∧ M'.1 56 k = M.1 56 k) ∧ (∀ p, p < pr ∨ 1500 ≤ p → M'.1 60 p = M.1 60 p ∧ M'.1 61 p = M.1 61 p ∧ N'.1 101 p = N.1 101 p ∧ N'.1 102 p = N.1 102 p) ∧ (∀ fr nm, fr ≤ cl → bB P it n m M N fr nm (P 13 (16 * ff fr + nm)) → bB P it n m' M' N' fr nm (P 13 (16 * ff fr + nm))) ∧ (∀ fr nm, fr ≤ cl → nm < 16 → nm < P 9 (ff fr) ∨ ¬ Z fr (P 14 (16 * ff fr + nm)) → M'.1 50 (16 * fr + nm) = M.1 50 (16 * fr + nm)) ∧ ∀ fr c, fr ≤ cl → Ow P m' M' fr c → Ow P m M fr c ∨ Z fr c
section RU
variable {b h F ND n m pr cl m' pr' cl' m2 pr2 cl2 k t fr x : Nat} {P : Nat → Nat → Nat} {it ff ff' ff2 : Nat → Nat} {M N M' N' M2 N2 : mv_M} {Z Z' : Nat → Nat → Prop} {v : Int32}
theorem gp_b {γ : Type} {K : Nat → Option γ} (hb : b = 9 ∨ b = 24) : mv_getp (some b) K = K b := by
  have hb2 : (decide (b = 9) || decide (b = 24)) = true := by simpa using hb
  show mv_chk (decide (b = 9) || decide (b = 24)) (K b) = K b
  rw [hb2]; rfl
theorem fi_lt (hk : k < 1500) : fi k = 40 + k := if_pos hk
theorem fi_ge (hk : 1500 ≤ k) : fi k = k - 1500 := if_neg (by omega)
theorem fi_b (hk : k < 1540) : fi k < 1540 := by unfold fi; by_cases h0 : k < 1500 <;> simp only [h0, if_true, if_false] <;> omega
theorem fi_in {j : Nat} (hk : k < 1540) (hj : j < 1540) (e : fi j = fi k) : j = k := by
  unfold fi at e
  by_cases h0 : k < 1500 <;> by_cases h1 : j < 1500 <;> simp only [h0, h1, if_true, if_false] at e <;> omega
theorem oT_b (hm : m ≤ 1500) (hn : n ≤ 40) (ho : oT P it n m M k t) : k < 1540 := by rcases ho with ⟨a, _⟩ | ⟨_, a, _⟩ <;> omega
theorem oT_m (hm : m ≤ m') (e : ∀ k, k < m → M'.1 55 k = M.1 55 k) (ho : oT P it n m M k t) : oT P it n m' M' k t := by
  rcases ho with ⟨a, y, a1, a2, a3⟩ | a
  · exact .inl ⟨by omega, y, (e k a).trans a1, a2, a3⟩
  · exact .inr a
theorem oT_u {t' : Nat} (hm : m ≤ 1500) (h1 : oT P it n m M k t) (h2 : oT P it n m M k t') : t = t' := by
  rcases h1 with ⟨a, y, a1, a2, a3⟩ | ⟨a1, a2, a3⟩
  · rcases h2 with ⟨c, z, c1, c2, c3⟩ | ⟨c1, c2, c3⟩
    · rw [a1, k_eq (by omega) (by omega)] at c1; subst c1; omega
    · omega
  · rcases h2 with ⟨c, z, c1, c2, c3⟩ | ⟨c1, c2, c3⟩
    · omega
    · omega
theorem vV_m (hm : m ≤ m') (hp : pr ≤ pr') (e : ∀ k, k < m → M'.1 55 k = M.1 55 k) (e2 : ∀ p, p < pr ∨ 1500 ≤ p → M'.1 60 p = M.1 60 p ∧ M'.1 61 p = M.1 61 p ∧ N'.1 101 p = N.1 101 p ∧ N'.1 102 p = N.1 102 p) (hv : vV P it n m pr M N v t) : vV P it n m' pr' M' N' v t := by
  rcases hv with a | ⟨p, k1, k2, a1, a2, a3, a4, a5, a6, a7, a8⟩
  · exact .inl a
  · obtain ⟨q1, q2, q3, q4⟩ := e2 p (by omega)
    exact .inr ⟨p, k1, k2, a1, by omega, q1.trans a3, q2.trans a4, q3.trans a5, q4.trans a6, oT_m hm e a7, oT_m hm e a8⟩
theorem Ex_o (hE : Ex P it n Z m pr cl ff M N m' pr' cl' ff' M' N') (ho : oT P it n m M k t) : oT P it n m' M' k t := oT_m hE.1.1 (fun k hk => (hE.2.2.1 k hk).1) ho
theorem Ex_v (hE : Ex P it n Z m pr cl ff M N m' pr' cl' ff' M' N') (hv : vV P it n m pr M N v t) : vV P it n m' pr' M' N' v t := vV_m hE.1.1 hE.1.2.1 (fun k hk => (hE.2.2.1 k hk).1) hE.2.2.2.1 hv
theorem Ex_x (hE : Ex P it n Z m pr cl ff M N m' pr' cl' ff' M' N') (hx : xX P F it n m cl ff M N x fr) : xX P F it n m' cl' ff' M' N' x fr := by
  obtain ⟨a1, a2, a3, a4, a5⟩ := hx
  have e := hE.2.1 fr a1
  refine ⟨Nat.le_trans a1 hE.1.2.2, by rw [e]; exact a2, by rw [e]; exact a3, by rw [e]; exact a4, fun y y1 y2 y3 y4 => ?_⟩
  rw [e] at y4 ⊢
  exact hE.2.2.2.2.1 fr _ a1 (a5 y y1 y2 y3 y4)
theorem Ex_rf : Ex P it n Z m pr cl ff M N m pr cl ff M N := ⟨⟨Nat.le_refl _, Nat.le_refl _, Nat.le_refl _⟩, fun _ _ => rfl, fun _ _ => ⟨rfl, rfl⟩, fun _ _ => ⟨rfl, rfl, rfl, rfl⟩, fun _ _ _ z => z, fun _ _ _ _ _ => rfl, fun _ _ _ z => .inl z⟩
theorem Ex_Z (hE : Ex P it n Z m pr cl ff M N m' pr' cl' ff' M' N') (hz : ∀ fr c, fr ≤ cl → Z fr c → Z' fr c) : Ex P it n Z' m pr cl ff M N m' pr' cl' ff' M' N' := by
  obtain ⟨a1, a2, a3, a4, a5, a6, a7⟩ := hE
  refine ⟨a1, a2, a3, a4, a5, fun fr nm h1 h2 h3 => a6 fr nm h1 h2 ?_, fun fr c h1 h2 => (a7 fr c h1 h2).imp id (hz fr c h1)⟩
  rcases h3 with h3 | h3
  · exact .inl h3
  · exact .inr fun z => h3 (hz _ _ h1 z)
theorem Ex_tr (hE : Ex P it n Z m pr cl ff M N m' pr' cl' ff' M' N') (hG : Ex P it n Z' m' pr' cl' ff' M' N' m2 pr2 cl2 ff2 M2 N2) (hz : ∀ f c, f ≤ cl → Z' f c → Z f c) : Ex P it n Z m pr cl ff M N m2 pr2 cl2 ff2 M2 N2 := by
  obtain ⟨⟨a1, a1', a1''⟩, a2, a3, a4, a5, a6, a7⟩ := hE
  obtain ⟨⟨b1, b1', b1''⟩, b2, b3, b4, b5, b6, b7⟩ := hG
  refine ⟨⟨by omega, by omega, by omega⟩, fun fr h1 => (b2 fr (by omega)).trans (a2 fr h1), fun k hk => ⟨(b3 k (by omega)).1.trans (a3 k hk).1, (b3 k (by omega)).2.trans (a3 k hk).2⟩, fun p hp => ?_, fun fr nm h1 h2 => ?_, fun fr nm h1 h2 h3 => ?_, fun fr c h1 h2 => ?_⟩
  · obtain ⟨q1, q2, q3, q4⟩ := a4 p hp
    obtain ⟨r1, r2, r3, r4⟩ := b4 p (by omega)
    exact ⟨r1.trans q1, r2.trans q2, r3.trans q3, r4.trans q4⟩
  · have e := a2 fr h1
    have u := b5 fr nm (by omega)
    rw [e] at u
    exact u (a5 fr nm h1 h2)
  · have e := a2 fr h1
    have u := b6 fr nm (by omega) h2
    rw [e] at u
    exact (u (h3.imp id (fun q z => q (hz _ _ h1 z)))).trans (a6 fr nm h1 h2 h3)
  · rcases b7 fr c (by omega) h2 with z | z
    · exact a7 fr c h1 z
    · exact .inr (hz _ _ h1 z)
/-- cells that a relation reads -/
def sM (pr cl : Nat) (M M' : mv_M) : Prop := ∀ a p, (a = 50 ∧ p < 16 * (cl + 1)) ∨ (55 ≤ a ∧ a ≤ 59) ∨ ((a = 60 ∨ a = 61) ∧ (p < pr ∨ 1500 ≤ p)) → M'.1 a p = M.1 a p
def sN (pr cl : Nat) (N N' : mv_M) : Prop := ∀ a p, (95 ≤ a ∧ a ≤ 100) ∨ ((a = 101 ∨ a = 102) ∧ (p < pr ∨ 1500 ≤ p)) ∨ (a = 103 ∧ p < 16 * (cl + 1)) → N'.1 a p = N.1 a p
theorem oT_s (eM : sM pr cl M M') (ho : oT P it n m M k t) : oT P it n m M' k t := oT_m (Nat.le_refl _) (fun k _ => eM 55 k (by omega)) ho
theorem bB_s {nm : Nat} (eM : sM pr cl M M') (eN : sN pr cl N N') (hf : fr ≤ cl) (ho : bB P it n m M N fr nm t) : bB P it n m M' N' fr nm t := by
  obtain ⟨a0, k, a1, a2, a3⟩ := ho
  exact ⟨a0, k, (eM 50 _ (by omega)).trans a1, (eN 103 _ (by omega)).trans a2, oT_s eM a3⟩
theorem Ow_s {c : Nat} (eM : sM pr cl M M') (ho : Ow P m M' fr c) : Ow P m M fr c := by
  obtain ⟨k, x, a1, a2, a3, a4, a5, a6⟩ := ho
  exact ⟨k, x, a1, (eM 57 _ (by omega)).symm.trans a2, (eM 55 _ (by omega)).symm.trans a3, a4, (eM 56 _ (by omega)).symm.trans a5, a6⟩
theorem Ex_s (eM : sM pr cl M M') (eN : sN pr cl N N') : Ex P it n Z m pr cl ff M N m pr cl ff M' N' := ⟨⟨Nat.le_refl _, Nat.le_refl _, Nat.le_refl _⟩, fun _ _ => rfl, fun k _ => ⟨eM 55 _ (by omega), eM 56 _ (by omega)⟩, fun p _ => ⟨eM 60 _ (by omega), eM 61 _ (by omega), eN 101 _ (by omega), eN 102 _ (by omega)⟩, fun _ _ hf z => bB_s eM eN hf z, fun fr nm _ _ _ => eM 50 _ (by omega), fun _ _ _ z => .inl (Ow_s eM z)⟩
theorem sM_sy (eM : sM pr cl M M') : sM pr cl M' M := fun a p u => (eM a p u).symm
theorem Cr_s (eM : sM pr cl M M') (eN : sN pr cl N N') (hC : Cr P F it n m pr cl ff M N) : Cr P F it n m pr cl ff M' N' := by
  obtain ⟨c1, c2, c3, c4⟩ := hC
  have E : Ex P it n (fun _ _ => True) m pr cl ff M N m pr cl ff M' N' := Ex_s eM eN
  refine ⟨c1, fun k hk => ?_, fun k t ho => ?_, ?_⟩
  · obtain ⟨x, fr, a1, a2, a3, a4, a5, a6⟩ := c2 k hk
    exact ⟨x, fr, (eM 55 _ (by omega)).trans a1, a2, (eM 56 _ (by omega)).trans a3, (eN 95 _ (by omega)).trans a4, (eN 96 _ (by omega)).trans a5, Ex_x E a6⟩
  · obtain ⟨s, a1, a2, a3, a4, a5, a6⟩ := c3 k t (oT_s (sM_sy eM) ho)
    refine ⟨s, (eM 57 _ (by omega)).trans a1, (eN 97 _ (by omega)).trans a2, a3, a4, ((eM 59 _ (by omega)).trans a5).trans (eN 100 _ (by omega)).symm, fun z => ?_⟩
    obtain ⟨e1, e2, e3⟩ := a6 z
    rw [eM 58 _ (by omega), eN 99 _ (by omega), eN 98 _ (by omega)]
    exact ⟨e1, e2, Ex_v E e3⟩
  · intro j k x y fr h1 h2 h3 h4 h5 h6 h7
    rw [eM 57 _ (by omega)] at h4 h5
    rw [eM 55 _ (by omega)] at h6 h7
    rw [eM 56 _ (by omega), eM 56 _ (by omega)]
    exact c4 j k x y fr h1 h2 h3 h4 h5 h6 h7
/-- one thing stands otherwise -/
theorem Cr_up (hC : Cr P F it n m pr cl ff M N) (ho : oT P it n m M k t) (eM : ∀ a p, a = 50 ∨ (55 ≤ a ∧ a ≤ 61) → ¬ (57 ≤ a ∧ a ≤ 59 ∧ p = k) → M'.1 a p = M.1 a p) (eN : ∀ a p, 95 ≤ a ∧ a ≤ 103 → ¬ (97 ≤ a ∧ a ≤ 100 ∧ p = fi k) → N'.1 a p = N.1 a p) (hs : tS P it n m pr M' N' k t) (h0 : M'.1 57 k = nI 0 → M.1 57 k = nI 0) : Cr P F it n m pr cl ff M' N' ∧ Ex P it n Z m pr cl ff M N m pr cl ff M' N' := by
  obtain ⟨c1, c2, c3, c4⟩ := hC
  have w0 : ∀ j, M'.1 57 j = nI 0 → M.1 57 j = nI 0 := by
    intro j z
    by_cases e : j = k
    · subst e; exact h0 z
    · rw [← eM 57 j (by omega) (by omega)]; exact z
  have oM : ∀ j u, oT P it n m M j u → oT P it n m M' j u := fun j u => oT_m (Nat.le_refl _) (fun k _ => eM 55 k (by omega) (by omega))
  have oN : ∀ j u, oT P it n m M' j u → oT P it n m M j u := fun j u => oT_m (Nat.le_refl _) (fun k _ => (eM 55 k (by omega) (by omega)).symm)
  have E : ∀ {Z : Nat → Nat → Prop}, Ex P it n Z m pr cl ff M N m pr cl ff M' N' := by
    intro Z
    refine ⟨⟨Nat.le_refl _, Nat.le_refl _, Nat.le_refl _⟩, fun _ _ => rfl, fun k _ => ⟨eM 55 _ (by omega) (by omega), eM 56 _ (by omega) (by omega)⟩, fun p _ => ⟨eM 60 _ (by omega) (by omega), eM 61 _ (by omega) (by omega), eN 101 _ (by omega) (by omega), eN 102 _ (by omega) (by omega)⟩, fun fr nm hf z => ?_, fun fr nm _ _ _ => eM 50 _ (by omega) (by omega), fun fr c _ z => ?_⟩
    · obtain ⟨a0, j, a1, a2, a3⟩ := z
      exact ⟨a0, j, (eM 50 _ (by omega) (by omega)).trans a1, (eN 103 _ (by omega) (by omega)).trans a2, oM _ _ a3⟩
    · obtain ⟨j, x, a1, a2, a3, a4, a5, a6⟩ := z
      exact .inl ⟨j, x, a1, w0 j a2, (eM 55 _ (by omega) (by omega)).symm.trans a3, a4, (eM 56 _ (by omega) (by omega)).symm.trans a5, a6⟩
  refine ⟨⟨c1, fun j hj => ?_, fun j u hu => ?_, ?_⟩, E⟩
  · obtain ⟨x, fr, a1, a2, a3, a4, a5, a6⟩ := c2 j hj
    exact ⟨x, fr, (eM 55 _ (by omega) (by omega)).trans a1, a2, (eM 56 _ (by omega) (by omega)).trans a3, (eN 95 _ (by omega) (by omega)).trans a4, (eN 96 _ (by omega) (by omega)).trans a5, Ex_x (E (Z := fun _ _ => True)) a6⟩
  · by_cases e : j = k
    · subst e
      obtain rfl := oT_u c1.1 ho (oN _ _ hu)
      exact hs
    · obtain ⟨s, a1, a2, a3, a4, a5, a6⟩ := c3 j u (oN _ _ hu)
      have hfj : fi j ≠ fi k := fun z => e (fi_in (oT_b c1.1 c1.2.2.2 ho) (oT_b c1.1 c1.2.2.2 hu) z)
      refine ⟨s, (eM 57 _ (by omega) (by omega)).trans a1, (eN 97 _ (by omega) (by omega)).trans a2, a3, a4, ((eM 59 _ (by omega) (by omega)).trans a5).trans (eN 100 _ (by omega) (by omega)).symm, fun z => ?_⟩
      obtain ⟨e1, e2, e3⟩ := a6 z
      rw [eM 58 _ (by omega) (by omega), eN 99 _ (by omega) (by omega), eN 98 _ (by omega) (by omega)]
      exact ⟨e1, e2, Ex_v (E (Z := fun _ _ => True)) e3⟩
  · intro i j x y fr h1 h2 h3 h4 h5 h6 h7
    rw [eM 55 _ (by omega) (by omega)] at h6 h7
    rw [eM 56 _ (by omega) (by omega), eM 56 _ (by omega) (by omega)]
    exact c4 i j x y fr h1 h2 h3 (w0 _ h4) (w0 _ h5) h6 h7
/-- a new thing -/
theorem Cr_new (hW : WFp P F ND) (hC : Cr P F it n m pr cl ff M N) (hm : m < 1500) (hx : xX P F it n m cl ff M N x fr) (hd : ∀ c, P 7 x ≤ c → c ≤ x → ¬ Ow P m M fr c) (e55 : M'.1 55 m = nI x) (e56 : M'.1 56 m = nI fr) (e57 : M'.1 57 m = nI 0) (e59 : M'.1 59 m = N'.1 100 (40 + m)) (e95 : N'.1 95 (40 + m) = nI (P 6 x)) (e96 : N'.1 96 (40 + m) = nI fr) (e97 : N'.1 97 (40 + m) = nI 0) (eM : ∀ a p, a = 50 ∨ (55 ≤ a ∧ a ≤ 61) → ¬ (55 ≤ a ∧ a ≤ 59 ∧ p = m) → M'.1 a p = M.1 a p) (eN : ∀ a p, 95 ≤ a ∧ a ≤ 103 → ¬ (95 ≤ a ∧ a ≤ 100 ∧ p = 40 + m) → N'.1 a p = N.1 a p) : Cr P F it n (m + 1) pr cl ff M' N' ∧ Ex P it n (fun f c => f = fr ∧ P 7 x ≤ c ∧ c ≤ x) m pr cl ff M N (m + 1) pr cl ff M' N' ∧ oT P it n (m + 1) M' m (P 5 x) := by
  obtain ⟨c1, c2, c3, c4⟩ := hC
  have hND := hW.2.2.1
  have xb : ∀ z g, xX P F it n m cl ff M N z g → z < 1000 ∧ P 7 z ≤ z := by
    intro z g hz
    obtain ⟨_, z2, z3, z4, _⟩ := hz
    have w := hW.2.2.2 _ z2
    have w2 := w.2.2.2.2.2.1
    have w3 := (w.2.2.2.2.2.2.2.2.2 z z3 z4).2.2.2.1
    omega
  have hx1 := xb x fr hx
  have hfc := hx.1
  have E : Ex P it n (fun f c => f = fr ∧ P 7 x ≤ c ∧ c ≤ x) m pr cl ff M N (m + 1) pr cl ff M' N' := by
    refine ⟨⟨by omega, Nat.le_refl _, Nat.le_refl _⟩, fun _ _ => rfl, fun k _ => ⟨eM 55 _ (by omega) (by omega), eM 56 _ (by omega) (by omega)⟩, fun p _ => ⟨eM 60 _ (by omega) (by omega), eM 61 _ (by omega) (by omega), eN 101 _ (by omega) (by omega), eN 102 _ (by omega) (by omega)⟩, fun fr nm hf z => ?_, fun fr nm _ _ _ => eM 50 _ (by omega) (by omega), fun f c hf z => ?_⟩
    · obtain ⟨a0, j, a1, a2, a3⟩ := z
      exact ⟨a0, j, (eM 50 _ (by omega) (by omega)).trans a1, (eN 103 _ (by omega) (by omega)).trans a2, oT_m (by omega) (fun k hk => eM 55 k (by omega) (by omega)) a3⟩
    · obtain ⟨j, y, a1, a2, a3, a4, a5, a6⟩ := z
      by_cases e : j = m
      · subst e
        rw [e55, k_eq (by omega) (by omega)] at a3
        subst a3
        rw [e56, k_eq (by omega) (by omega)] at a5
        exact .inr ⟨a5.symm, a6⟩
      · exact .inl ⟨j, y, by omega, (eM 57 _ (by omega) (by omega)).symm.trans a2, (eM 55 _ (by omega) (by omega)).symm.trans a3, a4, (eM 56 _ (by omega) (by omega)).symm.trans a5, a6⟩
  refine ⟨⟨⟨by omega, c1.2⟩, fun j hj => ?_, fun j u hu => ?_, ?_⟩, E, .inl ⟨by omega, x, e55, hx1.1, rfl⟩⟩
  · by_cases e : j = m
    · subst e
      exact ⟨x, fr, e55, hx1.1, e56, e95, e96, Ex_x E hx⟩
    · obtain ⟨y, f, a1, a2, a3, a4, a5, a6⟩ := c2 j (by omega)
      exact ⟨y, f, (eM 55 _ (by omega) (by omega)).trans a1, a2, (eM 56 _ (by omega) (by omega)).trans a3, (eN 95 _ (by omega) (by omega)).trans a4, (eN 96 _ (by omega) (by omega)).trans a5, Ex_x E a6⟩
  · by_cases e : j = m
    · subst e
      have ef := fi_lt hm
      exact ⟨0, e57, by rw [ef]; exact e97, by omega, fun _ => by omega, by rw [ef]; exact e59, fun z => by omega⟩
    · have hu' : oT P it n m M j u := by
        rcases hu with ⟨u0, y, u1, u2, u3⟩ | hu
        · exact .inl ⟨by omega, y, (eM 55 _ (by omega) (by omega)).symm.trans u1, u2, u3⟩
        · exact .inr hu
      obtain ⟨s, a1, a2, a3, a4, a5, a6⟩ := c3 j u hu'
      have hfj : fi j ≠ 40 + m := fun z => e (fi_in (by omega) (oT_b c1.1 c1.2.2.2 hu') (z.trans (fi_lt hm).symm))
      refine ⟨s, (eM 57 _ (by omega) (by omega)).trans a1, (eN 97 _ (by omega) (by omega)).trans a2, a3, fun z => by have := a4 z; omega, ((eM 59 _ (by omega) (by omega)).trans a5).trans (eN 100 _ (by omega) (by omega)).symm, fun z => ?_⟩
      obtain ⟨e1, e2, e3⟩ := a6 z
      rw [eM 58 _ (by omega) (by omega), eN 99 _ (by omega) (by omega), eN 98 _ (by omega) (by omega)]
      exact ⟨e1, e2, Ex_v E e3⟩
  · have key : ∀ j y, j < m → M'.1 57 j = nI 0 → M'.1 55 j = nI y → y < 1000 → M'.1 56 j = nI fr → x < P 7 y ∨ y < P 7 x := by
      intro j y h1 h2 h3 h4 h5
      rw [eM 57 _ (by omega) (by omega)] at h2
      rw [eM 55 _ (by omega) (by omega)] at h3
      rw [eM 56 _ (by omega) (by omega)] at h5
      obtain ⟨y', f, a1, a2, a3, a4, a5, a6⟩ := c2 j h1
      rw [h3, k_eq (by omega) (by omega)] at a1
      subst a1
      have hy := xb _ _ a6
      by_cases hxy : x ≤ y
      · by_cases h7 : P 7 y ≤ x
        · exact absurd ⟨j, y, h1, h2, h3, h4, h5, h7, hxy⟩ (hd x hx1.2 (Nat.le_refl _))
        · omega
      · by_cases h7 : P 7 x ≤ y
        · exact absurd ⟨j, y, h1, h2, h3, h4, h5, hy.2, Nat.le_refl _⟩ (hd y h7 (by omega))
        · omega
    intro i j y z f h1 h2 h3 h4 h5 h6 h7 h8 h9 h10 h11
    by_cases ei : i = m
    · subst ei
      rw [e55, k_eq (by omega) (by omega)] at h6
      subst h6
      rw [e56] at h10
      rw [← h10] at h11
      exact key j z (by omega) h5 h7 h9 h11
    · by_cases ej : j = m
      · subst ej
        rw [e55, k_eq (by omega) (by omega)] at h7
        subst h7
        rw [e56] at h11
        rw [← h11] at h10
        have := key i y (by omega) h4 h6 h8 h10
        omega
      · rw [eM 57 _ (by omega) (by omega)] at h4 h5
        rw [eM 55 _ (by omega) (by omega)] at h6 h7
        rw [eM 56 _ (by omega) (by omega)] at h10 h11
        exact c4 i j y z f (by omega) (by omega) h3 h4 h5 h6 h7 h8 h9 h10 h11
/-- a name is bound -/
theorem Cr_bind {nm : Nat} (hC : Cr P F it n m pr cl ff M N) (ho : oT P it n m M k (P 13 (16 * ff fr + nm))) (hn : nm < 16) (hp : P 9 (ff fr) ≤ nm) (e50 : M'.1 50 (16 * fr + nm) = nI k) (e103 : N'.1 103 (16 * fr + nm) = nI (fi k)) (eM : ∀ a p, a = 50 ∨ (55 ≤ a ∧ a ≤ 61) → ¬ (a = 50 ∧ p = 16 * fr + nm) → M'.1 a p = M.1 a p) (eN : ∀ a p, 95 ≤ a ∧ a ≤ 103 → ¬ (a = 103 ∧ p = 16 * fr + nm) → N'.1 a p = N.1 a p) : Cr P F it n m pr cl ff M' N' ∧ Ex P it n (fun f c => f = fr ∧ c = P 14 (16 * ff fr + nm)) m pr cl ff M N m pr cl ff M' N' ∧ bB P it n m M' N' fr nm (P 13 (16 * ff fr + nm)) := by
  obtain ⟨c1, c2, c3, c4⟩ := hC
  have oM : ∀ j u, oT P it n m M j u → oT P it n m M' j u := fun j u => oT_m (Nat.le_refl _) (fun k _ => eM 55 k (by omega) (by omega))
  have oN : ∀ j u, oT P it n m M' j u → oT P it n m M j u := fun j u => oT_m (Nat.le_refl _) (fun k _ => (eM 55 k (by omega) (by omega)).symm)
  have hB : bB P it n m M' N' fr nm (P 13 (16 * ff fr + nm)) := ⟨hn, k, e50, e103, oM _ _ ho⟩
  have E : Ex P it n (fun f c => f = fr ∧ c = P 14 (16 * ff fr + nm)) m pr cl ff M N m pr cl ff M' N' := by
    refine ⟨⟨Nat.le_refl _, Nat.le_refl _, Nat.le_refl _⟩, fun _ _ => rfl, fun k _ => ⟨eM 55 _ (by omega) (by omega), eM 56 _ (by omega) (by omega)⟩, fun p _ => ⟨eM 60 _ (by omega) (by omega), eM 61 _ (by omega) (by omega), eN 101 _ (by omega) (by omega), eN 102 _ (by omega) (by omega)⟩, fun f nn hf z => ?_, fun f nn h1 h2 h3 => ?_, fun f c hf z => ?_⟩
    · by_cases e : f = fr ∧ nn = nm
      · obtain ⟨rfl, rfl⟩ := e; exact hB
      · obtain ⟨a0, j, a1, a2, a3⟩ := z
        exact ⟨a0, j, (eM 50 _ (by omega) (by omega)).trans a1, (eN 103 _ (by omega) (by omega)).trans a2, oM _ _ a3⟩
    · by_cases e : f = fr ∧ nn = nm
      · obtain ⟨rfl, rfl⟩ := e
        rcases h3 with h3 | h3
        · omega
        · exact absurd ⟨rfl, rfl⟩ h3
      · exact eM 50 _ (by omega) (by omega)
    · obtain ⟨j, y, a1, a2, a3, a4, a5, a6⟩ := z
      exact .inl ⟨j, y, a1, (eM 57 _ (by omega) (by omega)).symm.trans a2, (eM 55 _ (by omega) (by omega)).symm.trans a3, a4, (eM 56 _ (by omega) (by omega)).symm.trans a5, a6⟩
  refine ⟨⟨c1, fun j hj => ?_, fun j u hu => ?_, ?_⟩, E, hB⟩
  · obtain ⟨y, f, a1, a2, a3, a4, a5, a6⟩ := c2 j hj
    exact ⟨y, f, (eM 55 _ (by omega) (by omega)).trans a1, a2, (eM 56 _ (by omega) (by omega)).trans a3, (eN 95 _ (by omega) (by omega)).trans a4, (eN 96 _ (by omega) (by omega)).trans a5, Ex_x E a6⟩
  · obtain ⟨s, a1, a2, a3, a4, a5, a6⟩ := c3 j u (oN _ _ hu)
    refine ⟨s, (eM 57 _ (by omega) (by omega)).trans a1, (eN 97 _ (by omega) (by omega)).trans a2, a3, a4, ((eM 59 _ (by omega) (by omega)).trans a5).trans (eN 100 _ (by omega) (by omega)).symm, fun z => ?_⟩
    obtain ⟨e1, e2, e3⟩ := a6 z
    rw [eM 58 _ (by omega) (by omega), eN 99 _ (by omega) (by omega), eN 98 _ (by omega) (by omega)]
    exact ⟨e1, e2, Ex_v E e3⟩
  · intro i j y z f h1 h2 h3 h4 h5 h6 h7
    rw [eM 57 _ (by omega) (by omega)] at h4 h5
    rw [eM 55 _ (by omega) (by omega)] at h6 h7
    rw [eM 56 _ (by omega) (by omega), eM 56 _ (by omega) (by omega)]
    exact c4 i j y z f h1 h2 h3 h4 h5 h6 h7
/-- a new frame, its names bound -/
theorem Cr_frame {q : Nat} (hC : Cr P F it n m pr cl ff M N) (hc : cl < 1500) : Cr P F it n m pr (cl + 1) (fun f => if f = cl + 1 then q else ff f) M N ∧ Ex P it n Z m pr cl ff M N m pr (cl + 1) (fun f => if f = cl + 1 then q else ff f) M N := by
  obtain ⟨c1, c2, c3, c4⟩ := hC
  have E : ∀ {Z : Nat → Nat → Prop}, Ex P it n Z m pr cl ff M N m pr (cl + 1) (fun f => if f = cl + 1 then q else ff f) M N := fun {Z} => ⟨⟨Nat.le_refl _, Nat.le_refl _, by omega⟩, fun f hf => if_neg (by omega), fun _ _ => ⟨rfl, rfl⟩, fun _ _ => ⟨rfl, rfl, rfl, rfl⟩, fun _ _ _ z => z, fun _ _ _ _ _ => rfl, fun _ _ _ z => .inl z⟩
  refine ⟨⟨⟨c1.1, c1.2.1, by omega, c1.2.2.2⟩, fun j hj => ?_, c3, c4⟩, E⟩
  obtain ⟨y, f, a1, a2, a3, a4, a5, a6⟩ := c2 j hj
  exact ⟨y, f, a1, a2, a3, a4, a5, Ex_x (E (Z := fun _ _ => True)) a6⟩
/-- a new pair -/
theorem Cr_pr (hC : Cr P F it n m pr cl ff M N) (hc : pr < 1500) : Cr P F it n m (pr + 1) cl ff M N ∧ Ex P it n Z m pr cl ff M N m (pr + 1) cl ff M N := by
  obtain ⟨c1, c2, c3, c4⟩ := hC
  refine ⟨⟨⟨c1.1, by omega, c1.2.2⟩, c2, fun j u hu => ?_, c4⟩, ⟨Nat.le_refl _, by omega, Nat.le_refl _⟩, fun _ _ => rfl, fun _ _ => ⟨rfl, rfl⟩, fun _ _ => ⟨rfl, rfl, rfl, rfl⟩, fun _ _ _ z => z, fun _ _ _ _ _ => rfl, fun _ _ _ z => .inl z⟩
  obtain ⟨s, a1, a2, a3, a4, a5, a6⟩ := c3 j u hu
  refine ⟨s, a1, a2, a3, a4, a5, fun z => ?_⟩
  obtain ⟨e1, e2, e3⟩ := a6 z
  exact ⟨e1, e2, vV_m (Nat.le_refl _) (by omega) (fun _ _ => rfl) (fun _ _ => ⟨rfl, rfl, rfl, rfl⟩) e3⟩
end RU
