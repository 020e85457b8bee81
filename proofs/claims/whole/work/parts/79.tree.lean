/-! TREES: the class's node c is the reference's g 0 c; its subtree is g 1 c .. c; the name m is bound at g 2 m. -/
def gA (nd m : Nat) (g g' : Nat → Nat → Nat) : Prop := (∀ k, k < nd → g' 0 k = g 0 k ∧ g' 1 k = g 1 k) ∧ (∀ k, k < m → g' 2 k = g 2 k)
def NRl (b : Nat) (T : Nat → Nat) (n : Nat) (g : Nat → Nat → Nat) (M N : mv_M) (c t : Nat) : Prop := g 1 c = c ∧ ((M.1 (b + 8) c = nI 3 ∧ N.1 71 (g 0 c) = nI 5 ∧ M.1 (b + 9) c = N.1 72 (g 0 c)) ∨ (M.1 (b + 8) c = nI 308 ∧ N.1 71 (g 0 c) = nI 6 ∧ ∃ y, y ≤ 4 ∧ M.1 (b + 13) c = nI y ∧ N.1 72 (g 0 c) = nI y) ∨ (M.1 (b + 8) c = nI 2 ∧ N.1 71 (g 0 c) = nI 7 ∧ lx_k T n (lx_st T n t) = 2 ∧ N.2.1 77 (g 0 c) = lx_tx T n (lx_st T n t)))
def NRc (b : Nat) (T : Nat → Nat) (n : Nat) (g : Nat → Nat → Nat) (an : Nat) (M N : mv_M) (c t : Nat) : Prop := M.1 (b + 8) c = nI 5 ∧ N.1 71 (g 0 c) = nI 8 ∧ lx_k T n (lx_st T n t) = 2 ∧ N.2.1 77 (g 0 c) = lx_tx T n (lx_st T n t) ∧ ∃ (p a : Nat) (e : Nat → Nat), p ≤ 1000 ∧ M.1 (b + 11) c = nI p ∧ N.1 73 (g 0 c) = nI p ∧ N.1 72 (g 0 c) = nI a ∧ (a + p ≤ an ∧ 1001 * (g 0 c / 1001) ≤ a) ∧ (p = 0 → g 1 c = c) ∧ (0 < p → M.1 (b + 10) c = nI (e 0) ∧ g 1 c = g 1 (e 0) ∧ e (p - 1) + 1 = c) ∧ (∀ k, k + 1 < p → e k + 1 < c ∧ g 1 (e (k + 1)) = e k + 1 ∧ M.1 (b + 12) (e k) = nI (e (k + 1))) ∧ (∀ k, k < p → e k < c ∧ g 1 c ≤ e k ∧ N.1 78 (a + k) = nI (g 0 (e k)))
def NR2 (b : Nat) (g : Nat → Nat → Nat) (m m' : Nat) (M N : mv_M) (c : Nat) : Prop := ∃ c1 c2, c2 + 1 = c ∧ c1 < c2 ∧ g 1 c ≤ c1 ∧ g 1 c2 = c1 + 1 ∧ g 1 c = g 1 c1 ∧ M.1 (b + 9) c = nI c1 ∧ M.1 (b + 10) c = nI c2 ∧ N.1 72 (g 0 c) = nI (g 0 c1) ∧ N.1 73 (g 0 c) = nI (g 0 c2) ∧ ((∃ s, (s = 43 ∨ s = 45 ∨ s = 42 ∨ s = 60 ∨ s = 4) ∧ M.1 (b + 8) c = nI s ∧ N.1 71 (g 0 c) = nI 1 ∧ N.1 74 (g 0 c) = nI (lx_tk s)) ∨ (M.1 (b + 8) c = nI 6 ∧ N.1 71 (g 0 c) = nI 9) ∨ (M.1 (b + 8) c = nI 304 ∧ N.1 71 (g 0 c) = nI 3 ∧ ∃ m0, m ≤ m0 ∧ m0 < m' ∧ M.1 (b + 11) c = nI m0 ∧ N.1 74 (g 0 c) = nI m0 ∧ g 2 m0 = c) ∨ (M.1 (b + 8) c = nI 306 ∧ N.1 71 (g 0 c) = nI 4 ∧ ∃ m0, m ≤ m0 ∧ m0 + 1 < m' ∧ M.1 (b + 11) c = nI m0 ∧ N.1 74 (g 0 c) = nI m0 ∧ g 2 m0 = c ∧ g 2 (m0 + 1) = c))
def NR3 (b : Nat) (g : Nat → Nat → Nat) (M N : mv_M) (c : Nat) : Prop := ∃ c1 c2 c3, c3 + 1 = c ∧ c2 < c3 ∧ c1 < c2 ∧ g 1 c ≤ c1 ∧ g 1 c3 = c2 + 1 ∧ g 1 c2 = c1 + 1 ∧ g 1 c = g 1 c1 ∧ M.1 (b + 8) c = nI 301 ∧ N.1 71 (g 0 c) = nI 2 ∧ M.1 (b + 9) c = nI c1 ∧ M.1 (b + 10) c = nI c2 ∧ M.1 (b + 11) c = nI c3 ∧ N.1 72 (g 0 c) = nI (g 0 c1) ∧ N.1 73 (g 0 c) = nI (g 0 c2) ∧ N.1 74 (g 0 c) = nI (g 0 c3)
def NR (b : Nat) (T : Nat → Nat) (n : Nat) (g : Nat → Nat → Nat) (m m' an : Nat) (M N : mv_M) (c : Nat) : Prop := ∃ t, (t ≤ 1000 ∧ lx_st T n t < n) ∧ M.1 (b + 14) c = nI t ∧ N.1 75 (g 0 c) = nI (lx_st T n t) ∧ (NRl b T n g M N c t ∨ NRc b T n g an M N c t ∨ NR2 b g m m' M N c ∨ NR3 b g M N c)
def TI (b : Nat) (T : Nat → Nat) (n : Nat) (g : Nat → Nat → Nat) (nd nd' xn xn' m m' an : Nat) (M N : mv_M) : Prop := ∀ c, nd ≤ c → c < nd' → xn ≤ g 0 c ∧ g 0 c < xn' ∧ (∀ c', nd ≤ c' → c' < c → g 0 c' ≠ g 0 c) ∧ nd ≤ g 1 c ∧ g 1 c ≤ c ∧ NR b T n g m m' an M N c
def NM (b h f m m' : Nat) (M N : mv_M) : Prop := ∀ k, m ≤ k → k < m' → M.2.1 (b + 6) (f * 16 + k) = N.2.1 69 (16 * (12 * h + f) + k)
def gU (g : Nat → Nat → Nat) (c x l : Nat) : Nat → Nat → Nat := fun r k => if r = 0 ∧ k = c then x else if r = 1 ∧ k = c then l else g r k
def gB (g : Nat → Nat → Nat) (m c : Nat) : Nat → Nat → Nat := fun r k => if r = 2 ∧ k = m then c else g r k
theorem kd_lt {T : Nat → Nat} {n s : Nat} (h : lx_k T n s ≠ 0) : s < n := by
  unfold lx_k at h
  by_cases hs : s < n
  · exact hs
  · rw [if_neg hs] at h; exact absurd rfl h
/-- labels: what is in an expression has a smaller one; none is above H -/
def LB (g : Nat → Nat → Nat) (nd nd' H : Nat) : Prop := ∃ lab : Nat → Nat, (∀ k, nd ≤ k → k < nd' → lab k ≤ H) ∧ ∀ a k, nd ≤ k → k < a → a < nd' → g 1 a ≤ k → lab k < lab a
def lbB (lb : Nat) : Nat := 4 * (20 - lb / 20) - (lb % 20 - 2) / 2
theorem LB_nil {g : Nat → Nat → Nat} {nd H : Nat} : LB g nd nd H := ⟨fun _ => 0, fun k _ _ => by omega, fun a k _ _ _ => by omega⟩
theorem LB_mono {g : Nat → Nat → Nat} {nd nd' H H' : Nat} (a : LB g nd nd' H) (h : H ≤ H') : LB g nd nd' H' := by
  obtain ⟨lab, h1, h2⟩ := a
  exact ⟨lab, fun k u v => Nat.le_trans (h1 k u v) h, h2⟩
theorem LB_congr {g g' : Nat → Nat → Nat} {nd nd' H : Nat} (a : LB g nd nd' H) (e : ∀ k, nd ≤ k → k < nd' → g' 1 k = g 1 k) : LB g' nd nd' H := by
  obtain ⟨lab, h1, h2⟩ := a
  exact ⟨lab, h1, fun a k u v w z => h2 a k u v w (by rw [← e a (by omega) w]; exact z)⟩
theorem LB_app {g : Nat → Nat → Nat} {nd nd1 nd2 H : Nat} (a : LB g nd nd1 H) (d : LB g nd1 nd2 H) (h1 : ∀ k, nd1 ≤ k → k < nd2 → nd1 ≤ g 1 k) : LB g nd nd2 H := by
  obtain ⟨la, a1, a2⟩ := a
  obtain ⟨ld, d1, d2⟩ := d
  refine ⟨fun k => if k < nd1 then la k else ld k, fun k u v => ?_, fun a k u v w z => ?_⟩
  · by_cases hk : k < nd1
    · simp only [hk, if_true]; exact a1 k u hk
    · simp only [hk, if_false]; exact d1 k (by omega) v
  · by_cases ha : a < nd1
    · have hk : k < nd1 := by omega
      simp only [hk, ha, if_true]; exact a2 a k u v ha z
    · have := h1 a (by omega) w
      have hk : ¬ k < nd1 := by omega
      simp only [hk, ha, if_false]; exact d2 a k (by omega) v w z
theorem LB_root {g : Nat → Nat → Nat} {nd c H H' : Nat} (a : LB g nd c H) (h : H < H') : LB g nd (c + 1) H' := by
  obtain ⟨lab, h1, h2⟩ := a
  refine ⟨fun k => if k < c then lab k else H', fun k u v => ?_, fun a k u v w z => ?_⟩
  · by_cases hk : k < c
    · simp only [hk, if_true]; have := h1 k u hk; omega
    · simp only [hk, if_false]; omega
  · have hk : k < c := by omega
    by_cases ha : a < c
    · simp only [hk, ha, if_true]; exact h2 a k u v ha z
    · simp only [hk, ha, if_true, if_false]; have := h1 k u hk; omega
section TR
variable {b h n f m m' m1 m2 nd nd' nd1 nd2 xn xn' xn1 xn2 an an' c x l : Nat} {M M' N N' : mv_M} {T : Nat → Nat} {g g' g1 g2 : Nat → Nat → Nat}
theorem gA_refl : gA nd m g g := ⟨fun _ _ => ⟨rfl, rfl⟩, fun _ _ => rfl⟩
theorem gA_trans (a : gA nd m g g1) (d : gA nd1 m1 g1 g2) (h1 : nd ≤ nd1) (h2 : m ≤ m1) : gA nd m g g2 := ⟨fun k hk => ⟨(d.1 k (by omega)).1.trans (a.1 k hk).1, (d.1 k (by omega)).2.trans (a.1 k hk).2⟩, fun k hk => (d.2 k (by omega)).trans (a.2 k hk)⟩
theorem gU_0 : gU g c x l 0 c = x := by unfold gU; simp
theorem gU_1 : gU g c x l 1 c = l := by unfold gU; simp
theorem gU_ne {r k : Nat} (hk : k ≠ c) : gU g c x l r k = g r k := by unfold gU; rw [if_neg (by omega), if_neg (by omega)]
theorem gU_2 {k : Nat} : gU g c x l 2 k = g 2 k := by unfold gU; rw [if_neg (by omega), if_neg (by omega)]
theorem gB_2 : gB g m c 2 m = c := by unfold gB; simp
theorem gB_ne {r k : Nat} (hk : r ≠ 2 ∨ k ≠ m) : gB g m c r k = g r k := by unfold gB; rw [if_neg (by omega)]
theorem gA_U (hc : nd ≤ c) : gA nd m g (gU g c x l) := ⟨fun k hk => ⟨gU_ne (by omega), gU_ne (by omega)⟩, fun k _ => gU_2⟩
theorem gA_B (hc : m ≤ m1) : gA nd m g (gB g m1 c) := ⟨fun k hk => ⟨gB_ne (by omega), gB_ne (by omega)⟩, fun k hk => gB_ne (by omega)⟩
theorem TI_congr (a : TI b T n g nd nd' xn xn' m m' an M N) (e1 : ∀ c k, b + 8 ≤ c → c ≤ b + 14 → nd ≤ k → k < nd' → (c = b + 12 → k + 1 < nd') → M'.1 c k = M.1 c k) (e2 : ∀ c k, 71 ≤ c → c ≤ 75 → xn ≤ k → k < xn' → N'.1 c k = N.1 c k) (e3 : ∀ k, xn ≤ k → k < xn' → N'.2.1 77 k = N.2.1 77 k) (e4 : ∀ k, k < an → N'.1 78 k = N.1 78 k) (e5 : ∀ k, nd ≤ k → k < nd' → g' 0 k = g 0 k ∧ g' 1 k = g 1 k) (e6 : ∀ k, m ≤ k → k < m' → g' 2 k = g 2 k) : TI b T n g' nd nd' xn xn' m m' an M' N' := by
  intro c hc1 hc2
  obtain ⟨a1, a2, a3, a4, a5, t, a6, a7, a8, a9⟩ := a c hc1 hc2
  have g0 := (e5 c hc1 hc2).1
  have gl := (e5 c hc1 hc2).2
  refine ⟨by omega, by omega, fun c' z1 z2 => ?_, by omega, by omega, t, a6, ?_, ?_, ?_⟩
  · rw [g0, (e5 c' z1 (by omega)).1]; exact a3 c' z1 z2
  · rw [e1 _ _ (by omega) (by omega) hc1 hc2 (by omega)]; exact a7
  · rw [g0, e2 _ _ (by omega) (by omega) a1 a2]; exact a8
  have q8 := e1 (b + 8) c (by omega) (by omega) hc1 hc2 (by omega)
  have q9 := e1 (b + 9) c (by omega) (by omega) hc1 hc2 (by omega)
  have q10 := e1 (b + 10) c (by omega) (by omega) hc1 hc2 (by omega)
  have q11 := e1 (b + 11) c (by omega) (by omega) hc1 hc2 (by omega)
  have q13 := e1 (b + 13) c (by omega) (by omega) hc1 hc2 (by omega)
  have w1 := e2 71 (g 0 c) (by omega) (by omega) a1 a2
  have w2 := e2 72 (g 0 c) (by omega) (by omega) a1 a2
  have w3 := e2 73 (g 0 c) (by omega) (by omega) a1 a2
  have w4 := e2 74 (g 0 c) (by omega) (by omega) a1 a2
  have w7 := e3 (g 0 c) a1 a2
  rcases a9 with a9 | a9 | a9 | a9
  · refine .inl ?_
    unfold NRl at a9 ⊢
    rw [g0, gl, q8, q9, q13, w1, w2, w7]
    exact a9
  · refine .inr (.inl ?_)
    unfold NRc at a9 ⊢
    rw [g0, gl, q8, q10, q11, w1, w2, w3, w7]
    obtain ⟨u1, u2, u3, u4, p, a, e, v1, v2, v3, v4, v5, v6, v7, v8, v9⟩ := a9
    refine ⟨u1, u2, u3, u4, p, a, e, v1, v2, v3, v4, v5, v6, fun z => ?_, fun k hk => ?_, fun k hk => ?_⟩
    · have y := v9 0 z
      rw [(e5 (e 0) (by omega) (by omega)).2]
      exact v7 z
    · have y := v8 k hk
      have y1 := v9 k (by omega)
      have y2 := v9 (k + 1) hk
      rw [(e5 (e (k + 1)) (by omega) (by omega)).2, e1 (b + 12) (e k) (by omega) (by omega) (by omega) (by omega) (by omega)]
      exact y
    · have y := v9 k hk
      rw [(e5 (e k) (by omega) (by omega)).1, e4 _ (by omega)]
      exact y
  · refine .inr (.inr (.inl ?_))
    unfold NR2 at a9 ⊢
    obtain ⟨c1, c2, v1, v2, v3, v4, v5, v6, v7, v8, v9, v10⟩ := a9
    refine ⟨c1, c2, v1, v2, by omega, ?_, ?_, ?_, ?_, ?_, ?_, ?_⟩
    · rw [(e5 c2 (by omega) (by omega)).2]; exact v4
    · rw [gl, (e5 c1 (by omega) (by omega)).2]; exact v5
    · rw [q9]; exact v6
    · rw [q10]; exact v7
    · rw [g0, (e5 c1 (by omega) (by omega)).1, w2]; exact v8
    · rw [g0, (e5 c2 (by omega) (by omega)).1, w3]; exact v9
    · rw [q8, g0, w1, w4, q11]
      rcases v10 with z | z | ⟨z1, z2, m0, z3, z4, z5, z6, z7⟩ | ⟨z1, z2, m0, z3, z4, z5, z6, z7, z8⟩
      · exact .inl z
      · exact .inr (.inl z)
      · exact .inr (.inr (.inl ⟨z1, z2, m0, z3, z4, z5, z6, (e6 m0 z3 z4).trans z7⟩))
      · exact .inr (.inr (.inr ⟨z1, z2, m0, z3, z4, z5, z6, (e6 m0 z3 (by omega)).trans z7, (e6 (m0 + 1) (by omega) z4).trans z8⟩))
  · refine .inr (.inr (.inr ?_))
    unfold NR3 at a9 ⊢
    obtain ⟨c1, c2, c3, v1, v2, v3, v4, v5, v6, v7, v8, v9, v10, v11, v12, v13, v14, v15⟩ := a9
    refine ⟨c1, c2, c3, v1, v2, v3, by omega, ?_, ?_, ?_, q8.trans v8, ?_, q9.trans v10, q10.trans v11, q11.trans v12, ?_, ?_, ?_⟩
    · rw [(e5 c3 (by omega) (by omega)).2]; exact v5
    · rw [(e5 c2 (by omega) (by omega)).2]; exact v6
    · rw [gl, (e5 c1 (by omega) (by omega)).2]; exact v7
    · rw [g0]; exact w1.trans v9
    · rw [g0, (e5 c1 (by omega) (by omega)).1]; exact w2.trans v13
    · rw [g0, (e5 c2 (by omega) (by omega)).1]; exact w3.trans v14
    · rw [g0, (e5 c3 (by omega) (by omega)).1]; exact w4.trans v15
theorem NR_mono (a : NR b T n g m m' an M N c) (h1 : m1 ≤ m) (h2 : m' ≤ m2) (h3 : an ≤ an') : NR b T n g m1 m2 an' M N c := by
  obtain ⟨t, a1, a2, a3, a4⟩ := a
  refine ⟨t, a1, a2, a3, ?_⟩
  rcases a4 with z | z | z | z
  · exact .inl z
  · refine .inr (.inl ?_)
    obtain ⟨u1, u2, u3, u4, p, a, e, v1, v2, v3, v4, v5, v6⟩ := z
    exact ⟨u1, u2, u3, u4, p, a, e, v1, v2, v3, v4, by omega, v6⟩
  · refine .inr (.inr (.inl ?_))
    obtain ⟨c1, c2, v1, v2, v3, v4, v5, v6, v7, v8, v9, v10⟩ := z
    refine ⟨c1, c2, v1, v2, v3, v4, v5, v6, v7, v8, v9, ?_⟩
    rcases v10 with z | z | ⟨z1, z2, m0, z3, z4, z5⟩ | ⟨z1, z2, m0, z3, z4, z5⟩
    · exact .inl z
    · exact .inr (.inl z)
    · exact .inr (.inr (.inl ⟨z1, z2, m0, by omega, by omega, z5⟩))
    · exact .inr (.inr (.inr ⟨z1, z2, m0, by omega, by omega, z5⟩))
  · exact .inr (.inr (.inr z))
theorem TI_mono (a : TI b T n g nd nd' xn xn' m m' an M N) (h1 : m1 ≤ m) (h2 : m' ≤ m2) (h3 : an ≤ an') (h4 : xn1 ≤ xn) (h5 : xn' ≤ xn2) : TI b T n g nd nd' xn1 xn2 m1 m2 an' M N := by
  intro c hc1 hc2
  obtain ⟨a1, a2, a3, a4, a5, a6⟩ := a c hc1 hc2
  exact ⟨by omega, by omega, a3, a4, a5, NR_mono a6 h1 h2 h3⟩
theorem TI_app (a : TI b T n g nd nd1 xn xn1 m m1 an M N) (d : TI b T n g nd1 nd2 xn1 xn2 m1 m2 an M N) (h0 : nd ≤ nd1) (h1 : m ≤ m1) (h2 : m1 ≤ m2) (h3 : xn ≤ xn1) (h4 : xn1 ≤ xn2) : TI b T n g nd nd2 xn xn2 m m2 an M N := by
  intro c hc1 hc2
  by_cases hc : c < nd1
  · obtain ⟨a1, a2, a3, a4, a5, a6⟩ := a c hc1 hc
    exact ⟨a1, by omega, a3, a4, a5, NR_mono a6 (by omega) h2 (by omega)⟩
  · obtain ⟨a1, a2, a3, a4, a5, a6⟩ := d c (by omega) hc2
    refine ⟨by omega, a2, fun c' z1 z2 => ?_, by omega, a5, NR_mono a6 h1 (by omega) (by omega)⟩
    by_cases hc' : c' < nd1
    · have := (a c' z1 hc').2.1
      omega
    · exact a3 c' (by omega) z2
theorem TI_snoc (a : TI b T n g nd nd1 xn xn1 m m1 an M N) (h1 : xn ≤ g 0 nd1 ∧ g 0 nd1 < xn1) (h2 : ∀ c, nd ≤ c → c < nd1 → g 0 c ≠ g 0 nd1) (h3 : nd ≤ g 1 nd1 ∧ g 1 nd1 ≤ nd1) (h4 : NR b T n g m m1 an M N nd1) : TI b T n g nd (nd1 + 1) xn xn1 m m1 an M N := by
  intro c hc1 hc2
  by_cases hc : c < nd1
  · exact a c hc1 hc
  · obtain rfl : c = nd1 := by omega
    exact ⟨h1.1, h1.2, h2, h3.1, h3.2, h4⟩
theorem TI_nil : TI b T n g nd nd xn xn1 m m1 an M N := fun c _ _ => by omega
end TR
section CN
variable {b n cnt f i m nd : Nat} {M M0 : mv_M} {T : Nat → Nat}
theorem c_node {kd t a1 a2 a3 : Int32} (hb : b = 9 ∨ b = 24) (hc : cO b M0 T n cnt f i m nd M) (hnd : nd < i) : ∃ M', fX4_addNode b kd t a1 a2 a3 M = some (nI nd, M') ∧ cO b M0 T n cnt f i m (nd + 1) M' ∧ cE b f m nd M M' ∧ M'.1 (b + 8) nd = kd ∧ M'.1 (b + 14) nd = t ∧ M'.1 (b + 9) nd = a1 ∧ M'.1 (b + 10) nd = a2 ∧ M'.1 (b + 11) nd = a3 ∧ M'.1 (b + 13) nd = nI 0 := by
  obtain ⟨hB, h3, hi, hi2, hk1, hm1, hm2, hnd1, hnd2, h10⟩ := hc
  refine ⟨mv_si (mv_si (mv_si (mv_si (mv_si (mv_si (mv_si (mv_si M b 8 (nI (nd + 1))) (b + 8) nd kd) (b + 14) nd t) (b + 9) nd a1) (b + 10) nd a2) (b + 11) nd a3) (b + 12) nd nN) (b + 13) nd (nI 0), ?_, ⟨cB_si hb (cB_si hb (cB_si hb (cB_si hb (cB_si hb (cB_si hb (cB_si hb (cB_si hb hB (by omega)) (by omega)) (by omega)) (by omega)) (by omega)) (by omega)) (by omega)) (by omega), by simp (disch := omega) only [rd_hi, rd_mi, rd_hl, rd_ml, rd_hr, rd_mr, rd_si2, rd_sl1, rd_sl2, rd_sr1, rd_sr2]; exact h3, hi, hi2, hk1, by simp (disch := omega) only [rd_hi, rd_mi, rd_hl, rd_ml, rd_hr, rd_mr, rd_si2, rd_sl1, rd_sl2, rd_sr1, rd_sr2]; exact hm1, hm2, by simp (disch := omega) only [rd_hi, rd_mi, rd_hl, rd_ml, rd_hr, rd_mr, rd_si2, rd_sl1, rd_sl2, rd_sr1, rd_sr2], by omega, by simp (disch := omega) only [rd_hi, rd_mi, rd_hl, rd_ml, rd_hr, rd_mr, rd_si2, rd_sl1, rd_sl2, rd_sr1, rd_sr2]; exact h10⟩, cE_si (cE_si (cE_si (cE_si (cE_si (cE_si (cE_si (cE_si cE_refl (by unfold cEa; omega)) (by unfold cEa; omega)) (by unfold cEa; omega)) (by unfold cEa; omega)) (by unfold cEa; omega)) (by unfold cEa; omega)) (by unfold cEa; omega)) (by unfold cEa; omega), by simp (disch := omega) only [rd_hi, rd_mi, rd_hl, rd_ml, rd_hr, rd_mr, rd_si2, rd_sl1, rd_sl2, rd_sr1, rd_sr2], by simp (disch := omega) only [rd_hi, rd_mi, rd_hl, rd_ml, rd_hr, rd_mr, rd_si2, rd_sl1, rd_sl2, rd_sr1, rd_sr2], by simp (disch := omega) only [rd_hi, rd_mi, rd_hl, rd_ml, rd_hr, rd_mr, rd_si2, rd_sl1, rd_sl2, rd_sr1, rd_sr2], by simp (disch := omega) only [rd_hi, rd_mi, rd_hl, rd_ml, rd_hr, rd_mr, rd_si2, rd_sl1, rd_sl2, rd_sr1, rd_sr2], by simp (disch := omega) only [rd_hi, rd_mi, rd_hl, rd_ml, rd_hr, rd_mr, rd_si2, rd_sl1, rd_sl2, rd_sr1, rd_sr2], by simp (disch := omega) only [rd_hi, rd_mi, rd_hl, rd_ml, rd_hr, rd_mr, rd_si2, rd_sl1, rd_sl2, rd_sr1, rd_sr2]⟩
  unfold fX4_addNode
  simp (disch := omega) only [hnd1, k_iT, k_iF, Bool.false_eq_true, eq_self, Nat.add_zero, k_lt', k_bs, k_T, k_F, k_inb, k_ck, k_nz, ↓kN, kL, k_lt, k_le, k_eq, kn_le, kn_lt, kn_eq, kn_le', kn_lt', kn_eq', nI_clamp, nI_add, k_sub, k_mul, k_div, rd_hi, rd_mi, rd_hl, rd_ml, rd_hr, rd_mr, rd_si2, rd_sl1, rd_sl2, rd_sr1, rd_sr2]
end CN
