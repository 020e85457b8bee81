/-! a typed program as numbers -/
section XP
variable {b h n cnt f F ND an p m hi a y : Nat} {M M' M0 N N' N0 : mv_M} {T lo xl pf mf : Nat → Nat} {g : Nat → Nat → Nat} {G : Nat → Nat → Nat → Nat} {lab : Nat → Nat → Nat}
theorem nk_2 (hn : nt b h f p m hi F g M0 M N a y) (hk : M0.1 (b + 8) a = nI 2) : ∃ nm, nm < m ∧ IS g p hi a nm ∧ M.1 (b + 9) a = nI nm ∧ N.1 72 (g 0 a) = nI nm ∧ M.1 (b + 7) (f * 16 + nm) = nI y ∧ N.1 70 (16 * (12 * h + f) + nm) = nI y := by
  rcases hn with ⟨z, _⟩ | z | ⟨z, w⟩ | ⟨z, _⟩ | ⟨c1, c2, z1, z2, z0, z3, z4, z5⟩ | ⟨c1, c2, c3, _, _, _, _, z, _⟩
  · rw [hk] at z; exact absurd z (by decide)
  · rw [hk] at z; exact absurd z (by decide)
  · exact w
  · rw [hk] at z; exact absurd z (by decide)
  · exfalso
    rcases z5 with ⟨⟨s, hs, z⟩, _⟩ | ⟨z, _⟩ | ⟨z, _⟩ | ⟨z, _⟩
    · rw [hk] at z; rcases hs with rfl | rfl | rfl | rfl | rfl <;> exact absurd z (by decide)
    · rw [hk] at z; exact absurd z (by decide)
    · rw [hk] at z; exact absurd z (by decide)
    · rw [hk] at z; exact absurd z (by decide)
  · rw [hk] at z; exact absurd z (by decide)
theorem nk_3 (hn : nt b h f p m hi F g M0 M N a y) (hk : M0.1 (b + 8) a = nI 3) : y = 0 := by
  rcases hn with ⟨z, w⟩ | z | ⟨z, _⟩ | ⟨z, _⟩ | ⟨c1, c2, z1, z2, z0, z3, z4, z5⟩ | ⟨c1, c2, c3, _, _, _, _, z, _⟩
  · exact w
  · rw [hk] at z; exact absurd z (by decide)
  · rw [hk] at z; exact absurd z (by decide)
  · rw [hk] at z; exact absurd z (by decide)
  · exfalso
    rcases z5 with ⟨⟨s, hs, z⟩, _⟩ | ⟨z, _⟩ | ⟨z, _⟩ | ⟨z, _⟩
    · rw [hk] at z; rcases hs with rfl | rfl | rfl | rfl | rfl <;> exact absurd z (by decide)
    · rw [hk] at z; exact absurd z (by decide)
    · rw [hk] at z; exact absurd z (by decide)
    · rw [hk] at z; exact absurd z (by decide)
  · rw [hk] at z; exact absurd z (by decide)
theorem nk_5 (hn : nt b h f p m hi F g M0 M N a y) (hk : M0.1 (b + 8) a = nI 5) : ∃ q pq, ∃ e : Nat → Nat, q < F ∧ M.1 (b + 9) a = nI q ∧ N.1 74 (g 0 a) = nI (12 * h + q) ∧ M0.1 (b + 4) q = nI y ∧ M0.1 (b + 2) q = nI pq ∧ M0.1 (b + 11) a = nI pq ∧ pq ≤ 4 ∧ (0 < pq → M0.1 (b + 10) a = nI (e 0)) ∧ (∀ k, k + 1 < pq → M0.1 (b + 12) (e k) = nI (e (k + 1))) ∧ ∀ k, k < pq → e k < a ∧ g 1 a ≤ e k ∧ ∃ yk, yk ≤ 4 ∧ M.1 (b + 13) (e k) = nI yk ∧ M0.1 (b + 7) (q * 16 + k) = nI yk := by
  rcases hn with ⟨z, w⟩ | z | ⟨z, _⟩ | ⟨z, w⟩ | ⟨c1, c2, z1, z2, z0, z3, z4, z5⟩ | ⟨c1, c2, c3, _, _, _, _, z, _⟩
  · rw [hk] at z; exact absurd z (by decide)
  · rw [hk] at z; exact absurd z (by decide)
  · rw [hk] at z; exact absurd z (by decide)
  · exact w
  · exfalso
    rcases z5 with ⟨⟨s, hs, z⟩, _⟩ | ⟨z, _⟩ | ⟨z, _⟩ | ⟨z, _⟩
    · rw [hk] at z; rcases hs with rfl | rfl | rfl | rfl | rfl <;> exact absurd z (by decide)
    · rw [hk] at z; exact absurd z (by decide)
    · rw [hk] at z; exact absurd z (by decide)
    · rw [hk] at z; exact absurd z (by decide)
  · rw [hk] at z; exact absurd z (by decide)
theorem nk_s {s c1 c2 : Nat} (hn : nt b h f p m hi F g M0 M N a y) (hs : s = 43 ∨ s = 45 ∨ s = 42 ∨ s = 60 ∨ s = 4) (hk : M0.1 (b + 8) a = nI s) (h1 : M0.1 (b + 9) a = nI c1) (h2 : M0.1 (b + 10) a = nI c2) (l1 : c1 < 2 ^ 31) (l2 : c2 < 2 ^ 31) (ha : a < 2 ^ 31) : y = 0 ∧ M.1 (b + 13) c1 = nI 0 ∧ M.1 (b + 13) c2 = nI 0 := by
  rcases hn with ⟨z, w⟩ | z | ⟨z, _⟩ | ⟨z, w⟩ | ⟨d1, d2, z1, z2, z0, z3, z4, z5⟩ | ⟨d1, d2, d3, _, _, _, _, z, _⟩
  · rw [hk] at z; rcases hs with rfl | rfl | rfl | rfl | rfl <;> exact absurd z (by decide)
  · rw [hk] at z; rcases hs with rfl | rfl | rfl | rfl | rfl <;> exact absurd z (by decide)
  · rw [hk] at z; rcases hs with rfl | rfl | rfl | rfl | rfl <;> exact absurd z (by decide)
  · rw [hk] at z; rcases hs with rfl | rfl | rfl | rfl | rfl <;> exact absurd z (by decide)
  · rw [h1, k_eq l1 (by omega)] at z3
    rw [h2, k_eq l2 (by omega)] at z4
    subst z3 z4
    rcases z5 with ⟨_, w⟩ | ⟨z, _⟩ | ⟨z, _⟩ | ⟨z, _⟩
    · exact w
    · rw [hk] at z; rcases hs with rfl | rfl | rfl | rfl | rfl <;> exact absurd z (by decide)
    · rw [hk] at z; rcases hs with rfl | rfl | rfl | rfl | rfl <;> exact absurd z (by decide)
    · rw [hk] at z; rcases hs with rfl | rfl | rfl | rfl | rfl <;> exact absurd z (by decide)
  · rw [hk] at z; rcases hs with rfl | rfl | rfl | rfl | rfl <;> exact absurd z (by decide)
theorem nk_c {c1 c2 kd : Nat} (hn : nt b h f p m hi F g M0 M N a y) (hkd : kd = 6 ∨ kd = 304 ∨ kd = 306) (hk : M0.1 (b + 8) a = nI kd) (h1 : M0.1 (b + 9) a = nI c1) (h2 : M0.1 (b + 10) a = nI c2) (l1 : c1 < 2 ^ 31) (l2 : c2 < 2 ^ 31) (ha : a < 2 ^ 31) : (kd = 6 ∧ ∃ y1 y2, y1 ≤ 1 ∧ y2 ≤ 1 ∧ y = 1 + 2 * y1 + y2 ∧ M.1 (b + 13) c1 = nI y1 ∧ M.1 (b + 13) c2 = nI y2) ∨ (kd = 304 ∧ ∃ m0 y1, p ≤ m0 ∧ m0 < m ∧ M0.1 (b + 11) a = nI m0 ∧ g 2 m0 = a ∧ y1 ≤ 4 ∧ M.1 (b + 13) c1 = nI y1 ∧ M.1 (b + 7) (f * 16 + m0) = nI y1 ∧ N.1 70 (16 * (12 * h + f) + m0) = nI y1 ∧ M.1 (b + 13) c2 = nI y) ∨ (kd = 306 ∧ ∃ m0 y1, p ≤ m0 ∧ m0 + 1 < m ∧ M0.1 (b + 11) a = nI m0 ∧ g 2 m0 = a ∧ g 2 (m0 + 1) = a ∧ 0 < y1 ∧ y1 ≤ 4 ∧ M.1 (b + 13) c1 = nI y1 ∧ M.1 (b + 7) (f * 16 + m0) = nI ((y1 - 1) / 2) ∧ N.1 70 (16 * (12 * h + f) + m0) = nI ((y1 - 1) / 2) ∧ M.1 (b + 7) (f * 16 + (m0 + 1)) = nI ((y1 - 1) % 2) ∧ N.1 70 (16 * (12 * h + f) + (m0 + 1)) = nI ((y1 - 1) % 2) ∧ M.1 (b + 13) c2 = nI y) := by
  have no : ∀ v : Nat, v < 2 ^ 31 → v ≠ kd → M0.1 (b + 8) a ≠ nI v := by
    intro v hv hne e
    rw [hk, k_eq (by omega) hv] at e
    omega
  rcases hn with ⟨z, w⟩ | z | ⟨z, _⟩ | ⟨z, w⟩ | ⟨d1, d2, z1, z2, z0, z3, z4, z5⟩ | ⟨d1, d2, d3, _, _, _, _, z, _⟩
  · exact absurd z (no 3 (by omega) (by omega))
  · exact absurd z (no 308 (by omega) (by omega))
  · exact absurd z (no 2 (by omega) (by omega))
  · exact absurd z (no 5 (by omega) (by omega))
  · rw [h1, k_eq l1 (by omega)] at z3
    rw [h2, k_eq l2 (by omega)] at z4
    subst z3 z4
    rcases z5 with ⟨⟨s, hs, z⟩, _⟩ | ⟨z, w⟩ | ⟨z, w⟩ | ⟨z, w⟩
    · exact absurd z (no s (by omega) (by omega))
    · rw [hk, k_eq (by omega) (by omega)] at z; exact .inl ⟨z, w⟩
    · rw [hk, k_eq (by omega) (by omega)] at z; exact .inr (.inl ⟨z, w⟩)
    · rw [hk, k_eq (by omega) (by omega)] at z; exact .inr (.inr ⟨z, w⟩)
  · exact absurd z (no 301 (by omega) (by omega))
theorem nk_i {c1 c2 c3 : Nat} (hn : nt b h f p m hi F g M0 M N a y) (hk : M0.1 (b + 8) a = nI 301) (h1 : M0.1 (b + 9) a = nI c1) (h2 : M0.1 (b + 10) a = nI c2) (h3 : M0.1 (b + 11) a = nI c3) (l1 : c1 < 2 ^ 31) (l2 : c2 < 2 ^ 31) (l3 : c3 < 2 ^ 31) (ha : a < 2 ^ 31) : M.1 (b + 13) c1 = nI 0 ∧ M.1 (b + 13) c2 = nI y ∧ M.1 (b + 13) c3 = nI y := by
  have no : ∀ v : Nat, v < 2 ^ 31 → v ≠ 301 → M0.1 (b + 8) a ≠ nI v := by
    intro v hv hne e
    rw [hk, k_eq (by omega) hv] at e
    omega
  rcases hn with ⟨z, w⟩ | z | ⟨z, _⟩ | ⟨z, w⟩ | ⟨d1, d2, z1, z2, z0, z3, z4, z5⟩ | ⟨d1, d2, d3, _, _, _, _, z, z1, z2, z3, w⟩
  · exact absurd z (no 3 (by omega) (by omega))
  · exact absurd z (no 308 (by omega) (by omega))
  · exact absurd z (no 2 (by omega) (by omega))
  · exact absurd z (no 5 (by omega) (by omega))
  · rcases z5 with ⟨⟨s, hs, z⟩, _⟩ | ⟨z, w⟩ | ⟨z, w⟩ | ⟨z, w⟩
    · exact absurd z (no s (by omega) (by omega))
    · exact absurd z (no 6 (by omega) (by omega))
    · exact absurd z (no 304 (by omega) (by omega))
    · exact absurd z (no 306 (by omega) (by omega))
  · rw [h1, k_eq l1 (by omega)] at z1
    rw [h2, k_eq l2 (by omega)] at z2
    rw [h3, k_eq l3 (by omega)] at z3
    subst z1 z2 z3
    exact w
theorem mN_congr {P : Nat → Nat → Nat} {c : Nat} (hn : mN b h P c M N) (e1 : ∀ c' k, b + 8 ≤ c' → c' ≤ b + 13 → M'.1 c' k = M.1 c' k) (e2 : ∀ c' k, 71 ≤ c' → c' ≤ 78 → N'.1 c' k = N.1 c' k) : mN b h P c M' N' := by
  obtain ⟨a1, a2, a3, a4, a5, a6, a7, a8, a9, aA, aB, aC⟩ := hn
  have f8 := e1 (b + 8) c (by omega) (by omega)
  have f9 := e1 (b + 9) c (by omega) (by omega)
  have f10 := e1 (b + 10) c (by omega) (by omega)
  have f11 := e1 (b + 11) c (by omega) (by omega)
  have f13 := e1 (b + 13) c (by omega) (by omega)
  have g71 := e2 71 (P 6 c) (by omega) (by omega)
  have g72 := e2 72 (P 6 c) (by omega) (by omega)
  have g73 := e2 73 (P 6 c) (by omega) (by omega)
  have g74 := e2 74 (P 6 c) (by omega) (by omega)
  have g76 := e2 76 (P 6 c) (by omega) (by omega)
  refine ⟨f8.trans a1, f13.trans a2, a3, g71.trans a4, g76.trans a5, fun z => by rw [f9, g72]; exact a6 z, fun z => by rw [f9, g72]; exact a7 z, fun z => ?_, fun z => by rw [f9, f10, g72, g73]; exact a9 z, fun z => by rw [g74]; exact aA z, fun z => by rw [f11, g74]; exact aB z, fun z => by rw [f11, g74]; exact aC z⟩
  obtain ⟨u1, u2, u3, u4, u5, u6, u7, u8, u9⟩ := a8 z
  exact ⟨f9.trans u1, g74.trans u2, f11.trans u3, g73.trans u4, g72.trans u5, u6, fun w => f10.trans (u7 w), fun k w => (e1 _ _ (by omega) (by omega)).trans (u8 k w), fun k w => (e2 _ _ (by omega) (by omega)).trans (u9 k w)⟩
set_option maxHeartbeats 4000000 in
theorem x_prog (hG : yG b h M0 N0 T n cnt F ND) (hF0 : 0 < F) (hm1 : ∀ f, f < F → lo f ≤ lo (f + 1)) (hE : yE b h M0 N0 T n F ND lo xl an pf mf G lab) (hW : yW b M0 M) (hZ : zW h N0 N) (hP : yP b h F M0 N0 M N) (hV : yV b h M0 F lo pf mf G M N F) (h67 : ∀ f, f < F → N0.1 67 (12 * h + f) = nI (mf f)) : ∃ P, (WFp P F ND ∧ WSc P F ∧ Hf h P F) ∧ ∀ N', (∀ c k, c ≠ 79 → c ≠ 62 → N'.1 c k = N.1 c k) → N'.1 79 h = nI F → PR b h P F ND M N' := by
  have hx := hG.1
  have hb := hx.1
  have hh := hG.2.1
  have hFF := hx.2.2.2.1.2
  have hND := hx.2.2.2.2.1.2
  refine ⟨mkP b h F lo pf mf G lab M N, ?_⟩
  generalize hPP : mkP b h F lo pf mf G lab M N = P
  have p0 : ∀ x, P 0 x = (M.1 (b + 8) x).toNatClampNeg := fun x => by rw [← hPP]; rfl
  have p1 : ∀ x, P 1 x = (M.1 (b + 9) x).toNatClampNeg := fun x => by rw [← hPP]; rfl
  have p2 : ∀ x, P 2 x = (M.1 (b + 10) x).toNatClampNeg := fun x => by rw [← hPP]; rfl
  have p3 : ∀ x, P 3 x = (M.1 (b + 11) x).toNatClampNeg := fun x => by rw [← hPP]; rfl
  have p4 : ∀ x, P 4 x = (M.1 (b + 12) x).toNatClampNeg := fun x => by rw [← hPP]; rfl
  have p5 : ∀ x, P 5 x = (M.1 (b + 13) x).toNatClampNeg := fun x => by rw [← hPP]; rfl
  have p6 : ∀ x, P 6 x = G (fno lo F x) 0 x := fun x => by rw [← hPP]; rfl
  have p7 : ∀ x, P 7 x = G (fno lo F x) 1 x := fun x => by rw [← hPP]; rfl
  have p8 : ∀ x, P 8 x = lab (fno lo F x) x := fun x => by rw [← hPP]; rfl
  have p9 : ∀ x, P 9 x = pf x := fun x => by rw [← hPP]; rfl
  have p10 : ∀ x, P 10 x = mf x := fun x => by rw [← hPP]; rfl
  have p11 : ∀ x, P 11 x = (M.1 (b + 4) x).toNatClampNeg := fun x => by rw [← hPP]; rfl
  have p12 : ∀ x, P 12 x = lo (x + 1) - 1 := fun x => by rw [← hPP]; rfl
  have p13 : ∀ f k, k < 16 → P 13 (16 * f + k) = nTy b h M N f k := fun f k hk => by
    rw [← hPP]
    show nTy b h M N ((16 * f + k) / 16) ((16 * f + k) % 16) = _
    rw [show (16 * f + k) / 16 = f by omega, show (16 * f + k) % 16 = k by omega]
  have p14 : ∀ f k, k < 16 → P 14 (16 * f + k) = G f 2 k := fun f k hk => by
    rw [← hPP]
    show G ((16 * f + k) / 16) 2 ((16 * f + k) % 16) = _
    rw [show (16 * f + k) / 16 = f by omega, show (16 * f + k) % 16 = k by omega]
  have p15 : ∀ x, P 15 x = lo x := fun x => by rw [← hPP]; rfl
  have p16 : ∀ x, P 16 x = (N.1 72 (G (fno lo F x) 0 x)).toNatClampNeg := fun x => by rw [← hPP]; rfl
  clear hPP
  have fo : ∀ f c, f < F → lo f ≤ c → c < lo (f + 1) → fno lo F c = f := by
    intro f c hf h1 h2
    refine fno_eq h1 F hf (fun k k1 k2 => ?_)
    have := mono_lo hm1 (k - (f + 1)) (f + 1) (by omega)
    rw [show f + 1 + (k - (f + 1)) = k by omega] at this
    omega
  have m8 : ∀ c, M.1 (b + 8) c = M0.1 (b + 8) c := fun c => hW.1 _ _ ((yA_ne hb).2.2.2.2.2.1 _)
  have m10 : ∀ c, M.1 (b + 10) c = M0.1 (b + 10) c := fun c => hW.1 _ _ ((yA_ne hb).2.2.2.2.2.2.1 _)
  have m11 : ∀ c, M.1 (b + 11) c = M0.1 (b + 11) c := fun c => hW.1 _ _ ((yA_ne hb).2.2.2.2.2.2.2.1 _)
  have m12 : ∀ c, M.1 (b + 12) c = M0.1 (b + 12) c := fun c => hW.1 _ _ ((yA_ne hb).2.2.2.2.2.2.2.2.1 _)
  have m4 : ∀ c, M.1 (b + 4) c = M0.1 (b + 4) c := fun c => hW.1 _ _ ((yA_ne hb).2.2.2.2.1 _)
  have m2 : ∀ c, M.1 (b + 2) c = M0.1 (b + 2) c := fun c => hW.1 _ _ ((yA_ne hb).2.2.2.1 _)
  have m3 : ∀ c, M.1 (b + 3) c = M0.1 (b + 3) c := fun c => hW.1 _ _ ((yA_ne hb).2.2.1 _)
  have m5 : ∀ c, M.1 (b + 5) c = M0.1 (b + 5) c := fun c => hW.1 _ _ (by unfold yA; omega)
  have nz : ∀ c k, (c = 65 ∨ c = 66 ∨ c = 67 ∨ c = 68 ∨ c = 71 ∨ c = 73 ∨ c = 78) → N.1 c k = N0.1 c k := fun c k hc => hZ.1 _ _ (by unfold zA; omega)
  have nT : ∀ {f k y}, k < 16 → y ≤ 4 → M.1 (b + 7) (f * 16 + k) = nI y → N.1 70 (16 * (12 * h + f) + k) = nI y → P 13 (16 * f + k) = y := fun hk hy e1 e2 => by rw [p13 _ _ hk]; exact nTy_eq hy e1 e2
  have par : ∀ q k, q < F → k < pf q → ∃ y, y ≤ 4 ∧ M.1 (b + 7) (q * 16 + k) = nI y ∧ N.1 70 (16 * (12 * h + q) + k) = nI y ∧ M0.1 (b + 7) (q * 16 + k) = nI y := by
    intro q k hq hk
    obtain ⟨hU, _, _, _, _, _, _, hpt⟩ := hE q hq
    obtain ⟨y, y1, y2, y3⟩ := hpt k hk
    obtain ⟨w1, w2⟩ := hP.2.2.2.2 q k (pf q) hq hU.2.2.2.1 hU.2.2.2.2.2.1 hk
    exact ⟨y, y1, w1.trans y2, w2.trans y3, y2⟩
  -- a node
  have node : ∀ f c, f < F → lo f ≤ c → c < lo (f + 1) → (P 5 c ≤ 4 ∧ pN P F f c) ∧ mN b h P c M N := by
    intro f c hf h1 h2
    obtain ⟨hU, e66, hlt, e5, e68, eg, ⟨yA', _, e4, e65⟩, hpt⟩ := hE f hf
    have hTI := hU.2.2.2.2.2.2.2.2.2.1
    have hhi := hU.2.1
    have hxr := hU.2.2.1
    have hp4 := hU.2.2.2.2.2.1
    have hpm := hU.2.2.2.2.2.2.1
    have hm16 := hU.2.2.2.2.2.2.2.1
    have hlab := hU.2.2.2.2.2.2.2.2.2.2.2.1
    obtain ⟨x1, x2, x3, x4, x5, t, t1, t2, t3, t4⟩ := hTI c h1 h2
    obtain ⟨y, y1, y2, y3, y4⟩ := (hV f hf).1 c h1 h2
    have q5 : P 5 c = y := by rw [p5, y2, nI_clamp (by omega)]
    have q6 : P 6 c = G f 0 c := by rw [p6, fo f c hf h1 h2]
    have q7 : P 7 c = G f 1 c := by rw [p7, fo f c hf h1 h2]
    have ch : ∀ c', G f 1 c ≤ c' → c' < c → pC P c c' ∧ P 6 c' = G f 0 c' ∧ P 7 c' = G f 1 c' := by
      intro c' u1 u2
      have u3 := fo f c' hf (by omega) (by omega)
      refine ⟨⟨by rw [q7]; exact u1, u2, ?_⟩, by rw [p6, u3], by rw [p7, u3]⟩
      rw [p8, p8, u3, fo f c hf h1 h2]
      exact hlab c c' (by omega) u2 h2 u1
    have ty : ∀ c' y', y' ≤ 4 → M.1 (b + 13) c' = nI y' → P 5 c' = y' := fun c' y' u1 u2 => by rw [p5, u2, nI_clamp (by omega)]
    have g6 : P 6 c < 2002 := by rw [q6]; omega
    refine ⟨⟨by omega, ?_⟩, ?_⟩
    · -- it is well made
      rcases t4 with ⟨g1, t4⟩ | ⟨u1, u2, u3, u4, q, a, e, v1, v2, v3, v4, v5, v6, v7, v8, v9⟩ | ⟨c1, c2, v1, v2, v3, v4, v5, v6, v7, v8, v9, v10⟩ | ⟨c1, c2, c3, v1, v2, v3, v4, v5, v6, v7, v8, v9, v10, v11, v12, v13, v14, v15⟩
      · rcases t4 with ⟨z1, z2, z3⟩ | ⟨z1, z2, y', z3, z4, z5⟩ | ⟨z1, z2, z3, z4⟩
        · refine .inl ⟨by rw [p0, m8, z1]; rfl, ?_⟩
          rw [q5]; exact nk_3 y4 z1
        · exact .inr (.inl (by rw [p0, m8, z1]; rfl))
        · obtain ⟨nm, n1, n2, n3, n4, n5, n6⟩ := nk_2 y4 z1
          have r1 : P 1 c = nm := by rw [p1, n3, nI_clamp (by omega)]
          refine .inr (.inr (.inl ⟨by rw [p0, m8, z1]; rfl, by rw [r1, p10]; exact n1, ?_, ?_⟩))
          · rw [r1, q5]; exact nT (by omega) y1 n5 n6
          · rw [r1]
            unfold pS
            rw [p9, p12, p14 _ _ (show nm < 16 by omega)]
            rcases n2 with w | ⟨w1, w2, w3, w4, w5⟩
            · exact .inl w
            · refine .inr ⟨w1, by omega, ?_, ?_, w5.1⟩
              · rw [p7, p7, fo f _ hf (by omega) w2, fo f _ hf (by omega) (by omega)]; exact w3
              · rw [p7, fo f _ hf (by omega) (by omega)]; exact w4
      · obtain ⟨q', pq, e', w1, w2, w3, w4, w5, w6, w7, w8, w9, wA⟩ := nk_5 y4 u1
        have r1 : P 1 c = q' := by rw [p1, w2, nI_clamp (by omega)]
        have r3 : P 3 c = pq := by rw [p3, m11, w6, nI_clamp (by omega)]
        have ear : ∀ k, k < pq → ar P c k = e' k := by
          intro k
          induction k with
          | zero =>
            intro hk
            show P 2 c = _
            rw [p2, m10, w8 hk, nI_clamp (by have := wA 0 hk; omega)]
          | succ k ih =>
            intro hk
            show P 4 (ar P c k) = _
            rw [ih (by omega), p4, m12, w9 k hk, nI_clamp (by have := wA (k + 1) hk; omega)]
        obtain ⟨hUq, _, _, _, _, _, ⟨yq, yq1, yq2, _⟩, _⟩ := hE q' w1
        refine .inr (.inr (.inr (.inl ⟨by rw [p0, m8, u1]; rfl, by rw [r1]; exact w1, ?_, ?_, fun k hk => ?_⟩)))
        · rw [r3, r1, p9]
          have := hUq.2.2.2.1
          have h4 := hUq.2.2.2.2.2.1
          rw [w5, k_eq (by omega) (by omega)] at this
          exact this
        · rw [r1, q5, p11, m4, w4, nI_clamp (by omega)]
        · rw [r3] at hk
          rw [ear k hk]
          obtain ⟨a1, a2, yk, a3, a4, a5⟩ := wA k hk
          have hkp : k < pf q' := by
            have := hUq.2.2.2.1
            have h4 := hUq.2.2.2.2.2.1
            rw [w5, k_eq (by omega) (by omega)] at this
            omega
          obtain ⟨yp, b1, b2, b3, b4⟩ := par q' k w1 hkp
          refine ⟨(ch _ a2 a1).1, ?_⟩
          rw [ty _ yk a3 a4, r1, nT (by omega) b1 b2 b3]
          rw [a5, k_eq (by omega) (by omega)] at b4
          exact b4
      · have r9 : M0.1 (b + 8) c ≠ nI 2 → M0.1 (b + 8) c ≠ nI 5 → P 1 c = c1 := fun a1 a2 => by rw [p1, hP.1 c a1 a2, v6, nI_clamp (by omega)]
        have r10 : P 2 c = c2 := by rw [p2, m10, v7, nI_clamp (by omega)]
        have ch1 := ch c1 v3 (by omega)
        have ch2 := ch c2 (by omega) (by omega)
        rcases v10 with ⟨s, z1, z2, z3, z4⟩ | ⟨z1, z2⟩ | ⟨z1, z2, m0, z3, z4, z5, z6, z7⟩ | ⟨z1, z2, m0, z3, z4, z5, z6, z7, z8⟩
        · obtain ⟨n1, n2, n3⟩ := nk_s y4 z1 z2 v6 v7 (by omega) (by omega) (by omega)
          have r1 := r9 (by rw [z2]; rcases z1 with rfl | rfl | rfl | rfl | rfl <;> decide) (by rw [z2]; rcases z1 with rfl | rfl | rfl | rfl | rfl <;> decide)
          have r0 : P 0 c = s := by rw [p0, m8, z2, nI_clamp (by omega)]
          refine .inr (.inr (.inr (.inr (.inl ⟨by rw [r0]; exact z1, by rw [r1]; exact ch1.1, by rw [r10]; exact ch2.1, ?_, ?_, by omega⟩))))
          · rw [r1]; exact ty _ 0 (by omega) n2
          · rw [r10]; exact ty _ 0 (by omega) n3
        · have r1 := r9 (by rw [z1]; decide) (by rw [z1]; decide)
          have r0 : P 0 c = 6 := by rw [p0, m8, z1]; rfl
          rcases nk_c y4 (.inl rfl) z1 v6 v7 (by omega) (by omega) (by omega) with ⟨_, ya, yb, n1, n2, n3, n4, n5⟩ | ⟨n, _⟩ | ⟨n, _⟩
          · have ta := ty _ ya (by omega) n4
            have tb := ty _ yb (by omega) n5
            exact .inr (.inr (.inr (.inr (.inr (.inl ⟨r0, by rw [r1]; exact ch1.1, by rw [r10]; exact ch2.1, by rw [r1]; omega, by rw [r10]; omega, by rw [r1, r10]; omega⟩)))))
          · omega
          · omega
        · have r1 := r9 (by rw [z1]; decide) (by rw [z1]; decide)
          have r0 : P 0 c = 304 := by rw [p0, m8, z1]; rfl
          have r3 : P 3 c = m0 := by rw [p3, m11, z5, nI_clamp (by omega)]
          rcases nk_c y4 (.inr (.inl rfl)) z1 v6 v7 (by omega) (by omega) (by omega) with ⟨n, _⟩ | ⟨_, ma, ya, n1, n2, n3, n4, n5, n6, n7, n8, n9⟩ | ⟨n, _⟩
          · omega
          · rw [z5, k_eq (by omega) (by omega)] at n3
            subst n3
            have ta := ty _ ya (by omega) n6
            refine .inr (.inr (.inr (.inr (.inr (.inr (.inl ⟨r0, by rw [r1]; exact ch1.1, by rw [r10]; exact ch2.1, ?_, by rw [r3, p9]; exact n1, by rw [r3, p10]; exact n2, ?_, ?_, by rw [r10]; exact v1, ?_⟩))))))
            · rw [r10, q5]; exact ty _ y y1 n9
            · rw [r3, r1, ta]; exact nT (by omega) n5 n7 n8
            · rw [r3, p14 _ _ (by omega)]; exact z7
            · rw [r10, r1, ch2.2.2]; exact v4
          · omega
        · have r1 := r9 (by rw [z1]; decide) (by rw [z1]; decide)
          have r0 : P 0 c = 306 := by rw [p0, m8, z1]; rfl
          have r3 : P 3 c = m0 := by rw [p3, m11, z5, nI_clamp (by omega)]
          rcases nk_c y4 (.inr (.inr rfl)) z1 v6 v7 (by omega) (by omega) (by omega) with ⟨n, _⟩ | ⟨n, _⟩ | ⟨_, ma, ya, n1, n2, n3, n4, n5, n6, n7, n8, n9, nA, nB, nC, nD⟩
          · omega
          · omega
          · rw [z5, k_eq (by omega) (by omega)] at n3
            subst n3
            have ta := ty _ ya (by omega) n8
            refine .inr (.inr (.inr (.inr (.inr (.inr (.inr (.inl ⟨r0, by rw [r1]; exact ch1.1, by rw [r10]; exact ch2.1, ?_, by rw [r3, p9]; exact n1, by rw [r3, p10]; exact n2, by rw [r1, ta]; exact n6, ?_, ?_, ?_, ?_, by rw [r10]; exact v1, ?_⟩)))))))
            · rw [r10, q5]; exact ty _ y y1 nD
            · rw [r3, r1, ta]; exact nT (by omega) (by omega) n9 nA
            · rw [r3, r1, ta]; exact nT (by omega) (by omega) nB nC
            · rw [r3, p14 _ _ (by omega)]; exact z7
            · rw [r3, p14 _ _ (by omega)]; exact z8
            · rw [r10, r1, ch2.2.2]; exact v4
      · have r0 : P 0 c = 301 := by rw [p0, m8, v8]; rfl
        have r1 : P 1 c = c1 := by rw [p1, hP.1 c (by rw [v8]; decide) (by rw [v8]; decide), v10, nI_clamp (by omega)]
        have r2 : P 2 c = c2 := by rw [p2, m10, v11, nI_clamp (by omega)]
        have r3 : P 3 c = c3 := by rw [p3, m11, v12, nI_clamp (by omega)]
        obtain ⟨n1, n2, n3⟩ := nk_i y4 v8 v10 v11 v12 (by omega) (by omega) (by omega) (by omega)
        refine .inr (.inr (.inr (.inr (.inr (.inr (.inr (.inr ⟨r0, by rw [r1]; exact (ch c1 v4 (by omega)).1, by rw [r2]; exact (ch c2 (by omega) (by omega)).1, by rw [r3]; exact (ch c3 (by omega) (by omega)).1, ?_, ?_, ?_⟩)))))))
        · rw [r1]; exact ty _ 0 (by omega) n1
        · rw [r2, q5]; exact ty _ y y1 n2
        · rw [r3, q5]; exact ty _ y y1 n3
    · -- in both memories
      have e13 : M.1 (b + 13) c = nI (P 5 c) := by rw [q5]; exact y2
      have e76 : N.1 76 (P 6 c) = nI (P 5 c) := by rw [q6, q5]; exact y3
      have e8 : ∀ kd, kd < 2 ^ 31 → M0.1 (b + 8) c = nI kd → P 0 c = kd ∧ M.1 (b + 8) c = nI (P 0 c) := fun kd u1 u2 => by
        have r0 : P 0 c = kd := by rw [p0, m8, u2, nI_clamp u1]
        exact ⟨r0, by rw [r0, m8]; exact u2⟩
      have e71 : ∀ kd kr, P 0 c = kd → N0.1 71 (G f 0 c) = nI kr → rk kd = kr → N.1 71 (P 6 c) = nI (rk (P 0 c)) := fun kd kr u1 u2 u3 => by
        rw [q6, nz _ _ (by omega), u2, u1, u3]
      rcases t4 with ⟨g1, t4⟩ | ⟨u1, u2, u3, u4, q, a, e, v1, v2, v3, v4, v5, v6, v7, v8, v9⟩ | ⟨c1, c2, v1, v2, v3, v4, v5, v6, v7, v8, v9, v10⟩ | ⟨c1, c2, c3, v1, v2, v3, v4, v5, v6, v7, v8, v9, v10, v11, v12, v13, v14, v15⟩
      · rcases t4 with ⟨z1, z2, z3⟩ | ⟨z1, z2, y', z3, z4, z5⟩ | ⟨z1, z2, z3, z4⟩
        · obtain ⟨r0, f8⟩ := e8 3 (by omega) z1
          refine ⟨f8, e13, g6, e71 3 5 r0 z2 rfl, e76, fun _ => ?_, fun z => by omega, fun z => by omega, fun z => by unfold sgK at z; omega, fun z => by unfold sgK at z; omega, fun z => by omega, fun z => by omega⟩
          rw [hP.1 c (by rw [z1]; decide) (by rw [z1]; decide), q6, hP.2.2.1 _ (by rw [z2]; decide)]
          exact z3
        · obtain ⟨r0, f8⟩ := e8 308 (by omega) z1
          exact ⟨f8, e13, g6, e71 308 6 r0 z2 rfl, e76, fun z => by omega, fun z => by omega, fun z => by omega, fun z => by unfold sgK at z; omega, fun z => by unfold sgK at z; omega, fun z => by omega, fun z => by omega⟩
        · obtain ⟨r0, f8⟩ := e8 2 (by omega) z1
          obtain ⟨nm, n1, n2, n3, n4, n5, n6⟩ := nk_2 y4 z1
          have r1 : P 1 c = nm := by rw [p1, n3, nI_clamp (by omega)]
          exact ⟨f8, e13, g6, e71 2 7 r0 z2 rfl, e76, fun z => by omega, fun _ => ⟨by rw [r1]; exact n3, by rw [r1, q6]; exact n4⟩, fun z => by omega, fun z => by unfold sgK at z; omega, fun z => by unfold sgK at z; omega, fun z => by omega, fun z => by omega⟩
      · obtain ⟨r0, f8⟩ := e8 5 (by omega) u1
        obtain ⟨q', pq, e', w1, w2, w3, w4, w5, w6, w7, w8, w9, wA⟩ := nk_5 y4 u1
        have r1 : P 1 c = q' := by rw [p1, w2, nI_clamp (by omega)]
        have r3 : P 3 c = q := by rw [p3, m11, v2, nI_clamp (by omega)]
        have f72 : N.1 72 (G f 0 c) = nI a := by rw [hP.2.2.1 _ (by rw [u2]; decide)]; exact v4
        have r16 : P 16 c = a := by rw [p16, fo f c hf h1 h2, f72, nI_clamp (by omega)]
        have ear : ∀ k, k < q → ar P c k = e k := by
          intro k
          induction k with
          | zero =>
            intro hk
            show P 2 c = _
            rw [p2, m10, (v7 hk).1, nI_clamp (by have := v9 0 hk; omega)]
          | succ k ih =>
            intro hk
            show P 4 (ar P c k) = _
            rw [ih (by omega), p4, m12, (v8 k hk).2.2, nI_clamp (by have := v9 (k + 1) hk; omega)]
        refine ⟨f8, e13, g6, e71 5 8 r0 u2 rfl, e76, fun z => by omega, fun z => by omega, fun _ => ⟨by rw [r1]; exact w2, by rw [r1, q6]; exact w3, by rw [r3, m11]; exact v2, by rw [r3, q6, nz _ _ (by omega)]; exact v3, by rw [r16, q6]; exact f72, by rw [r16, r3]; omega, fun z => ?_, fun k z => ?_, fun k z => ?_⟩, fun z => by unfold sgK at z; omega, fun z => by unfold sgK at z; omega, fun z => by omega, fun z => by omega⟩
        · rw [r3] at z
          rw [ear 0 z, m10]; exact (v7 z).1
        · rw [r3] at z
          rw [ear k (by omega), ear (k + 1) z, m12]; exact (v8 k z).2.2
        · rw [r3] at z
          have v9k := v9 k z
          rw [r16, ear k z, (ch _ v9k.2.1 v9k.1).2.1, nz _ _ (by omega)]; exact v9k.2.2
      · have r9 : M0.1 (b + 8) c ≠ nI 2 → M0.1 (b + 8) c ≠ nI 5 → P 1 c = c1 ∧ M.1 (b + 9) c = nI (P 1 c) := fun a1 a2 => by
          have r : P 1 c = c1 := by rw [p1, hP.1 c a1 a2, v6, nI_clamp (by omega)]
          exact ⟨r, by rw [r, hP.1 c a1 a2]; exact v6⟩
        have r10 : P 2 c = c2 := by rw [p2, m10, v7, nI_clamp (by omega)]
        have ch1 := ch c1 v3 (by omega)
        have ch2 := ch c2 (by omega) (by omega)
        have two : P 1 c = c1 → M.1 (b + 9) c = nI (P 1 c) → N0.1 71 (G f 0 c) ≠ nI 7 → M.1 (b + 9) c = nI (P 1 c) ∧ M.1 (b + 10) c = nI (P 2 c) ∧ N.1 72 (P 6 c) = nI (P 6 (P 1 c)) ∧ N.1 73 (P 6 c) = nI (P 6 (P 2 c)) := fun a1 a2 a3 => by
          refine ⟨a2, by rw [r10, m10]; exact v7, ?_, ?_⟩
          · rw [a1, ch1.2.1, q6, hP.2.2.1 _ a3]; exact v8
          · rw [r10, ch2.2.1, q6, nz _ _ (by omega)]; exact v9
        rcases v10 with ⟨s, z1, z2, z3, z4⟩ | ⟨z1, z2⟩ | ⟨z1, z2, m0, z3, z4, z5, z6, z7⟩ | ⟨z1, z2, m0, z3, z4, z5, z6, z7, z8⟩
        · obtain ⟨r0, f8⟩ := e8 s (by omega) z2
          obtain ⟨r1, f9⟩ := r9 (by rw [z2]; rcases z1 with rfl | rfl | rfl | rfl | rfl <;> decide) (by rw [z2]; rcases z1 with rfl | rfl | rfl | rfl | rfl <;> decide)
          refine ⟨f8, e13, g6, e71 s 1 r0 z3 (by rcases z1 with rfl | rfl | rfl | rfl | rfl <;> rfl), e76, fun z => by omega, fun z => by omega, fun z => by omega, fun _ => two r1 f9 (by rw [z3]; decide), fun _ => ?_, fun z => by omega, fun z => by omega⟩
          rw [q6, hP.2.2.2.1 _ (by rw [z3]; decide), r0]; exact z4
        · obtain ⟨r0, f8⟩ := e8 6 (by omega) z1
          obtain ⟨r1, f9⟩ := r9 (by rw [z1]; decide) (by rw [z1]; decide)
          exact ⟨f8, e13, g6, e71 6 9 r0 z2 rfl, e76, fun z => by omega, fun z => by omega, fun z => by omega, fun _ => two r1 f9 (by rw [z2]; decide), fun z => by unfold sgK at z; omega, fun z => by omega, fun z => by omega⟩
        · obtain ⟨r0, f8⟩ := e8 304 (by omega) z1
          obtain ⟨r1, f9⟩ := r9 (by rw [z1]; decide) (by rw [z1]; decide)
          have r3 : P 3 c = m0 := by rw [p3, m11, z5, nI_clamp (by omega)]
          refine ⟨f8, e13, g6, e71 304 3 r0 z2 rfl, e76, fun z => by omega, fun z => by omega, fun z => by omega, fun _ => two r1 f9 (by rw [z2]; decide), fun z => by unfold sgK at z; omega, fun z => by omega, fun _ => ⟨by rw [r3, m11]; exact z5, ?_⟩⟩
          rw [r3, q6, hP.2.2.2.1 _ (by rw [z2]; decide)]; exact z6
        · obtain ⟨r0, f8⟩ := e8 306 (by omega) z1
          obtain ⟨r1, f9⟩ := r9 (by rw [z1]; decide) (by rw [z1]; decide)
          have r3 : P 3 c = m0 := by rw [p3, m11, z5, nI_clamp (by omega)]
          refine ⟨f8, e13, g6, e71 306 4 r0 z2 rfl, e76, fun z => by omega, fun z => by omega, fun z => by omega, fun _ => two r1 f9 (by rw [z2]; decide), fun z => by unfold sgK at z; omega, fun z => by omega, fun _ => ⟨by rw [r3, m11]; exact z5, ?_⟩⟩
          rw [r3, q6, hP.2.2.2.1 _ (by rw [z2]; decide)]; exact z6
      · obtain ⟨r0, f8⟩ := e8 301 (by omega) v8
        have f9 : M.1 (b + 9) c = nI c1 := (hP.1 c (by rw [v8]; decide) (by rw [v8]; decide)).trans v10
        have r1 : P 1 c = c1 := by rw [p1, f9, nI_clamp (by omega)]
        have r2 : P 2 c = c2 := by rw [p2, m10, v11, nI_clamp (by omega)]
        have r3 : P 3 c = c3 := by rw [p3, m11, v12, nI_clamp (by omega)]
        refine ⟨f8, e13, g6, e71 301 2 r0 v9 rfl, e76, fun z => by omega, fun z => by omega, fun z => by omega, fun _ => ⟨by rw [r1]; exact f9, by rw [r2, m10]; exact v11, ?_, ?_⟩, fun z => by unfold sgK at z; omega, fun _ => ⟨by rw [r3, m11]; exact v12, ?_⟩, fun z => by omega⟩
        · rw [r1, (ch c1 v4 (by omega)).2.1, q6, hP.2.2.1 _ (by rw [v9]; decide)]; exact v13
        · rw [r2, (ch c2 (by omega) (by omega)).2.1, q6, nz _ _ (by omega)]; exact v14
        · rw [r3, (ch c3 (by omega) (by omega)).2.1, q6, hP.2.2.2.1 _ (by rw [v9]; decide)]; exact v15
  have scp : ∀ f c, f < F → lo f ≤ c → c < lo (f + 1) → pD P f c := by
    intro f c hf h1 h2
    obtain ⟨hU, e66, hlt, e5, e68, eg, ⟨yA', _, e4, e65⟩, hpt⟩ := hE f hf
    have hTI := hU.2.2.2.2.2.2.2.2.2.1
    have hhi := hU.2.1
    have hm16 := hU.2.2.2.2.2.2.2.1
    have hBD := hU.2.2.2.2.2.2.2.2.2.2.2.2
    obtain ⟨x1, x2, x3, x4, x5, t, t1, t2, t3, t4⟩ := hTI c h1 h2
    obtain ⟨y, y1, y2, y3, y4⟩ := (hV f hf).1 c h1 h2
    have s7 : ∀ c', lo f ≤ c' → c' < lo (f + 1) → P 7 c' = G f 1 c' := fun c' u1 u2 => by rw [p7, fo f c' hf u1 u2]
    have e8 : ∀ kd c', kd < 2 ^ 31 → M0.1 (b + 8) c' = nI kd → P 0 c' = kd := fun kd c' u1 u2 => by rw [p0, m8, u2, nI_clamp u1]
    rcases t4 with ⟨g1, t4⟩ | ⟨u1, u2, u3, u4, q, a, e, v1, v2, v3, v4, v5, v6, v7, v8, v9⟩ | ⟨c1, c2, v1, v2, v3, v4, v5, v6, v7, v8, v9, v10⟩ | ⟨c1, c2, c3, v1, v2, v3, v4, v5, v6, v7, v8, v9, v10, v11, v12, v13, v14, v15⟩
    · rcases t4 with ⟨z1, z2, z3⟩ | ⟨z1, z2, y', z3, z4, z5⟩ | ⟨z1, z2, z3, z4⟩
      · have r0 := e8 3 c (by omega) z1
        exact ⟨fun z => by omega, fun z => by unfold sgK at z; omega, fun z => by omega, fun z => by omega⟩
      · have r0 := e8 308 c (by omega) z1
        exact ⟨fun z => by omega, fun z => by unfold sgK at z; omega, fun z => by omega, fun z => by omega⟩
      · have r0 := e8 2 c (by omega) z1
        obtain ⟨nm, n1, n2, n3, n4, n5, n6⟩ := nk_2 y4 z1
        have r1 : P 1 c = nm := by rw [p1, n3, nI_clamp (by omega)]
        refine ⟨fun _ hp => ?_, fun z => by unfold sgK at z; omega, fun z => by omega, fun z => by omega⟩
        rw [r1, p9] at hp
        rw [r1]
        rcases n2 with w | ⟨w1, w2, w3, w4, w5, w6⟩
        · omega
        · unfold bD
          rw [p14 _ _ (show nm < 16 by omega)]
          rcases (hBD nm).2 w6 with ⟨k1, k2⟩ | ⟨k1, k2 | ⟨k2, k3⟩⟩
          · exact .inl ⟨e8 304 _ (by omega) k1, by rw [p3, m11, k2, nI_clamp (by omega)]⟩
          · exact .inr ⟨e8 306 _ (by omega) k1, .inl (by rw [p3, m11, k2, nI_clamp (by omega)])⟩
          · exact .inr ⟨e8 306 _ (by omega) k1, .inr (by rw [p3, m11, k3, nI_clamp (by omega)]; omega)⟩
    · have r0 := e8 5 c (by omega) u1
      have r3 : P 3 c = q := by rw [p3, m11, v2, nI_clamp (by omega)]
      have ear : ∀ k, k < q → ar P c k = e k := by
        intro k
        induction k with
        | zero =>
          intro hk
          show P 2 c = _
          rw [p2, m10, (v7 hk).1, nI_clamp (by have := v9 0 hk; omega)]
        | succ k ih =>
          intro hk
          show P 4 (ar P c k) = _
          rw [ih (by omega), p4, m12, (v8 k hk).2.2, nI_clamp (by have := v9 (k + 1) hk; omega)]
      refine ⟨fun z => by omega, fun z => by unfold sgK at z; omega, fun z => by omega, fun _ hq => ?_⟩
      rw [r3] at hq ⊢
      refine ⟨by rw [ear _ (by omega)]; exact (v7 hq).2.2, fun k hk => ?_⟩
      have k9 := v9 (k + 1) hk
      rw [ear _ hk, ear k (by omega), s7 _ (by omega) (by omega)]
      exact (v8 k hk).2.1
    · have r9 : M0.1 (b + 8) c ≠ nI 2 → M0.1 (b + 8) c ≠ nI 5 → P 1 c = c1 := fun a1 a2 => by rw [p1, hP.1 c a1 a2, v6, nI_clamp (by omega)]
      have r10 : P 2 c = c2 := by rw [p2, m10, v7, nI_clamp (by omega)]
      rcases v10 with ⟨s, z1, z2, z3, z4⟩ | ⟨z1, z2⟩ | ⟨z1, z2, m0, z3, z4, z5, z6, z7⟩ | ⟨z1, z2, m0, z3, z4, z5, z6, z7, z8⟩
      · have r0 := e8 s c (by omega) z2
        have r1 := r9 (by rw [z2]; rcases z1 with rfl | rfl | rfl | rfl | rfl <;> decide) (by rw [z2]; rcases z1 with rfl | rfl | rfl | rfl | rfl <;> decide)
        exact ⟨fun z => by omega, fun _ => by rw [r10, r1, s7 _ (by omega) (by omega)]; exact ⟨v1, v4⟩, fun z => by omega, fun z => by omega⟩
      · have r0 := e8 6 c (by omega) z1
        have r1 := r9 (by rw [z1]; decide) (by rw [z1]; decide)
        exact ⟨fun z => by omega, fun _ => by rw [r10, r1, s7 _ (by omega) (by omega)]; exact ⟨v1, v4⟩, fun z => by omega, fun z => by omega⟩
      · have r0 := e8 304 c (by omega) z1
        exact ⟨fun z => by omega, fun z => by unfold sgK at z; omega, fun z => by omega, fun z => by omega⟩
      · have r0 := e8 306 c (by omega) z1
        exact ⟨fun z => by omega, fun z => by unfold sgK at z; omega, fun z => by omega, fun z => by omega⟩
    · have r0 := e8 301 c (by omega) v8
      have r1 : P 1 c = c1 := by rw [p1, hP.1 c (by rw [v8]; decide) (by rw [v8]; decide), v10, nI_clamp (by omega)]
      have r2 : P 2 c = c2 := by rw [p2, m10, v11, nI_clamp (by omega)]
      have r3 : P 3 c = c3 := by rw [p3, m11, v12, nI_clamp (by omega)]
      exact ⟨fun z => by omega, fun z => by unfold sgK at z; omega, fun _ => by rw [r3, r2, r1, s7 _ (by omega) (by omega), s7 _ (by omega) (by omega)]; exact ⟨v1, v5, v6⟩, fun z => by omega⟩
  have hff : ∀ f c, f < F → lo f ≤ c → c < lo (f + 1) → (1001 * h ≤ P 6 c ∧ P 6 c < 1001 * h + 1001) ∧ (P 0 c = 5 → 1001 * h ≤ P 16 c ∧ P 16 c + P 3 c ≤ 1001 * h + 1001) := by
    intro f c hf h1 h2
    obtain ⟨hU, _⟩ := hE f hf
    have hTI := hU.2.2.2.2.2.2.2.2.2.1
    have hxr := hU.2.2.1
    obtain ⟨x1, x2, x3, x4, x5, t, t1, t2, t3, t4⟩ := hTI c h1 h2
    have q6 : P 6 c = G f 0 c := by rw [p6, fo f c hf h1 h2]
    refine ⟨by rw [q6]; omega, fun z5 => ?_⟩
    have e8 : ∀ kd, kd < 2 ^ 31 → M0.1 (b + 8) c = nI kd → kd = 5 := fun kd u1 u2 => by rw [p0, m8, u2, nI_clamp u1] at z5; exact z5
    rcases t4 with ⟨g1, t4⟩ | ⟨u1, u2, u3, u4, q, a, e, v1, v2, v3, v4, v5, v6, v7, v8, v9⟩ | ⟨c1, c2, v1, v2, v3, v4, v5, v6, v7, v8, v9, v10⟩ | ⟨c1, c2, c3, v1, v2, v3, v4, v5, v6, v7, v8, v9, v10, v11, v12, v13, v14, v15⟩
    · rcases t4 with ⟨z1, z2, z3⟩ | ⟨z1, z2, y', z3, z4, z5⟩ | ⟨z1, z2, z3, z4⟩
      · have := e8 3 (by omega) z1; omega
      · have := e8 308 (by omega) z1; omega
      · have := e8 2 (by omega) z1; omega
    · have r3 : P 3 c = q := by rw [p3, m11, v2, nI_clamp (by omega)]
      have f72 : N.1 72 (G f 0 c) = nI a := by rw [hP.2.2.1 _ (by rw [u2]; decide)]; exact v4
      have r16 : P 16 c = a := by rw [p16, fo f c hf h1 h2, f72, nI_clamp (by omega)]
      rw [r16, r3]
      omega
    · rcases v10 with ⟨s, z1, z2, z3, z4⟩ | ⟨z1, z2⟩ | ⟨z1, z2, m0, z3, z4, z5, z6, z7⟩ | ⟨z1, z2, m0, z3, z4, z5, z6, z7, z8⟩
      · have := e8 s (by omega) z2; omega
      · have := e8 6 (by omega) z1; omega
      · have := e8 304 (by omega) z1; omega
      · have := e8 306 (by omega) z1; omega
    · have := e8 301 (by omega) v8; omega
  have whf : Hf h P F := fun f hf c c1 c2 => by
    obtain ⟨_, _, hlt, _⟩ := hE f hf
    rw [p15] at c1
    rw [p12] at c2
    exact hff f c hf c1 (by omega)
  have wsc : WSc P F := fun f hf c c1 c2 => by
    obtain ⟨_, _, hlt, _⟩ := hE f hf
    rw [p15] at c1
    rw [p12] at c2
    exact scp f c hf c1 (by omega)
  refine ⟨⟨⟨hF0, hFF, hND, fun f hf => ?_⟩, wsc, whf⟩, fun N' eN e79 => ⟨hb, hh, ?_, ?_, e79, fun f hf => ?_⟩⟩
  · obtain ⟨hU, e66, hlt, e5, e68, eg, ⟨yA', yA4, e4, e65⟩, hpt⟩ := hE f hf
    have hTI := hU.2.2.2.2.2.2.2.2.2.1
    have hp4 := hU.2.2.2.2.2.1
    have hpm := hU.2.2.2.2.2.2.1
    have hm16 := hU.2.2.2.2.2.2.2.1
    have hhi := hU.2.1
    have r11 : P 11 f = yA' := by rw [p11, m4, e4, nI_clamp (by omega)]
    rw [p9, p10, p12, p15]
    refine ⟨hp4, hpm, hm16, by omega, by omega, by omega, ?_, fun k hk => ?_, fun k hk => ?_, fun c c1 c2 => ?_⟩
    · rw [p5, (hV f hf).2, r11, e4, nI_clamp (by omega)]
    · obtain ⟨y, b1, b2, b3, _⟩ := par f k hf hk
      rw [nT (by omega) b1 b2 b3]; exact b1
    · rw [p13 _ _ (by omega)]; exact nTy_le.1
    · have q7 : ∀ k, lo f ≤ k → k ≤ c → P 7 k = G f 1 k := fun k k1 k2 => by rw [p7, fo f k hf k1 (by omega)]
      have x := hTI c c1 (by omega)
      refine ⟨(node f c hf c1 (by omega)).1.1, ?_, ?_, ?_, fun k k1 k2 => ?_, (node f c hf c1 (by omega)).1.2⟩
      · rw [p8, fo f c hf c1 (by omega)]; exact hU.2.2.2.2.2.2.2.2.2.2.1 c c1 (by omega)
      · rw [q7 c c1 (Nat.le_refl _)]; exact x.2.2.2.1
      · rw [q7 c c1 (Nat.le_refl _)]; exact x.2.2.2.2.1
      · rw [q7 c c1 (Nat.le_refl _)] at k1 ⊢
        rw [q7 k (by omega) k2]
        exact lam hTI c c1 (by omega) k k1 k2
  · exact (hW.1 b 0 (yA_ne hb).1).trans hx.2.2.2.1.1
  · exact (hW.1 b 8 (yA_ne hb).2.1).trans hx.2.2.2.2.1.1
  · obtain ⟨hU, e66, hlt, e5, e68, eg, ⟨yA', yA4, e4, e65⟩, hpt⟩ := hE f hf
    have hm16 := hU.2.2.2.2.2.2.2.1
    have hhi := hU.2.1
    have r11 : P 11 f = yA' := by rw [p11, m4, e4, nI_clamp (by omega)]
    have q6 : P 6 (P 12 f) = G f 0 (lo (f + 1) - 1) := by rw [p12, p6, fo f _ hf (by omega) (by omega)]
    have r67 := h67 f hf
    refine ⟨⟨?_, ?_, ?_, ?_⟩, ⟨?_, ?_, ?_, ?_⟩, fun k hk h4 => ?_, fun c c1 c2 => ?_⟩
    · rw [p9, m2]; exact hU.2.2.2.1
    · rw [p10, m3]; exact hU.2.2.2.2.1
    · rw [r11, m4]; exact e4
    · rw [p12, m5]; exact e5
    · rw [p9, eN _ _ (by omega) (by omega), nz _ _ (by omega)]; exact e66
    · rw [p10, eN _ _ (by omega) (by omega), nz _ _ (by omega)]; exact r67
    · rw [r11, eN _ _ (by omega) (by omega), nz _ _ (by omega)]; exact e65
    · rw [q6, eN _ _ (by omega) (by omega), nz _ _ (by omega)]; exact e68
    · rw [p10] at hk
      rw [p13 _ _ (by omega)] at h4 ⊢
      rw [eN _ _ (by omega) (by omega)]
      exact nTy_le.2 h4
    · rw [p15] at c1
      rw [p12] at c2
      exact mN_congr (node f c hf c1 (by omega)).2 (fun _ _ _ _ => rfl) (fun c' k u1 u2 => eN c' k (by omega) (by omega))
end XP
