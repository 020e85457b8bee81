/-! RUNS from start to end, on both sides -/
/-- what a run leaves behind -/
def RN (P : Nat → Nat → Nat) (F b q : Nat) (M N : mv_M) : Prop := ∃ e m, (q < F ∧ M.1 7 1 = nI q ∧ N.1 62 75 = nI q ∧ M.2.2 7 6 = some b) ∧ (M.1 7 2 = nI e ∧ N.1 62 76 = nI e ∧ 1 ≤ e ∧ e ≤ 5) ∧ M.1 7 3 = N.1 62 70 ∧ (M.1 8 0 = nI m ∧ N.1 62 67 = nI m ∧ m ≤ 1500) ∧ M.1 8 1 = N.1 62 68 ∧ M.1 7 4 = N.1 62 69 ∧ M.1 7 5 = N.1 62 73 ∧ (∀ k, k < m → M.1 59 k = N.1 100 (40 + k)) ∧ (∀ u, u < P 9 q → ∃ s, s < 40 ∧ M.1 50 (16 * 0 + u) = nI (1500 + s) ∧ N.1 104 u = nI s ∧ M.1 59 (1500 + s) = N.1 100 s) ∧ (e = 1 → ∃ it n m pr cl ff, Cr P F it n m pr cl ff M N ∧ vV P it n m pr M N (M.1 7 10) (P 11 q) ∧ N.1 62 80 = M.1 7 10 ∧ N.1 62 79 = nI (kD (P 11 q)))
section RM1
variable {b h F ND n m pr cl q t st mx dp dd kp d e i k x : Nat} {P : Nat → Nat → Nat} {it sc sp ff K : Nat → Nat} {V : Nat → Int32} {M N M' N' : mv_M} {Z : Nat → Nat → Prop} {v w : Int32}
theorem SS_init (hW : WFp P F ND) (hq : q < F) (hn : n ≤ 40) (hI : pI K V (fun k => P 13 (16 * q + k)) it sc sp n (P 9 q) M N) : Cr P F it n 0 0 0 (fun _ => q) M N ∧ xX P F it n 0 0 (fun _ => q) M N (P 12 q) 0 := by
  obtain ⟨g1, g2, g3, g4, g5⟩ := hI
  have wq := hW.2.2.2 q hq
  refine ⟨⟨by omega, fun k hk => by omega, fun k t ho => ?_, fun j k x y fr h1 => by omega⟩, Nat.le_refl _, hq, wq.2.2.2.2.1, Nat.le_refl _, fun y y1 y2 y3 y4 => ?_⟩
  · rcases ho with ⟨z, _⟩ | ⟨z1, z2, z3⟩
    · omega
    obtain ⟨x, rfl⟩ : ∃ x, k = 1500 + x := ⟨k - 1500, by omega⟩
    rw [show 1500 + x - 1500 = x by omega] at z3
    subst z3
    have fx : fi (1500 + x) = x := by rw [fi_ge (by omega)]; omega
    obtain ⟨c1, c2, c3, c4⟩ := g1 x (by omega)
    obtain ⟨d1, d2, d3, d4⟩ := g2 x (by omega) (by omega)
    obtain ⟨e1, e2, e3, e4⟩ := g3 x (by omega) (by omega)
    refine ⟨if K x = 1 then 3 else 2, d1, by rw [fx]; exact e1, by split <;> omega, fun z => by split at z <;> omega, by rw [fx, d3, e4], fun z => ?_⟩
    have hk1 : K x ≠ 1 := fun y => by rw [if_pos y] at z; omega
    rw [fx]
    by_cases h2 : K x = 2
    · rw [if_pos h2] at d2 e2 e3
      obtain ⟨f1, f2, f3, f4, f5⟩ := c4 h2
      obtain ⟨h5, h6⟩ := g4 x (by omega) (by omega) h2
      refine ⟨by rw [d2, e3], by rw [e2]; unfold kD; rw [if_neg (by omega)], ?_⟩
      rw [d2]
      refine .inr ⟨1500 + x, 1500 + (x + 1), 1500 + sc x, rfl, .inr (by omega), (d4 h2).1, (d4 h2).2, ?_, ?_, .inr ⟨by omega, by omega, ?_⟩, .inr ⟨by omega, by omega, ?_⟩⟩
      · rw [h5, fi_ge (by omega), show 1500 + (x + 1) - 1500 = x + 1 by omega]
      · rw [h6, fi_ge (by omega), show 1500 + sc x - 1500 = sc x by omega]
      · rw [show 1500 + (x + 1) - 1500 = x + 1 by omega]; exact f4
      · rw [show 1500 + sc x - 1500 = sc x by omega]; exact f5
    · have h0 : K x = 0 := by omega
      rw [if_neg h2] at d2 e2 e3
      have i0 := c3 h0
      exact ⟨by rw [d2, e3], by rw [e2, i0]; rfl, .inl i0⟩
  · have w7 := (wq.2.2.2.2.2.2.2.2.2 _ wq.2.2.2.2.1 (Nat.le_refl _)).2.2.1
    have pny := (wq.2.2.2.2.2.2.2.2.2 y (by omega) y2).2.2.2.2.2
    have y4 : P 1 y < P 9 q ∨ P 12 q < P 14 (16 * q + P 1 y) := y4
    have hlt : P 1 y < P 9 q := by
      rcases y4 with z | z
      · exact z
      · rcases (pN_name pny y3).2.2 with z' | z'
        · exact z'
        · omega
    have hp4 := wq.1
    obtain ⟨a1, a2, a3, a4, a5⟩ := g5 (P 1 y) hlt
    refine ⟨by omega, 1500 + sp (P 1 y), a3, ?_, .inr ⟨by omega, by omega, ?_⟩⟩
    · rw [fi_ge (by omega), show 1500 + sp (P 1 y) - 1500 = sp (P 1 y) by omega]; exact a4
    · rw [show 1500 + sp (P 1 y) - 1500 = sp (P 1 y) by omega]; exact a2
/-- cells of the answer -/
theorem SS_o (hS : SS b h P F ND it n m pr cl ff st mx dp dd t kp M N) (e2 : M'.2 = M.2) (eM : ∀ a p, ¬ (a = 7 ∧ (p = 10 ∨ p = 1)) → M'.1 a p = M.1 a p) (e3 : N'.2 = N.2) (eN : ∀ a p, ¬ (a = 62 ∧ (p = 79 ∨ p = 80)) → N'.1 a p = N.1 a p) : SS b h P F ND it n m pr cl ff st mx dp dd t kp M' N' ∧ Ex P it n Z m pr cl ff M N m pr cl ff M' N' := by
  obtain ⟨s1, s2, s3, s4⟩ := hS
  have q1 : sM pr cl M M' := fun a p u => eM a p (by omega)
  have q2 : sN pr cl N N' := fun a p u => eN a p (by omega)
  have hb := s1.2.2.1.1
  refine ⟨⟨⟨s1.1, s1.2.1, PR_F s1.2.2.1 (fun c k u1 u2 => eM c k (by omega)) (fun c k u1 u2 => eN c k (by omega)), by rw [e2]; exact s1.2.2.2⟩, Cr_s q1 q2 s2, ?_, ?_⟩, Ex_s q1 q2⟩
  · obtain ⟨⟨c1, c2⟩, ⟨c3, c4⟩, c5, c6⟩ := s3
    exact ⟨⟨(eM _ _ (by omega)).trans c1, (eN _ _ (by omega)).trans c2⟩, ⟨(eM _ _ (by omega)).trans c3, (eN _ _ (by omega)).trans c4⟩, (eM _ _ (by omega)).trans c5, (eN _ _ (by omega)).trans c6⟩
  · obtain ⟨c1, ⟨c7, c8⟩, ⟨c9, cA⟩, ⟨cB, cC⟩, ⟨cD, cE⟩, ⟨cF, cG⟩, cH, cI⟩ := s4
    exact ⟨c1, ⟨(eM _ _ (by omega)).trans c7, (eN _ _ (by omega)).trans c8⟩, ⟨(eM _ _ (by omega)).trans c9, (eN _ _ (by omega)).trans cA⟩, ⟨(eM _ _ (by omega)).trans cB, (eN _ _ (by omega)).trans cC⟩, ⟨(eM _ _ (by omega)).trans cD, (eN _ _ (by omega)).trans cE⟩, ⟨(eM _ _ (by omega)).trans cF, (eN _ _ (by omega)).trans cG⟩, (eN _ _ (by omega)).trans cH, (eN _ _ (by omega)).trans cI⟩
/-- the reference's run behind its first expression -/
noncomputable def rT2 (g a1 : Int32) (N : mv_M) : Option (Int32 × mv_M) := mv_bind (fX11_goes N) fun _ M29 => mv_let (mv_si M29 62 79 (M29.1 62 77)) fun M30 => mv_let (mv_si M30 62 80 (M30.1 62 78)) fun M31 => if (M31.1 62 74) = 0 then mv_chk (mv_inb g 24) <| mv_bind (fX11_demand (M31.1 65 g.toNatClampNeg) a1 M31) fun _ M33 => mv_bind (fX11_goes M33) fun _ M34 => fX11_run_317 M34 else fX11_run_317 M31
theorem r_317 (e74 : N.1 62 74 = nI e) (he : e ≤ 5) : fX11_run_317 N = some (nI (if e = 0 then 1 else e), mv_si N 62 76 (nI (if e = 0 then 1 else e))) := by
  unfold fX11_run_317 fX11_run_333
  by_cases u : e = 0
  · subst u
    rw [if_pos (by rw [e74]; rfl), if_pos rfl]
    simp (disch := omega) only [↓reduceIte, k_iT, k_iF, Bool.false_eq_true, eq_self, Nat.add_zero, k_lt', k_bs, k_T, k_F, k_inb, k_ck, k_nz, ↓kN, kL, k_lt, k_le, k_eq, kn_le, kn_lt, kn_eq, kn_le', kn_lt', kn_eq', nI_clamp, nI_add, k_sub, k_mul, k_div, rd_hi, rd_mi, rd_hl, rd_ml, rd_hr, rd_mr, rd_si2, rd_sl1, rd_sl2, rd_sr1, rd_sr2]
  · rw [if_neg (by rw [e74, kM, k_eq (by omega) (by omega)]; exact u), if_neg u, e74]
    simp (disch := omega) only [↓reduceIte, k_iT, k_iF, Bool.false_eq_true, eq_self, Nat.add_zero, k_lt', k_bs, k_T, k_F, k_inb, k_ck, k_nz, ↓kN, kL, k_lt, k_le, k_eq, kn_le, kn_lt, kn_eq, kn_le', kn_lt', kn_eq', nI_clamp, nI_add, k_sub, k_mul, k_div, rd_hi, rd_mi, rd_hl, rd_ml, rd_hr, rd_mr, rd_si2, rd_sl1, rd_sl2, rd_sr1, rd_sr2]
/-- what the two sides keep of the beginning -/
def RK (P : Nat → Nat → Nat) (F b q n : Nat) (sp : Nat → Nat) (M N : mv_M) : Prop := (q < F ∧ M.1 7 1 = nI q ∧ N.1 62 75 = nI q ∧ M.2.2 7 6 = some b ∧ n ≤ 40 ∧ P 9 q ≤ 4) ∧ ∀ u, u < P 9 q → sp u < n ∧ M.1 50 (16 * 0 + u) = nI (1500 + sp u) ∧ N.1 104 u = nI (sp u)
theorem RN_f (hK : RK P F b q n sp M N) (hff : ff 0 = q) (hF : Fn P n ff M N M' N') : ∃ e, 2 ≤ e ∧ e ≤ 5 ∧ M'.1 7 2 = nI e ∧ N'.1 62 74 = nI e ∧ ∀ M2 N2 : mv_M, (∀ a p, ¬ (a = 7 ∧ p = 10) → M2.1 a p = M'.1 a p) → M2.2 = M'.2 → (∀ a p, ¬ (a = 62 ∧ (p = 76 ∨ p = 79 ∨ p = 80)) → N2.1 a p = N'.1 a p) → N2.1 62 76 = nI e → RN P F b q M2 N2 := by
  obtain ⟨⟨k1, k2, k3, k4, k5, k6⟩, k7⟩ := hK
  obtain ⟨⟨e, m', ⟨f1, f2, f3, f4⟩, f5, ⟨f6, f7, f8⟩, f9, fA, fB, fC⟩, fD, fE, ⟨fF, fG⟩, fH, fI⟩ := hF
  refine ⟨e, f3, f4, f1, f2, fun M2 N2 e1 e2 e3 e4 => ⟨e, m', ⟨k1, ?_, ?_, ?_⟩, ⟨(e1 _ _ (by omega)).trans f1, e4, by omega, f4⟩, ?_, ⟨(e1 _ _ (by omega)).trans f6, (e3 _ _ (by omega)).trans f7, f8⟩, ?_, ?_, ?_, fun k hk => ?_, fun u hu => ?_, fun z => by omega⟩⟩
  · rw [e1 _ _ (by omega), fG _ _ (by unfold cAr; omega)]; exact k2
  · rw [e3 _ _ (by omega), fI _ _ (by unfold rAr; omega)]; exact k3
  · rw [e2, fF]; exact k4
  · rw [e1 _ _ (by omega), e3 _ _ (by omega)]; exact f5
  · rw [e1 _ _ (by omega), e3 _ _ (by omega)]; exact f9
  · rw [e1 _ _ (by omega), e3 _ _ (by omega)]; exact fA
  · rw [e1 _ _ (by omega), e3 _ _ (by omega)]; exact fB
  · rw [e1 _ _ (by omega), e3 _ _ (by omega)]; exact fC k hk
  · obtain ⟨u1, u2, u3⟩ := k7 u hu
    refine ⟨sp u, by omega, ?_, ?_, ?_⟩
    · rw [e1 _ _ (by omega), fE u (by omega) (by rw [hff]; exact hu)]; exact u2
    · rw [e3 _ _ (by omega), fI _ _ (by unfold rAr; omega)]; exact u3
    · rw [e1 _ _ (by omega), e3 _ _ (by omega)]; exact fD _ u1
theorem j_perform (hK : RK P F b q n sp M N) (hS : SS b h P F ND it n m pr cl ff st mx 0 dd 1 0 M N) (ht : tk3 N 0 (nI 1) (nI (P 6 (P 12 q))) (nI 0)) (hx : xX P F it n m cl ff M N (P 12 q) 0) (hff : ff 0 = q) (ho : ∀ c, ¬ Ow P m M 0 c) (hd : 0 < d) (hd2 : d < dem (P 11 q)) : ∃ e M' N', fX2_perform (nI d) M = some ((), M') ∧ M'.1 7 2 = nI e ∧ rT2 (nI (12 * h + q)) (nI d) N = some (nI e, N') ∧ RN P F b q M' N' ∧ (N'.2 = N.2 ∧ ∀ a p, ¬ (rAr a p ∨ (a = 62 ∧ (p = 76 ∨ p = 79 ∨ p = 80))) → N'.1 a p = N.1 a p) := by
  obtain ⟨⟨k1, k2, k3, k4, k5, k6⟩, k7⟩ := hK
  have hK : RK P F b q n sp M N := ⟨⟨k1, k2, k3, k4, k5, k6⟩, k7⟩
  have hb := hS.1.2.2.1.1
  have hW := hS.1.1
  have hF := hW.2.1
  have hh := hS.1.2.2.1.2.1
  have wq := hW.2.2.2 q k1
  have gp : ∀ {γ : Type} (K : Nat → Option γ), mv_getp (some b) K = K b := fun K => gp_b hb
  have prq := hS.1.2.2.1.2.2.2.2.2 q k1
  have bd := hS.2.2.2.1
  obtain ⟨Mc, en, R⟩ := ev_all (mx - st) m pr cl ff st mx 0 dd 0 0 0 (P 12 q) 0 M N (by omega) hS ht hx (fun c _ _ => ho c) (by omega)
  have c0 : fX2_perform (nI d) M = mv_bind (fX2_workOut_8 (nI 0) Mc) fun _ M3 => mv_let (mv_si M3 7 10 (M3.1 7 9)) fun M4 => mv_getp (M4.2.2 7 6) fun b5 => mv_chk (mv_inb (M4.1 7 1) 12) <| mv_bind (tX2_needParts (M4.1 7 10) (M4.1 (b5 + 4) (M4.1 7 1).toNatClampNeg) (nI d) M4) fun _ M7 => if (M7.1 7 2) = 0 then mv_let (mv_si M7 7 2 1) fun M8 => some ((), M8) else some ((), M7) := by
    unfold fX2_perform fX2_workOut
    rw [k4, gp, k2, k_inb (by omega) (by omega), k_ck, nI_clamp (by omega), prq.1.2.2.2, show (0 : Int32) = nI 0 from rfl, en, k_bs]
  have r0 : rT2 (nI (12 * h + q)) (nI d) N = mv_bind (fX11_goes_0 N) fun _ M29 => mv_let (mv_si M29 62 79 (M29.1 62 77)) fun M30 => mv_let (mv_si M30 62 80 (M30.1 62 78)) fun M31 => if (M31.1 62 74) = 0 then mv_chk (mv_inb (nI (12 * h + q)) 24) <| mv_bind (fX11_demand (M31.1 65 (nI (12 * h + q)).toNatClampNeg) (nI d) M31) fun _ M33 => mv_bind (fX11_goes M33) fun _ M34 => fX11_run_317 M34 else fX11_run_317 M31 := rfl
  rcases R with ⟨M', N', r1, r2, r3⟩ | ⟨M3, N3, m3, pr3, cl3, ff3, st3, dd3, tn3, r1, r2, ⟨r3, r4⟩, r5, r6, r7, ⟨r8, r9⟩, rA, rB, rC⟩
  · -- it ends in the first expression
    obtain ⟨e, e1, e2, e3, e4, e5⟩ := RN_f hK hff r3
    have g := r3.2.2.2
    have hne : ¬ (mv_si M' 7 10 (M'.1 7 9)).1 7 2 = 0 := by rw [rd_mi (by omega), e3, kM, k_eq (by omega) (by omega)]; omega
    refine ⟨e, mv_si M' 7 10 (M'.1 7 9), mv_si (mv_si (mv_si N' 62 79 (N'.1 62 77)) 62 80 (N'.1 62 78)) 62 76 (nI e), ?_, by simp (disch := omega) only [rd_hi, rd_mi, rd_hl, rd_ml, rd_hr, rd_mr, rd_si2, rd_sl1, rd_sl2, rd_sr1, rd_sr2]; exact e3, ?_, e5 _ _ (fun a p u => by simp (disch := omega) only [rd_hi, rd_mi, rd_hl, rd_ml, rd_hr, rd_mr, rd_si2, rd_sl1, rd_sl2, rd_sr1, rd_sr2]) rfl (fun a p u => by simp (disch := omega) only [rd_hi, rd_mi, rd_hl, rd_ml, rd_hr, rd_mr, rd_si2, rd_sl1, rd_sl2, rd_sr1, rd_sr2]) (by simp (disch := omega) only [rd_hi, rd_mi, rd_hl, rd_ml, rd_hr, rd_mr, rd_si2, rd_sl1, rd_sl2, rd_sr1, rd_sr2]), ⟨g.2.1, fun a p u => ?_⟩⟩
    · rw [c0, r1, k_bs, k_lt', show (mv_si M' 7 10 (M'.1 7 9)).2.2 7 6 = some b by rw [rd_si2, g.1.1]; exact k4, gp, show (mv_si M' 7 10 (M'.1 7 9)).1 7 1 = nI q by rw [rd_mi (by omega), g.1.2 _ _ (by unfold cAr; omega)]; exact k2, k_inb (by omega) (by omega), k_ck]
      have := fun x y => (np_f (M := mv_si M' 7 10 (M'.1 7 9)) (v := x) (a := y) (w := nI d) (e := e) (by simp (disch := omega) only [rd_hi, rd_mi, rd_hl, rd_ml, rd_hr, rd_mr, rd_si2, rd_sl1, rd_sl2, rd_sr1, rd_sr2]; exact e3) (by omega) 11).1
      unfold tX2_needParts
      rw [this, k_bs, if_neg hne]
    · have n74 : (mv_si (mv_si N' 62 79 (N'.1 62 77)) 62 80 (N'.1 62 78)).1 62 74 = nI e := by simp (disch := omega) only [rd_hi, rd_mi, rd_hl, rd_ml, rd_hr, rd_mr, rd_si2, rd_sl1, rd_sl2, rd_sr1, rd_sr2]; exact e4
      rw [r0, r2, k_bs, k_lt', k_lt', show (mv_si N' 62 79 (N'.1 62 77)).1 62 78 = N'.1 62 78 by simp (disch := omega) only [rd_hi, rd_mi, rd_hl, rd_ml, rd_hr, rd_mr, rd_si2, rd_sl1, rd_sl2, rd_sr1, rd_sr2], if_neg (by rw [n74, kM, k_eq (by omega) (by omega)]; omega), r_317 n74 (by omega), if_neg (by omega)]
    · rw [rd_mi (by omega), rd_mi (by omega), rd_mi (by omega)]
      exact g.2.2 a p (fun z => u (.inl z))
  · -- the answer is there
    obtain ⟨⟨i1, i2, i3, i4, i5, i6⟩, ⟨i7, i8⟩, ⟨i9, iA⟩, ⟨iB, iC⟩, ⟨iD, iE⟩, ⟨iF, iG⟩, iH, iI⟩ := r5.2.2.2
    have ff0 : ff3 0 = q := (r6.2.1 0 (by omega)).trans hff
    have e5q : P 5 (P 12 q) = P 11 q := wq.2.2.2.2.2.2.1
    rw [e5q] at rB rC
    obtain ⟨S4, E4⟩ := SS_o (Z := fun _ _ => True) (M' := mv_si M3 7 10 (M3.1 7 9)) (N' := mv_si (mv_si N3 62 79 (N3.1 62 77)) 62 80 (N3.1 62 78)) r5 rfl (fun a p u => by simp (disch := omega) only [rd_hi, rd_mi, rd_hl, rd_ml, rd_hr, rd_mr, rd_si2, rd_sl1, rd_sl2, rd_sr1, rd_sr2]) rfl (fun a p u => by simp (disch := omega) only [rd_hi, rd_mi, rd_hl, rd_ml, rd_hr, rd_mr, rd_si2, rd_sl1, rd_sl2, rd_sr1, rd_sr2])
    have k2' : (mv_si M3 7 10 (M3.1 7 9)).1 7 1 = nI q := by rw [rd_mi (by omega), r7.1.2 _ _ (by unfold cAr; omega)]; exact k2
    have hK4 : RK P F b q n sp (mv_si M3 7 10 (M3.1 7 9)) (mv_si (mv_si N3 62 79 (N3.1 62 77)) 62 80 (N3.1 62 78)) := by
      refine ⟨⟨k1, k2', ?_, ?_, k5, k6⟩, fun u hu => ?_⟩
      · simp (disch := omega) only [rd_hi, rd_mi, rd_hl, rd_ml, rd_hr, rd_mr, rd_si2, rd_sl1, rd_sl2, rd_sr1, rd_sr2]; rw [r7.2.2 _ _ (by unfold rAr; omega)]; exact k3
      · rw [rd_si2, r7.1.1]; exact k4
      · obtain ⟨u1, u2, u3⟩ := k7 u hu
        refine ⟨u1, ?_, ?_⟩
        · simp (disch := omega) only [rd_hi, rd_mi, rd_hl, rd_ml, rd_hr, rd_mr, rd_si2, rd_sl1, rd_sl2, rd_sr1, rd_sr2]; rw [Ex_0 r6 (by omega) (by rw [hff]; exact hu)]; exact u2
        · simp (disch := omega) only [rd_hi, rd_mi, rd_hl, rd_ml, rd_hr, rd_mr, rd_si2, rd_sl1, rd_sl2, rd_sr1, rd_sr2]; rw [r7.2.2 _ _ (by unfold rAr; omega)]; exact u3
    have hp4 := (S4.1.2.2.1.2.2.2.2.2 q k1)
    obtain ⟨Nd, nd1, nd2⟩ := np_all 2 (P 11 q) d 12 0 st3 dd3 m3 pr3 cl3 ff3 (mv_si M3 7 10 (M3.1 7 9)) _ wq.2.2.2.1 ⟨fun z => by omega, fun z => by omega⟩ (by omega) (.inr ⟨hd, hd2⟩) S4 (by rw [rd_mi (by omega)]; exact Ex_v E4 rC) (by simp (disch := omega) only [rd_hi, rd_mi, rd_hl, rd_ml, rd_hr, rd_mr, rd_si2, rd_sl1, rd_sl2, rd_sr1, rd_sr2]; exact rA) (by omega)
    have c1 : fX2_perform (nI d) M = mv_bind (RX2_needParts 12 0 ((mv_si M3 7 10 (M3.1 7 9)).1 7 9) (nI (P 11 q)) (nI d) (mv_si M3 7 10 (M3.1 7 9))) fun _ M7 => if (M7.1 7 2) = 0 then mv_let (mv_si M7 7 2 1) fun M8 => some ((), M8) else some ((), M7) := by
      rw [c0, r1, W_out iB, k_bs, k_lt', S4.1.2.2.2, gp, k2', k_inb (by omega) (by omega), k_ck, nI_clamp (by omega), hp4.1.2.2.1, rd_hi ⟨rfl, rfl⟩, rd_mi (by omega)]
      rfl
    have r1' : rT2 (nI (12 * h + q)) (nI d) N = mv_bind (fX11_goes_0 Nd) fun _ M34 => fX11_run_317 M34 := by
      rw [r0, r2, G_out iH, k_bs, k_lt', k_lt', show (mv_si N3 62 79 (N3.1 62 77)).1 62 78 = N3.1 62 78 by simp (disch := omega) only [rd_hi, rd_mi, rd_hl, rd_ml, rd_hr, rd_mr, rd_si2, rd_sl1, rd_sl2, rd_sr1, rd_sr2], if_pos (by simp (disch := omega) only [rd_hi, rd_mi, rd_hl, rd_ml, rd_hr, rd_mr, rd_si2, rd_sl1, rd_sl2, rd_sr1, rd_sr2]; rw [iG]; rfl), k_inb (by omega) (by omega), k_ck, nI_clamp (by omega), hp4.2.1.2.2.1, nd1, k_bs]
      rfl
    rcases nd2 with ⟨M', N', o1, o2, o3⟩ | ⟨M5, N5, m5, pr5, cl5, ff5, st5, dd5, o1, o2, o3, o4, o5, o6⟩
    · obtain ⟨e, e1, e2, e3, e4, e5⟩ := RN_f hK4 ff0 o3
      have g := o3.2.2.2
      refine ⟨e, M', mv_si N' 62 76 (nI e), ?_, e3, ?_, e5 _ _ (fun a p u => rfl) rfl (fun a p u => by simp (disch := omega) only [rd_hi, rd_mi, rd_hl, rd_ml, rd_hr, rd_mr, rd_si2, rd_sl1, rd_sl2, rd_sr1, rd_sr2]) (by simp (disch := omega) only [rd_hi, rd_mi, rd_hl, rd_ml, rd_hr, rd_mr, rd_si2, rd_sl1, rd_sl2, rd_sr1, rd_sr2]), ⟨g.2.1.trans r7.2.1, fun a p u => ?_⟩⟩
      · rw [c1, o1, k_bs, if_neg (by rw [e3, kM, k_eq (by omega) (by omega)]; omega)]
      · rw [r1', o2, k_bs, r_317 e4 (by omega), if_neg (by omega)]
      · rw [rd_mi (by omega), g.2.2 a p (fun z => u (.inl z)), rd_mi (by omega), rd_mi (by omega)]
        exact r7.2.2 a p (fun z => u (.inl z))
    · obtain ⟨⟨j1, j2, j3, j4, j5, j6⟩, ⟨j7, j8⟩, ⟨j9, jA⟩, ⟨jB, jC⟩, ⟨jD, jE⟩, ⟨jF, jG⟩, jH, jI⟩ := o3.2.2.2
      obtain ⟨⟨q1, q2⟩, ⟨q3, q4⟩, q5, q6⟩ := o3.2.2.1
      obtain ⟨n1, n2⟩ := Cr_nd o3.2.1
      have e10 : M5.1 7 10 = M3.1 7 9 := by rw [o5.1.2 _ _ (by unfold cAr; omega)]; simp (disch := omega) only [rd_hi, rd_mi, rd_hl, rd_ml, rd_hr, rd_mr, rd_si2, rd_sl1, rd_sl2, rd_sr1, rd_sr2]
      have qC : Cr P F it n m5 pr5 cl5 ff5 (mv_si M5 7 2 1) (mv_si N5 62 76 (nI 1)) := Cr_s (fun a p u => by simp (disch := omega) only [rd_hi, rd_mi, rd_hl, rd_ml, rd_hr, rd_mr, rd_si2, rd_sl1, rd_sl2, rd_sr1, rd_sr2]) (fun a p u => by simp (disch := omega) only [rd_hi, rd_mi, rd_hl, rd_ml, rd_hr, rd_mr, rd_si2, rd_sl1, rd_sl2, rd_sr1, rd_sr2]) o3.2.1
      refine ⟨1, mv_si M5 7 2 1, mv_si N5 62 76 (nI 1), ?_, by simp (disch := omega) only [rd_hi, rd_mi, rd_hl, rd_ml, rd_hr, rd_mr, rd_si2, rd_sl1, rd_sl2, rd_sr1, rd_sr2]; rfl, ?_, ⟨1, m5, ⟨k1, ?_, ?_, ?_⟩, ⟨by simp (disch := omega) only [rd_hi, rd_mi, rd_hl, rd_ml, rd_hr, rd_mr, rd_si2, rd_sl1, rd_sl2, rd_sr1, rd_sr2]; rfl, by simp (disch := omega) only [rd_hi, rd_mi, rd_hl, rd_ml, rd_hr, rd_mr, rd_si2, rd_sl1, rd_sl2, rd_sr1, rd_sr2], by omega, by omega⟩, by simp (disch := omega) only [rd_hi, rd_mi, rd_hl, rd_ml, rd_hr, rd_mr, rd_si2, rd_sl1, rd_sl2, rd_sr1, rd_sr2]; rw [j7, j8], ⟨by simp (disch := omega) only [rd_hi, rd_mi, rd_hl, rd_ml, rd_hr, rd_mr, rd_si2, rd_sl1, rd_sl2, rd_sr1, rd_sr2]; exact q1, by simp (disch := omega) only [rd_hi, rd_mi, rd_hl, rd_ml, rd_hr, rd_mr, rd_si2, rd_sl1, rd_sl2, rd_sr1, rd_sr2]; exact q2, o3.2.1.1.1⟩, by simp (disch := omega) only [rd_hi, rd_mi, rd_hl, rd_ml, rd_hr, rd_mr, rd_si2, rd_sl1, rd_sl2, rd_sr1, rd_sr2]; rw [q3, q4], by simp (disch := omega) only [rd_hi, rd_mi, rd_hl, rd_ml, rd_hr, rd_mr, rd_si2, rd_sl1, rd_sl2, rd_sr1, rd_sr2]; rw [q5, q6], by simp (disch := omega) only [rd_hi, rd_mi, rd_hl, rd_ml, rd_hr, rd_mr, rd_si2, rd_sl1, rd_sl2, rd_sr1, rd_sr2]; rw [jD, jE], fun k hk => by simp (disch := omega) only [rd_hi, rd_mi, rd_hl, rd_ml, rd_hr, rd_mr, rd_si2, rd_sl1, rd_sl2, rd_sr1, rd_sr2]; exact n1 k hk, fun u hu => ?_, fun _ => ⟨it, n, m5, pr5, cl5, ff5, qC, ?_, ?_, ?_⟩⟩, ⟨o5.2.1.trans r7.2.1, fun a p u => ?_⟩⟩
      · rw [c1, o1, k_bs, if_pos (by rw [jF]; rfl), k_lt']
      · rw [r1', o2, G_out jH, k_bs, r_317 jG (by omega), if_pos rfl]
      · simp (disch := omega) only [rd_hi, rd_mi, rd_hl, rd_ml, rd_hr, rd_mr, rd_si2, rd_sl1, rd_sl2, rd_sr1, rd_sr2]; rw [o5.1.2 _ _ (by unfold cAr; omega)]; exact k2'
      · simp (disch := omega) only [rd_hi, rd_mi, rd_hl, rd_ml, rd_hr, rd_mr, rd_si2, rd_sl1, rd_sl2, rd_sr1, rd_sr2]; rw [o5.2.2 _ _ (by unfold rAr; omega)]; exact hK4.1.2.2.1
      · rw [rd_si2, o5.1.1]; exact hK4.1.2.2.2.1
      · obtain ⟨u1, u2, u3⟩ := hK4.2 u hu
        refine ⟨sp u, by omega, ?_, ?_, ?_⟩
        · simp (disch := omega) only [rd_hi, rd_mi, rd_hl, rd_ml, rd_hr, rd_mr, rd_si2, rd_sl1, rd_sl2, rd_sr1, rd_sr2]; rw [Ex_0 o4 (by omega) (by rw [ff0]; exact hu)]; exact u2
        · simp (disch := omega) only [rd_hi, rd_mi, rd_hl, rd_ml, rd_hr, rd_mr, rd_si2, rd_sl1, rd_sl2, rd_sr1, rd_sr2]; rw [o5.2.2 _ _ (by unfold rAr; omega)]; exact u3
        · simp (disch := omega) only [rd_hi, rd_mi, rd_hl, rd_ml, rd_hr, rd_mr, rd_si2, rd_sl1, rd_sl2, rd_sr1, rd_sr2]; exact n2 _ u1
      · rw [rd_mi (by omega), e10]
        exact vV_m (Nat.le_refl _) (Nat.le_refl _) (fun _ _ => by simp (disch := omega) only [rd_hi, rd_mi, rd_hl, rd_ml, rd_hr, rd_mr, rd_si2, rd_sl1, rd_sl2, rd_sr1, rd_sr2]) (fun _ _ => ⟨by simp (disch := omega) only [rd_hi, rd_mi, rd_hl, rd_ml, rd_hr, rd_mr, rd_si2, rd_sl1, rd_sl2, rd_sr1, rd_sr2], by simp (disch := omega) only [rd_hi, rd_mi, rd_hl, rd_ml, rd_hr, rd_mr, rd_si2, rd_sl1, rd_sl2, rd_sr1, rd_sr2], by simp (disch := omega) only [rd_hi, rd_mi, rd_hl, rd_ml, rd_hr, rd_mr, rd_si2, rd_sl1, rd_sl2, rd_sr1, rd_sr2], by simp (disch := omega) only [rd_hi, rd_mi, rd_hl, rd_ml, rd_hr, rd_mr, rd_si2, rd_sl1, rd_sl2, rd_sr1, rd_sr2]⟩) (Ex_v o4 (Ex_v E4 rC))
      · simp (disch := omega) only [rd_hi, rd_mi, rd_hl, rd_ml, rd_hr, rd_mr, rd_si2, rd_sl1, rd_sl2, rd_sr1, rd_sr2]; rw [o5.2.2 _ _ (by unfold rAr; omega), e10]; simp (disch := omega) only [rd_hi, rd_mi, rd_hl, rd_ml, rd_hr, rd_mr, rd_si2, rd_sl1, rd_sl2, rd_sr1, rd_sr2]; exact rA.symm
      · simp (disch := omega) only [rd_hi, rd_mi, rd_hl, rd_ml, rd_hr, rd_mr, rd_si2, rd_sl1, rd_sl2, rd_sr1, rd_sr2]; rw [o5.2.2 _ _ (by unfold rAr; omega)]; simp (disch := omega) only [rd_hi, rd_mi, rd_hl, rd_ml, rd_hr, rd_mr, rd_si2, rd_sl1, rd_sl2, rd_sr1, rd_sr2]; exact rB
      · rw [rd_mi (by omega), o5.2.2 a p (fun z => u (.inl z)), rd_mi (by omega), rd_mi (by omega)]
        exact r7.2.2 a p (fun z => u (.inl z))
end RM1
