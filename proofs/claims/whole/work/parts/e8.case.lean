/-! RUNS: case -/
section RC1
variable {b h F ND n m pr cl m' pr' cl' m2 pr2 cl2 k t t' fr x st st' mx dp dd dd' kp kp' d tn tn' e i ty y y1 y2 f c c1 c2 c3 s nm p : Nat} {P : Nat → Nat → Nat} {it ff ff' ff2 : Nat → Nat} {M N M' N' M1 N1 M2 N2 M3 N3 : mv_M} {Z Z' : Nat → Nat → Prop} {v op a w r : Int32} {Wt Gt : Option (Unit × mv_M)}
theorem cs_0 (hb : b = 9 ∨ b = 24) (h76 : M.2.2 7 6 = some b) (e52 : M.1 52 d = nI fr) (e53 : M.1 53 d = nI 0) (hd : d < 150) (hx : x < 1000) (e9 : M.1 (b + 9) x = nI c) : fX2_goOnCase (nI x) (nI d) M = fX2_enter (nI c) (nI fr) (mv_si M 53 d (nI 1)) := by
  have gp : ∀ {γ : Type} (K : Nat → Option γ), mv_getp (some b) K = K b := fun K => gp_b hb
  unfold fX2_goOnCase fX2_nextPhase
  simp (disch := omega) only [↓reduceIte, e52, e53, h76, gp, e9, bind_id, k_iT, k_iF, Bool.false_eq_true, eq_self, Nat.add_zero, k_lt', k_bs, k_T, k_F, k_inb, k_ck, k_nz, ↓kN, kL, k_lt, k_le, k_eq, kn_le, kn_lt, kn_eq, kn_le', kn_lt', kn_eq', nI_clamp, nI_add, k_sub, k_mul, k_div, rd_hi, rd_mi, rd_hl, rd_ml, rd_hr, rd_mr, rd_si2, rd_sl1, rd_sl2, rd_sr1, rd_sr2]
theorem c_has (hp : p < 1540) : fX7_has (nI p) M = some (1, M) := by
  unfold fX7_has
  simp (disch := omega) only [k_iT, k_iF, Bool.false_eq_true, eq_self, Nat.add_zero, k_lt', k_bs, k_T, k_F, k_inb, k_ck, k_nz, ↓kN, kL, k_lt, k_le, k_eq, kn_le, kn_lt, kn_eq, kn_le', kn_lt', kn_eq', nI_clamp, nI_add, k_sub, k_mul, k_div, rd_hi, rd_mi, rd_hl, rd_ml, rd_hr, rd_mr, rd_si2, rd_sl1, rd_sl2, rd_sr1, rd_sr2]
theorem cs_1 (hb : b = 9 ∨ b = 24) (h76 : M.2.2 7 6 = some b) (e52 : M.1 52 d = nI fr) (e53 : M.1 53 d = nI 1) (hd : d < 150) (hx : x < 1000) (e79 : M.1 7 9 = nI p) (hp : p < 1540) (e10 : M.1 (b + 10) x = nI c2) (e11 : M.1 (b + 11) x = nI nm) (hf : fr ≤ 1500) (hn : nm < 15) : fX2_goOnCase (nI x) (nI d) M = fX2_enter (nI c2) (nI fr) (mv_si (mv_si (mv_si M 53 d (nI 2)) 50 (16 * fr + nm) (M.1 60 p)) 50 (16 * fr + (nm + 1)) (M.1 61 p)) := by
  have gp : ∀ {γ : Type} (K : Nat → Option γ), mv_getp (some b) K = K b := fun K => gp_b hb
  have cb : ∀ v X, fX2_bind (nI fr) (nI nm) v X = some ((), mv_si X 50 (16 * fr + nm) v) := fun v X => c_bind hf (by omega)
  have cb2 : ∀ v X, fX2_bind (nI fr) (nI (nm + 1)) v X = some ((), mv_si X 50 (16 * fr + (nm + 1)) v) := fun v X => c_bind hf (by omega)
  have ch : ∀ X, fX7_has (nI p) X = some (1, X) := fun X => c_has hp
  unfold fX2_goOnCase fX2_nextPhase fX2_goOnCase_125
  simp (disch := omega) only [↓reduceIte, e52, e53, h76, gp, e79, ch, cb, cb2, e10, e11, bind_id, k_iT, k_iF, Bool.false_eq_true, eq_self, Nat.add_zero, k_lt', k_bs, k_T, k_F, k_inb, k_ck, k_nz, ↓kN, kL, k_lt, k_le, k_eq, kn_le, kn_lt, kn_eq, kn_le', kn_lt', kn_eq', nI_clamp, nI_add, k_sub, k_mul, k_div, rd_hi, rd_mi, rd_hl, rd_ml, rd_hr, rd_mr, rd_si2, rd_sl1, rd_sl2, rd_sr1, rd_sr2]
theorem cs_2 (e52 : M.1 52 d = nI fr) (e53 : M.1 53 d = nI 2) (hd : d < 150) : fX2_goOnCase (nI x) (nI d) M = fX2_leave (M.1 7 9) (mv_si M 53 d (nI 3)) := by
  unfold fX2_goOnCase fX2_nextPhase
  simp (disch := omega) only [↓reduceIte, e52, e53, bind_id, k_iT, k_iF, Bool.false_eq_true, eq_self, Nat.add_zero, k_lt', k_bs, k_T, k_F, k_inb, k_ck, k_nz, ↓kN, kL, k_lt, k_le, k_eq, kn_le, kn_lt, kn_eq, kn_le', kn_lt', kn_eq', nI_clamp, nI_add, k_sub, k_mul, k_div, rd_hi, rd_mi, rd_hl, rd_ml, rd_hr, rd_mr, rd_si2, rd_sl1, rd_sl2, rd_sr1, rd_sr2]
theorem go_case (hP : Pg b h P F ND M N) (hf : f < F) (h1 : P 15 f ≤ x) (h2 : x ≤ P 12 f) (e51 : M.1 51 d = nI x) (hd : d < 150) (hk : P 0 x = 306) : fX2_goOn (nI d) M = fX2_goOnCase (nI x) (nI d) M := by
  rw [go_at hP hf h1 h2 e51 hd, if_neg (by omega), if_neg (by omega), if_neg (by omega), if_neg (by omega), if_neg (by omega), if_neg (by omega), if_pos hk]
theorem ev_case (ih : EV b h P F ND it n k) (hkk : mx - st ≤ k + 1) (hS : SS b h P F ND it n m pr cl ff st mx dp dd (t + 1) kp M N) (hk : tk3 N t (nI 1) (nI (P 6 x)) (nI fr)) (hx : xX P F it n m cl ff M N x fr) (ho : ∀ c, P 7 x ≤ c → c ≤ x → ¬ Ow P m M fr c) (h1 : st < mx) (h2 : dp < 150) (htn : tn + 3 * (mx - st) < 1000000) (k3 : P 0 x = 306) : RO b h P F ND it n (zo P m M fr x) m pr cl ff st mx dp t kp (P 5 x) tn M N (fX2_workOut_8 (nI tn) (eW M x fr st dp dd)) (fX11_goes_0 N) := by
  have hc' := hS.2.2.2
  have hW := hS.1.1
  have hs := hS.1.2.1
  have hb := hS.1.2.2.1.1
  have bd := hS.2.2.2.1
  have hfr := hx.1
  obtain ⟨s1, s2, s3, s4, s5, ⟨s6, s7, s8⟩, s9⟩ := j_enter (x := x) (fr := fr) hS h1 h2
  generalize hM1 : eW M x fr st dp dd = M1 at s1 s2 s3 s4 s6 s7 s8 ⊢
  have hr := r_enter hc' h1 h2 hk
  generalize hN1 : eR N st dp dd t = N1 at s1 s2 s3 s5 s9 hr
  generalize hdd : max dd (dp + 1) = dd1 at s1
  have hx1 := Ex_x (s2 (fun _ _ => False)) hx
  obtain ⟨⟨x1, x2, x3, x4, x5, x6⟩, q1, q2, q3, q4⟩ := SS_node s1 hx1
  obtain ⟨p1, p2, p3, p4, p5, p6, p7, p8, p9, pA, pB, pC'⟩ := pN_case q1 k3
  obtain ⟨y9, y10, y72, y73⟩ := q3.2.2.2.2.2.2.2.2.1 (by omega)
  have e71 : N1.1 71 (P 6 x) = nI 4 := by rw [q3.2.2.2.1, k3]; rfl
  obtain ⟨⟨b1, b2, b3, b4, b5, b6⟩, ⟨b7, b8⟩, ⟨b9, bA⟩, ⟨bB, bC⟩, ⟨bD', bE⟩, ⟨bF, bG⟩, bH, bI⟩ := s1.2.2.2
  have h16 := (hW.2.2.2 _ hx.2.1).2.2.1
  -- the first part
  have w0 := wk_4 (w := nI fr) e71 x6 bH (by omega)
  rw [y72] at w0
  generalize hN2 : pT (pT N1 (t + 1) (nI 7) (nI (P 6 x)) (nI fr)) (t + 1 + 1) (nI 1) (nI (P 6 (P 1 x))) (nI fr) = N2 at w0
  have gN : fX11_goes_0 N = fX11_goes_0 N2 := G_go (hr.trans (by rw [w0, k_bs]))
  have t0 : tk3 N2 t (nI 2) (nI 0) (nI 0) := by rw [← hN2]; exact tk3_p (tk3_p s9 (by omega)) (by omega)
  have t1 : tk3 N2 (t + 1) (nI 7) (nI (P 6 x)) (nI fr) := by rw [← hN2]; exact tk3_p pT_top (by omega)
  have t2 : tk3 N2 (t + 2) (nI 1) (nI (P 6 (P 1 x))) (nI fr) := by rw [← hN2]; exact pT_top
  have eN2 : ∀ a p, ¬ ((a = 62 ∧ p = 36) ∨ ((a = 81 ∨ a = 82 ∨ a = 85) ∧ t < p)) → N2.1 a p = N1.1 a p := by
    intro a p u
    rw [← hN2, pT_s (by omega), pT_s (by omega)]
  have z36 : N2.1 62 36 = nI (t + 3) := by rw [← hN2]; exact pT_36
  obtain ⟨S2, E2, g2⟩ := SS_k (M' := mv_si M1 53 dp (nI 1)) (N' := N2) (st' := st + 1) (dd' := dd1) (t' := t + 3) (kp' := kp) s1 rfl (fun a p u => by unfold kC at u; simp (disch := omega) only [rd_hi, rd_mi, rd_hl, rd_ml, rd_hr, rd_mr, rd_si2, rd_sl1, rd_sl2, rd_sr1, rd_sr2]) (by rw [← hN2]; rfl) (fun a p u => eN2 a p (by unfold kR' at u; omega)) ⟨⟨b1, b2, b3, b4, by omega, b6⟩, ⟨by simp (disch := omega) only [rd_hi, rd_mi, rd_hl, rd_ml, rd_hr, rd_mr, rd_si2, rd_sl1, rd_sl2, rd_sr1, rd_sr2]; exact b7, (eN2 _ _ (by omega)).trans b8⟩, ⟨by simp (disch := omega) only [rd_hi, rd_mi, rd_hl, rd_ml, rd_hr, rd_mr, rd_si2, rd_sl1, rd_sl2, rd_sr1, rd_sr2]; exact bB, (eN2 _ _ (by omega)).trans bC⟩, ⟨by simp (disch := omega) only [rd_hi, rd_mi, rd_hl, rd_ml, rd_hr, rd_mr, rd_si2, rd_sl1, rd_sl2, rd_sr1, rd_sr2]; exact bD', (eN2 _ _ (by omega)).trans bE⟩, ⟨by simp (disch := omega) only [rd_hi, rd_mi, rd_hl, rd_ml, rd_hr, rd_mr, rd_si2, rd_sl1, rd_sl2, rd_sr1, rd_sr2]; exact bF, (eN2 _ _ (by omega)).trans bG⟩, z36, (eN2 _ _ (by omega)).trans bI⟩
  have E02 : ∀ Z, Ex P it n Z m pr cl ff M N m pr cl ff (mv_si M1 53 dp (nI 1)) N2 := fun Z => Ex_tr (s2 Z) (E2 Z) (fun _ _ _ z => z)
  have hx2 := Ex_x (E02 (fun _ _ => False)) hx
  have pr1 := in_seg hW hx.2.1 hx.2.2.1 hx.2.2.2.1 p1
  have pr2 := in_seg hW hx.2.1 hx.2.2.1 hx.2.2.2.1 p2
  have l1 := q4 _ p1.1 (Nat.le_of_lt p1.2.1)
  have l2 := q4 _ p2.1 (Nat.le_of_lt p2.2.1)
  have lc2 := lam_at hW hx.2.1 pr2.1 pr2.2
  have m1 := p1.2.1
  have m2 := p2.2.1
  have ex1 : x - 1 = P 2 x := by omega
  have xa := xX_sub hW hs hx2 p1.1 p1.2.1 (fun k k1 k2 => by have := lc2 k (by omega) (by omega); omega) (.inr (by rw [ex1]; omega))
  obtain ⟨Mc, en1, R1⟩ := ih m pr cl ff (st + 1) mx (dp + 1) dd1 (t + 2) kp (tn + 1) (P 1 x) fr _ N2 (by omega) S2 t2 xa (fun c u1 u2 => Ow_k E02 hfr (ho c (by omega) (by omega))) (by omega)
  have wa : fX2_workOut_8 (nI tn) M1 = fX2_workOut_8 (nI (tn + 1)) Mc := W_go (by omega) bB h2 bF (by rw [go_case s1.1 hx.2.1 hx.2.2.1 hx.2.2.2.1 s6 h2 k3, cs_0 hb s1.1.2.2.2 s7 s8 h2 (by omega) y9, en1])
  rw [wa, gN]
  rcases R1 with ⟨M', N', r1, r2, r3⟩ | ⟨M3, N3, m3, pr3, cl3, ff3, st3, dd3, tn3, r1, r2, ⟨r3, r4⟩, r5, r6, r7, ⟨r8, r9⟩, rA, rB, rC⟩
  · exact RO_f2 r1 r2 (E02 (fun _ _ => False)) (gF_tr s3 g2) r3
  rw [r1, r2]
  have E03 := Ex_tr (E02 (zo P m M fr x)) r6 (zo_in (E02 _) l1 (by omega))
  have g03 := gF_tr (gF_tr s3 g2) r7
  obtain ⟨⟨d1, d2, d3, d4, d5, d6⟩, ⟨d7, d8⟩, ⟨d9, dA⟩, ⟨dB, dC⟩, ⟨dD, dE⟩, ⟨dF, dG⟩, dH, dI⟩ := r5.2.2.2
  have f51 : M3.1 51 dp = nI x := (r8 51 dp (by omega) (by omega)).trans (by simp (disch := omega) only [rd_hi, rd_mi, rd_hl, rd_ml, rd_hr, rd_mr, rd_si2, rd_sl1, rd_sl2, rd_sr1, rd_sr2]; exact s6)
  have f52 : M3.1 52 dp = nI fr := (r8 52 dp (by omega) (by omega)).trans (by simp (disch := omega) only [rd_hi, rd_mi, rd_hl, rd_ml, rd_hr, rd_mr, rd_si2, rd_sl1, rd_sl2, rd_sr1, rd_sr2]; exact s7)
  have f53 : M3.1 53 dp = nI 1 := (r8 53 dp (by omega) (by omega)).trans (by simp (disch := omega) only [rd_hi, rd_mi, rd_hl, rd_ml, rd_hr, rd_mr, rd_si2, rd_sl1, rd_sl2, rd_sr1, rd_sr2])
  have mn3 := (r5.1.2.2.1.2.2.2.2.2 _ hx.2.1).2.2.2 x hx.2.2.1 hx.2.2.2.1
  obtain ⟨_, z10, _, z73⟩ := mn3.2.2.2.2.2.2.2.2.1 (by omega)
  obtain ⟨z11, z74⟩ := mn3.2.2.2.2.2.2.2.2.2.2.2 (by omega)
  have hcl3 : fr ≤ cl3 := Nat.le_trans hfr E03.1.2.2
  have eff : ff3 fr = ff fr := E03.2.1 fr hfr
  -- the parts are bound
  obtain ⟨p, k1, k2, v1, v2, v3, v4, v5, v6, v7, v8⟩ : ∃ p k1 k2, M3.1 7 9 = nI p ∧ (p < pr3 ∨ (1500 ≤ p ∧ p < 1540)) ∧ M3.1 60 p = nI k1 ∧ M3.1 61 p = nI k2 ∧ N3.1 101 p = nI (fi k1) ∧ N3.1 102 p = nI (fi k2) ∧ oT P it n m3 M3 k1 ((P 5 (P 1 x) - 1) / 2) ∧ oT P it n m3 M3 k2 ((P 5 (P 1 x) - 1) % 2) := by
    rcases rC with z | z
    · omega
    · exact z
  have hpb : p < 1540 := by have := r5.2.1.1; omega
  have gK := G_go (r_pop7 (t := t + 1) (p := p) (nm := P 3 x) dH (by omega) dG (tk3_s t1 r9 (by omega)) x6 (rA ▸ v1) hpb z74 (by omega) x5)
  rw [v5, v6, z73, Nat.add_assoc] at gK
  obtain ⟨S4, E4, g4⟩ := SS_k (M' := mv_si M3 53 dp (nI 2)) (N' := mv_si N3 62 36 (nI (t + 1))) (st' := st3) (dd' := dd3) (t' := t + 1) (kp' := kp) r5 rfl (fun a p u => by unfold kC at u; simp (disch := omega) only [rd_hi, rd_mi, rd_hl, rd_ml, rd_hr, rd_mr, rd_si2, rd_sl1, rd_sl2, rd_sr1, rd_sr2]) rfl (fun a p u => by unfold kR' at u; simp (disch := omega) only [rd_hi, rd_mi, rd_hl, rd_ml, rd_hr, rd_mr, rd_si2, rd_sl1, rd_sl2, rd_sr1, rd_sr2]) ⟨⟨d1, d2, d3, d4, by omega, by omega⟩, ⟨by simp (disch := omega) only [rd_hi, rd_mi, rd_hl, rd_ml, rd_hr, rd_mr, rd_si2, rd_sl1, rd_sl2, rd_sr1, rd_sr2]; exact d7, by simp (disch := omega) only [rd_hi, rd_mi, rd_hl, rd_ml, rd_hr, rd_mr, rd_si2, rd_sl1, rd_sl2, rd_sr1, rd_sr2]; exact d8⟩, ⟨by simp (disch := omega) only [rd_hi, rd_mi, rd_hl, rd_ml, rd_hr, rd_mr, rd_si2, rd_sl1, rd_sl2, rd_sr1, rd_sr2]; exact dB, by simp (disch := omega) only [rd_hi, rd_mi, rd_hl, rd_ml, rd_hr, rd_mr, rd_si2, rd_sl1, rd_sl2, rd_sr1, rd_sr2]; exact dC⟩, ⟨by simp (disch := omega) only [rd_hi, rd_mi, rd_hl, rd_ml, rd_hr, rd_mr, rd_si2, rd_sl1, rd_sl2, rd_sr1, rd_sr2]; exact dD, by simp (disch := omega) only [rd_hi, rd_mi, rd_hl, rd_ml, rd_hr, rd_mr, rd_si2, rd_sl1, rd_sl2, rd_sr1, rd_sr2]; exact dE⟩, ⟨by simp (disch := omega) only [rd_hi, rd_mi, rd_hl, rd_ml, rd_hr, rd_mr, rd_si2, rd_sl1, rd_sl2, rd_sr1, rd_sr2]; exact dF, by simp (disch := omega) only [rd_hi, rd_mi, rd_hl, rd_ml, rd_hr, rd_mr, rd_si2, rd_sl1, rd_sl2, rd_sr1, rd_sr2]; exact dG⟩, by simp (disch := omega) only [rd_hi, rd_mi, rd_hl, rd_ml, rd_hr, rd_mr, rd_si2, rd_sl1, rd_sl2, rd_sr1, rd_sr2], by simp (disch := omega) only [rd_hi, rd_mi, rd_hl, rd_ml, rd_hr, rd_mr, rd_si2, rd_sl1, rd_sl2, rd_sr1, rd_sr2]; exact dI⟩
  obtain ⟨S5, E5, g5, B5⟩ := SS_bind (k := k1) (fr := fr) (nm := P 3 x) S4 (by rw [eff, p7]; exact Ex_o (E4 (fun _ _ => False)) v7) (by omega) (by rw [eff]; exact p4)
  obtain ⟨S6, E6, g6, B6⟩ := SS_bind (k := k2) (fr := fr) (nm := P 3 x + 1) S5 (by rw [eff, p8]; exact Ex_o E5 (Ex_o (E4 (fun _ _ => False)) v8)) (by omega) (by rw [eff]; omega)
  have B56 := E6.2.2.2.2.1 fr (P 3 x) hcl3 B5
  generalize hM6 : mv_si (mv_si (mv_si M3 53 dp (nI 2)) 50 (16 * fr + P 3 x) (nI k1)) 50 (16 * fr + (P 3 x + 1)) (nI k2) = M6 at S6 E6 g6 B6 B56
  generalize hN6 : mv_si (mv_si (mv_si N3 62 36 (nI (t + 1))) 103 (16 * fr + P 3 x) (nI (fi k1))) 103 (16 * fr + (P 3 x + 1)) (nI (fi k2)) = N6 at S6 E6 g6 B6 B56 gK
  generalize hN7 : pT N6 (t + 1) (nI 1) (nI (P 6 (P 2 x))) (nI fr) = N7 at gK
  have eN7 : ∀ a p, ¬ ((a = 62 ∧ p = 36) ∨ ((a = 81 ∨ a = 82 ∨ a = 85) ∧ t < p)) → N7.1 a p = N6.1 a p := by
    intro a p u
    rw [← hN7, pT_s (by omega)]
  obtain ⟨⟨o1, o2, o3, o4, o5, o6⟩, ⟨o7, o8⟩, ⟨o9, oA⟩, ⟨oB, oC⟩, ⟨oD, oE⟩, ⟨oF, oG⟩, oH, oI⟩ := S6.2.2.2
  obtain ⟨S7, E7, g7⟩ := SS_k (M' := M6) (N' := N7) (st' := st3) (dd' := dd3) (t' := t + 2) (kp' := kp) S6 rfl (fun a p u => rfl) (by rw [← hN7]; rfl) (fun a p u => eN7 a p (by unfold kR' at u; omega)) ⟨⟨o1, o2, o3, o4, by omega, o6⟩, ⟨o7, (eN7 _ _ (by omega)).trans o8⟩, ⟨oB, (eN7 _ _ (by omega)).trans oC⟩, ⟨oD, (eN7 _ _ (by omega)).trans oE⟩, ⟨oF, (eN7 _ _ (by omega)).trans oG⟩, by rw [← hN7]; exact pT_36, (eN7 _ _ (by omega)).trans oI⟩
  rw [eff] at B56 B6 E5 E6
  have C5 := (E7 (fun _ _ => False)).2.2.2.2.1 fr (P 3 x) hcl3 (by rw [eff]; exact B56)
  have C6 := (E7 (fun _ _ => False)).2.2.2.2.1 fr (P 3 x + 1) hcl3 (by rw [eff]; exact B6)
  rw [eff] at C5 C6
  have E04 := Ex_tr E03 (E4 (zo P m M fr x)) (fun _ _ _ z => z)
  have E05 := Ex_tr E04 E5 (fun f c _ z => .inr ⟨z.1, by omega, by omega⟩)
  have E06 := Ex_tr E05 E6 (fun f c _ z => .inr ⟨z.1, by omega, by omega⟩)
  have E07 := Ex_tr E06 (E7 (zo P m M fr x)) (fun _ _ _ z => z)
  have g07 := gF_tr (gF_tr (gF_tr (gF_tr g03 g4) g5) g6) g7
  have hx7 := Ex_x E07 hx
  have xb : xX P F it n m3 cl3 ff3 M6 N7 (P 2 x) fr := by
    refine xX_in hW hx7 p2.1 m2 (fun k k1 k2 => by omega) (fun y y1 y2 y3 y4 y5 => ?_)
    rw [eff] at y4 y5 ⊢
    have := (hs _ hx.2.1 y (by omega) (by omega)).1 y3 y4
    unfold bD at this
    rw [y5] at this
    by_cases e : P 1 y = P 3 x
    · rw [e]; exact C5
    · have e' : P 1 y = P 3 x + 1 := by omega
      rw [e']; exact C6
  have t7 : tk3 N7 (t + 1) (nI 1) (nI (P 6 (P 2 x))) (nI fr) := by rw [← hN7]; exact pT_top
  have ho7 : ∀ c, P 7 (P 2 x) ≤ c → c ≤ P 2 x → ¬ Ow P m3 M6 fr c := by
    intro c u1 u2 z
    rcases E6.2.2.2.2.2.2 fr c hcl3 z with z | ⟨_, z⟩
    · rcases E5.2.2.2.2.2.2 fr c hcl3 z with z | ⟨_, z⟩
      · revert z
        refine Ow_k E4 hcl3 (fun z => ?_)
        rcases r6.2.2.2.2.2.2 fr c hfr z with y | y | ⟨_, y1, y2⟩
        · exact Ow_k E02 hfr (ho c (by omega) (by omega)) y
        · exact Ow_k E02 hfr (ho c (by omega) (by omega)) y
        · omega
      · omega
    · omega
  obtain ⟨Md, en2, R2⟩ := ih m3 pr3 cl3 ff3 st3 mx (dp + 1) dd3 (t + 1) kp (tn3 + 1) (P 2 x) fr M6 N7 (by omega) S7 t7 xb ho7 (by omega)
  have wb : fX2_workOut_8 (nI tn3) M3 = fX2_workOut_8 (nI (tn3 + 1)) Md := by
    refine W_go (by omega) dB h2 dF ?_
    rw [go_case r5.1 hx.2.1 hx.2.2.1 hx.2.2.2.1 f51 h2 k3, cs_1 hb r5.1.2.2.2 f52 f53 h2 (by omega) v1 hpb z10 z11 x5 (by omega), v3, v4, hM6]
    exact en2
  rw [wb, gK]
  have aM : ∀ a i, 51 ≤ a ∧ a ≤ 54 → M6.1 a i = (mv_si M3 53 dp (nI 2)).1 a i := by
    intro a i u
    rw [← hM6, rd_mi (by omega), rd_mi (by omega)]
  have aN : ∀ a i, a = 81 ∨ a = 82 ∨ a = 85 ∨ a = 105 → N6.1 a i = N3.1 a i := by
    intro a i u
    rw [← hN6]; simp (disch := omega) only [rd_hi, rd_mi, rd_hl, rd_ml, rd_hr, rd_mr, rd_si2, rd_sl1, rd_sl2, rd_sr1, rd_sr2]
  rcases R2 with ⟨M', N', j1, j2, j3⟩ | ⟨M8, N8, m8, pr8, cl8, ff8, st8, dd8, tn8, j1, j2, ⟨j3, j4⟩, j5, j6, j7, ⟨j8, j9⟩, jA, jB, jC⟩
  · exact RO_f2 j1 j2 E07 g07 j3
  rw [j1, j2]
  have E08 := Ex_tr E07 j6 (zo_in E07 l2 (by omega))
  have g08 := gF_tr g07 j7
  obtain ⟨⟨i1, i2, i3, i4, i5, i6⟩, ⟨i7, i8⟩, ⟨i9, iA⟩, ⟨iB, iC⟩, ⟨iD, iE⟩, ⟨iF, iG⟩, iH, iI⟩ := j5.2.2.2
  have j51 : M8.1 51 dp = nI x := (j8 51 dp (by omega) (by omega)).trans ((aM _ _ (by omega)).trans (by simp (disch := omega) only [rd_hi, rd_mi, rd_hl, rd_ml, rd_hr, rd_mr, rd_si2, rd_sl1, rd_sl2, rd_sr1, rd_sr2]; exact f51))
  have j52 : M8.1 52 dp = nI fr := (j8 52 dp (by omega) (by omega)).trans ((aM _ _ (by omega)).trans (by simp (disch := omega) only [rd_hi, rd_mi, rd_hl, rd_ml, rd_hr, rd_mr, rd_si2, rd_sl1, rd_sl2, rd_sr1, rd_sr2]; exact f52))
  have j53 : M8.1 53 dp = nI 2 := (j8 53 dp (by omega) (by omega)).trans ((aM _ _ (by omega)).trans (by simp (disch := omega) only [rd_hi, rd_mi, rd_hl, rd_ml, rd_hr, rd_mr, rd_si2, rd_sl1, rd_sl2, rd_sr1, rd_sr2]))
  obtain ⟨n1, n2, n3⟩ := tk3_s t0 r9 (show t < t + 2 by omega)
  have tD : tk3 N8 t (nI 2) (nI 0) (nI 0) := tk3_s ⟨(eN7 _ _ (by omega)).trans ((aN _ _ (by omega)).trans n1), (eN7 _ _ (by omega)).trans ((aN _ _ (by omega)).trans n2), (eN7 _ _ (by omega)).trans ((aN _ _ (by omega)).trans n3)⟩ j9 (by omega)
  obtain ⟨S9, E9, g9⟩ := SS_k (M' := mv_si M8 53 dp (nI 3)) (N' := N8) (st' := st8) (dd' := dd8) (t' := t + 1) (kp' := kp) j5 rfl (fun a p u => by unfold kC at u; simp (disch := omega) only [rd_hi, rd_mi, rd_hl, rd_ml, rd_hr, rd_mr, rd_si2, rd_sl1, rd_sl2, rd_sr1, rd_sr2]) rfl (fun a p u => rfl) ⟨⟨i1, i2, i3, i4, by omega, by omega⟩, ⟨by simp (disch := omega) only [rd_hi, rd_mi, rd_hl, rd_ml, rd_hr, rd_mr, rd_si2, rd_sl1, rd_sl2, rd_sr1, rd_sr2]; exact i7, i8⟩, ⟨by simp (disch := omega) only [rd_hi, rd_mi, rd_hl, rd_ml, rd_hr, rd_mr, rd_si2, rd_sl1, rd_sl2, rd_sr1, rd_sr2]; exact iB, iC⟩, ⟨by simp (disch := omega) only [rd_hi, rd_mi, rd_hl, rd_ml, rd_hr, rd_mr, rd_si2, rd_sl1, rd_sl2, rd_sr1, rd_sr2]; exact iD, iE⟩, ⟨by simp (disch := omega) only [rd_hi, rd_mi, rd_hl, rd_ml, rd_hr, rd_mr, rd_si2, rd_sl1, rd_sl2, rd_sr1, rd_sr2]; exact iF, iG⟩, iH, iI⟩
  have w3 : fX2_goOn (nI dp) M8 = some ((), mv_si (mv_si (mv_si M8 53 dp (nI 3)) 7 9 (N8.1 62 78)) 7 8 (nI dp)) := by
    rw [go_case j5.1 hx.2.1 hx.2.2.1 hx.2.2.2.1 j51 h2 k3, cs_2 j52 j53 h2, jA]
    exact c_leave (by simp (disch := omega) only [rd_hi, rd_mi, rd_hl, rd_ml, rd_hr, rd_mr, rd_si2, rd_sl1, rd_sl2, rd_sr1, rd_sr2]; exact iB)
  refine RO_done (v := N8.1 62 78) (tn' := tn8 + 1) S9 tD (Ex_tr E08 (E9 (zo P m M fr x)) (fun _ _ _ z => z)) (gF_tr g08 g9) (fun a i z hi => ?_) ⟨fun a i z hi => ?_, fun i hi => ?_⟩ rfl (by rw [← p3]; exact jB) (by rw [← p3, ← jA]; exact Ex_v (E9 (fun _ _ => False)) jC) (by omega) (by omega) (by omega) (by omega) (W_go (by omega) iB h2 iF w3) rfl
  · simp (disch := omega) only [rd_hi, rd_mi, rd_hl, rd_ml, rd_hr, rd_mr, rd_si2, rd_sl1, rd_sl2, rd_sr1, rd_sr2]
    rw [j8 a i z (by omega), aM a i z]
    simp (disch := omega) only [rd_hi, rd_mi, rd_hl, rd_ml, rd_hr, rd_mr, rd_si2, rd_sl1, rd_sl2, rd_sr1, rd_sr2]
    rw [r8 a i z (by omega)]
    simp (disch := omega) only [rd_hi, rd_mi, rd_hl, rd_ml, rd_hr, rd_mr, rd_si2, rd_sl1, rd_sl2, rd_sr1, rd_sr2]
    exact s4 a i z hi
  · rw [j9.1 a i z (by omega), eN7 _ _ (by omega), aN _ _ (by omega), r9.1 a i z (by omega), eN2 _ _ (by omega)]
    exact s5.1 a i z hi
  · rw [j9.2 i (by omega), eN7 _ _ (by omega), aN _ _ (by omega), r9.2 i (by omega), eN2 _ _ (by omega)]
    exact s5.2 i hi
end RC1
