/-! RUNS: if -/
section RZ
variable {b h F ND n m pr cl m' pr' cl' m2 pr2 cl2 k t t' fr x st st' mx dp dd dd' kp kp' d tn tn' e i ty y f c c1 c2 c3 s : Nat} {P : Nat → Nat → Nat} {it ff ff' ff2 : Nat → Nat} {M N M' N' M1 N1 M2 N2 M3 N3 : mv_M} {Z Z' : Nat → Nat → Prop} {v op a w : Int32} {Wt Gt : Option (Unit × mv_M)}
theorem if_0 (hb : b = 9 ∨ b = 24) (h76 : M.2.2 7 6 = some b) (e52 : M.1 52 d = nI fr) (e53 : M.1 53 d = nI 0) (hd : d < 150) (hx : x < 1000) (e9 : M.1 (b + 9) x = nI c) : fX2_goOnIf (nI x) (nI d) M = fX2_enter (nI c) (nI fr) (mv_si M 53 d (nI 1)) := by
  have gp : ∀ {γ : Type} (K : Nat → Option γ), mv_getp (some b) K = K b := fun K => gp_b hb
  unfold fX2_goOnIf fX2_nextPhase
  simp (disch := omega) only [↓reduceIte, e52, e53, h76, gp, e9, bind_id, k_iT, k_iF, Bool.false_eq_true, eq_self, Nat.add_zero, k_lt', k_bs, k_T, k_F, k_inb, k_ck, k_nz, ↓kN, kL, k_lt, k_le, k_eq, kn_le, kn_lt, kn_eq, kn_le', kn_lt', kn_eq', nI_clamp, nI_add, k_sub, k_mul, k_div, rd_hi, rd_mi, rd_hl, rd_ml, rd_hr, rd_mr, rd_si2, rd_sl1, rd_sl2, rd_sr1, rd_sr2]
theorem if_1 (hb : b = 9 ∨ b = 24) (h76 : M.2.2 7 6 = some b) (e52 : M.1 52 d = nI fr) (e53 : M.1 53 d = nI 1) (hd : d < 150) (hx : x < 1000) (e10 : M.1 (b + 10) x = nI c2) (e11 : M.1 (b + 11) x = nI c3) : fX2_goOnIf (nI x) (nI d) M = fX2_enter (nI (if M.1 7 9 = 0 then c3 else c2)) (nI fr) (mv_si M 53 d (nI 2)) := by
  have gp : ∀ {γ : Type} (K : Nat → Option γ), mv_getp (some b) K = K b := fun K => gp_b hb
  unfold fX2_goOnIf fX2_nextPhase fX2_goOnIf_86
  by_cases u : M.1 7 9 = 0
  · have u' : M.1 7 9 = nI 0 := u
    rw [if_pos u]
    simp (disch := omega) only [↓reduceIte, e52, e53, h76, gp, e10, e11, u', bind_id, k_iT, k_iF, Bool.false_eq_true, eq_self, Nat.add_zero, k_lt', k_bs, k_T, k_F, k_inb, k_ck, k_nz, ↓kN, kL, k_lt, k_le, k_eq, kn_le, kn_lt, kn_eq, kn_le', kn_lt', kn_eq', nI_clamp, nI_add, k_sub, k_mul, k_div, rd_hi, rd_mi, rd_hl, rd_ml, rd_hr, rd_mr, rd_si2, rd_sl1, rd_sl2, rd_sr1, rd_sr2]
  · have u' : ¬ M.1 7 9 = nI 0 := u
    rw [if_neg u]
    simp (disch := omega) only [↓reduceIte, e52, e53, h76, gp, e10, e11, u', bind_id, k_iT, k_iF, Bool.false_eq_true, eq_self, Nat.add_zero, k_lt', k_bs, k_T, k_F, k_inb, k_ck, k_nz, ↓kN, kL, k_lt, k_le, k_eq, kn_le, kn_lt, kn_eq, kn_le', kn_lt', kn_eq', nI_clamp, nI_add, k_sub, k_mul, k_div, rd_hi, rd_mi, rd_hl, rd_ml, rd_hr, rd_mr, rd_si2, rd_sl1, rd_sl2, rd_sr1, rd_sr2]
theorem if_2 (hb : b = 9 ∨ b = 24) (h76 : M.2.2 7 6 = some b) (e52 : M.1 52 d = nI fr) (e53 : M.1 53 d = nI 2) (hd : d < 150) (hx : x < 1000) : fX2_goOnIf (nI x) (nI d) M = fX2_leave (M.1 7 9) (mv_si M 53 d (nI 3)) := by
  have gp : ∀ {γ : Type} (K : Nat → Option γ), mv_getp (some b) K = K b := fun K => gp_b hb
  unfold fX2_goOnIf fX2_nextPhase
  simp (disch := omega) only [↓reduceIte, e52, e53, h76, gp, bind_id, k_iT, k_iF, Bool.false_eq_true, eq_self, Nat.add_zero, k_lt', k_bs, k_T, k_F, k_inb, k_ck, k_nz, ↓kN, kL, k_lt, k_le, k_eq, kn_le, kn_lt, kn_eq, kn_le', kn_lt', kn_eq', nI_clamp, nI_add, k_sub, k_mul, k_div, rd_hi, rd_mi, rd_hl, rd_ml, rd_hr, rd_mr, rd_si2, rd_sl1, rd_sl2, rd_sr1, rd_sr2]
theorem go_if (hP : Pg b h P F ND M N) (hf : f < F) (h1 : P 15 f ≤ x) (h2 : x ≤ P 12 f) (e51 : M.1 51 d = nI x) (hd : d < 150) (hk : P 0 x = 301) : fX2_goOn (nI d) M = fX2_goOnIf (nI x) (nI d) M := by
  rw [go_at hP hf h1 h2 e51 hd, if_neg (by omega), if_neg (by omega), if_neg (by omega), if_neg (by omega), if_pos hk]
theorem ev_if (ih : EV b h P F ND it n k) (hkk : mx - st ≤ k + 1) (hS : SS b h P F ND it n m pr cl ff st mx dp dd (t + 1) kp M N) (hk : tk3 N t (nI 1) (nI (P 6 x)) (nI fr)) (hx : xX P F it n m cl ff M N x fr) (ho : ∀ c, P 7 x ≤ c → c ≤ x → ¬ Ow P m M fr c) (h1 : st < mx) (h2 : dp < 150) (htn : tn + 3 * (mx - st) < 1000000) (k3 : P 0 x = 301) : RO b h P F ND it n (zo P m M fr x) m pr cl ff st mx dp t kp (P 5 x) tn M N (fX2_workOut_8 (nI tn) (eW M x fr st dp dd)) (fX11_goes_0 N) := by
  have hc' := hS.2.2.2
  have hW := hS.1.1
  have hs := hS.1.2.1
  have hb := hS.1.2.2.1.1
  have bd := hS.2.2.2.1
  have hfr := hx.1
  obtain ⟨s1, s2, s3, s4, s5, ⟨s6, s7, s8⟩, s9⟩ := j_enter (x := x) (fr := fr) hS h1 h2
  generalize hM1 : eW M x fr st dp dd = M1 at s1 s2 s3 s4 s6 s7 s8 ⊢
  have hr := r_enter hc' h1 h2 hk
  generalize hN1 : eR N st dp dd t = N1 at s1 s2 s3 s5 s9 hr
  generalize hdd : max dd (dp + 1) = dd1 at s1
  have hx1 := Ex_x (s2 (fun _ _ => False)) hx
  obtain ⟨⟨x1, x2, x3, x4, x5, x6⟩, q1, q2, q3, q4⟩ := SS_node s1 hx1
  obtain ⟨p1, p2, p3, p4, p5, p6⟩ := pN_if q1 k3
  obtain ⟨a1, a2, a3⟩ := q2.2.2.1 k3
  obtain ⟨y9, y10, y72, y73⟩ := q3.2.2.2.2.2.2.2.2.1 (by omega)
  have e71 : N1.1 71 (P 6 x) = nI 2 := by rw [q3.2.2.2.1, k3]; rfl
  obtain ⟨⟨b1, b2, b3, b4, b5, b6⟩, ⟨b7, b8⟩, ⟨b9, bA⟩, ⟨bB, bC⟩, ⟨bD, bE⟩, ⟨bF, bG⟩, bH, bI⟩ := s1.2.2.2
  -- the first part
  have w0 := wk_2 (w := nI fr) e71 x6 bH (by omega)
  rw [y72] at w0
  generalize hN2 : pT (pT N1 (t + 1) (nI 6) (nI (P 6 x)) (nI fr)) (t + 1 + 1) (nI 1) (nI (P 6 (P 1 x))) (nI fr) = N2 at w0
  have gN : fX11_goes_0 N = fX11_goes_0 N2 := G_go (hr.trans (by rw [w0, k_bs]))
  have t0 : tk3 N2 t (nI 2) (nI 0) (nI 0) := by rw [← hN2]; exact tk3_p (tk3_p s9 (by omega)) (by omega)
  have t1 : tk3 N2 (t + 1) (nI 6) (nI (P 6 x)) (nI fr) := by rw [← hN2]; exact tk3_p pT_top (by omega)
  have t2 : tk3 N2 (t + 2) (nI 1) (nI (P 6 (P 1 x))) (nI fr) := by rw [← hN2]; exact pT_top
  have eN2 : ∀ a p, ¬ ((a = 62 ∧ p = 36) ∨ ((a = 81 ∨ a = 82 ∨ a = 85) ∧ t < p)) → N2.1 a p = N1.1 a p := by
    intro a p u
    rw [← hN2, pT_s (by omega), pT_s (by omega)]
  have z36 : N2.1 62 36 = nI (t + 3) := by rw [← hN2]; exact pT_36
  obtain ⟨S2, E2, g2⟩ := SS_k (M' := mv_si M1 53 dp (nI 1)) (N' := N2) (st' := st + 1) (dd' := dd1) (t' := t + 3) (kp' := kp) s1 rfl (fun a p u => by unfold kC at u; simp (disch := omega) only [rd_hi, rd_mi, rd_hl, rd_ml, rd_hr, rd_mr, rd_si2, rd_sl1, rd_sl2, rd_sr1, rd_sr2]) (by rw [← hN2]; rfl) (fun a p u => eN2 a p (by unfold kR' at u; omega)) ⟨⟨b1, b2, b3, b4, by omega, b6⟩, ⟨by simp (disch := omega) only [rd_hi, rd_mi, rd_hl, rd_ml, rd_hr, rd_mr, rd_si2, rd_sl1, rd_sl2, rd_sr1, rd_sr2]; exact b7, (eN2 _ _ (by omega)).trans b8⟩, ⟨by simp (disch := omega) only [rd_hi, rd_mi, rd_hl, rd_ml, rd_hr, rd_mr, rd_si2, rd_sl1, rd_sl2, rd_sr1, rd_sr2]; exact bB, (eN2 _ _ (by omega)).trans bC⟩, ⟨by simp (disch := omega) only [rd_hi, rd_mi, rd_hl, rd_ml, rd_hr, rd_mr, rd_si2, rd_sl1, rd_sl2, rd_sr1, rd_sr2]; exact bD, (eN2 _ _ (by omega)).trans bE⟩, ⟨by simp (disch := omega) only [rd_hi, rd_mi, rd_hl, rd_ml, rd_hr, rd_mr, rd_si2, rd_sl1, rd_sl2, rd_sr1, rd_sr2]; exact bF, (eN2 _ _ (by omega)).trans bG⟩, z36, (eN2 _ _ (by omega)).trans bI⟩
  have E02 : ∀ Z, Ex P it n Z m pr cl ff M N m pr cl ff (mv_si M1 53 dp (nI 1)) N2 := fun Z => Ex_tr (s2 Z) (E2 Z) (fun _ _ _ z => z)
  have hx2 := Ex_x (E02 (fun _ _ => False)) hx
  have pr1 := in_seg hW hx.2.1 hx.2.2.1 hx.2.2.2.1 p1
  have pr2 := in_seg hW hx.2.1 hx.2.2.1 hx.2.2.2.1 p2
  have pr3 := in_seg hW hx.2.1 hx.2.2.1 hx.2.2.2.1 p3
  have l1 := q4 _ p1.1 (Nat.le_of_lt p1.2.1)
  have l2 := q4 _ p2.1 (Nat.le_of_lt p2.2.1)
  have l3 := q4 _ p3.1 (Nat.le_of_lt p3.2.1)
  have lc2 := lam_at hW hx.2.1 pr2.1 pr2.2
  have lc3 := lam_at hW hx.2.1 pr3.1 pr3.2
  have m1 := p1.2.1
  have m2 := p2.2.1
  have m3 := p3.2.1
  have lt12 : P 1 x < P 2 x := by
    have := ((hW.2.2.2 _ hx.2.1).2.2.2.2.2.2.2.2.2 _ pr2.1 pr2.2).2.2.2.1
    omega
  have lt23 : P 2 x < P 3 x := by
    have := ((hW.2.2.2 _ hx.2.1).2.2.2.2.2.2.2.2.2 _ pr3.1 pr3.2).2.2.2.1
    omega
  have kn : ∀ c, (P 0 x ≠ 304 ∧ P 0 x ≠ 306) ∨ c < P 7 (x - 1) := fun c => by omega
  have xa := xX_sub hW hs hx2 p1.1 p1.2.1 (fun k k1 k2 => by
    by_cases hk2 : k ≤ P 2 x
    · have := lc2 k (by omega) hk2; omega
    · have := lc3 k (by omega) (by omega); omega) (kn _)
  obtain ⟨Mc, en1, R1⟩ := ih m pr cl ff (st + 1) mx (dp + 1) dd1 (t + 2) kp (tn + 1) (P 1 x) fr _ N2 (by omega) S2 t2 xa (fun c u1 u2 => Ow_k E02 hfr (ho c (by omega) (by omega))) (by omega)
  have wa : fX2_workOut_8 (nI tn) M1 = fX2_workOut_8 (nI (tn + 1)) Mc := W_go (by omega) bB h2 bF (by rw [go_if s1.1 hx.2.1 hx.2.2.1 hx.2.2.2.1 s6 h2 k3, if_0 hb s1.1.2.2.2 s7 s8 h2 (by omega) y9, en1])
  rw [wa, gN]
  rcases R1 with ⟨M', N', r1, r2, r3⟩ | ⟨M3, N3, m3', pr3', cl3, ff3, st3, dd3, tn3, r1, r2, ⟨r3, r4⟩, r5, r6, r7, ⟨r8, r9⟩, rA, rB, rC⟩
  · exact RO_f2 r1 r2 (E02 (fun _ _ => False)) (gF_tr s3 g2) r3
  rw [r1, r2]
  have E03 := Ex_tr (E02 (zo P m M fr x)) r6 (zo_in (E02 _) l1 (by omega))
  have g03 := gF_tr (gF_tr s3 g2) r7
  obtain ⟨⟨d1, d2, d3, d4, d5, d6⟩, ⟨d7, d8⟩, ⟨d9, dA⟩, ⟨dB, dC⟩, ⟨dD, dE⟩, ⟨dF, dG⟩, dH, dI⟩ := r5.2.2.2
  have f51 : M3.1 51 dp = nI x := (r8 51 dp (by omega) (by omega)).trans (by simp (disch := omega) only [rd_hi, rd_mi, rd_hl, rd_ml, rd_hr, rd_mr, rd_si2, rd_sl1, rd_sl2, rd_sr1, rd_sr2]; exact s6)
  have f52 : M3.1 52 dp = nI fr := (r8 52 dp (by omega) (by omega)).trans (by simp (disch := omega) only [rd_hi, rd_mi, rd_hl, rd_ml, rd_hr, rd_mr, rd_si2, rd_sl1, rd_sl2, rd_sr1, rd_sr2]; exact s7)
  have f53 : M3.1 53 dp = nI 1 := (r8 53 dp (by omega) (by omega)).trans (by simp (disch := omega) only [rd_hi, rd_mi, rd_hl, rd_ml, rd_hr, rd_mr, rd_si2, rd_sl1, rd_sl2, rd_sr1, rd_sr2])
  have mn3 := (r5.1.2.2.1.2.2.2.2.2 _ hx.2.1).2.2.2 x hx.2.2.1 hx.2.2.2.1
  obtain ⟨_, z10, _, z73⟩ := mn3.2.2.2.2.2.2.2.2.1 (by omega)
  obtain ⟨z11, z74⟩ := mn3.2.2.2.2.2.2.2.2.2.2.1 k3
  -- the branch
  have gK := G_go (r_pop6 (t := t + 1) dH (by omega) dG (tk3_s t1 r9 (by omega)) x6)
  generalize hcc : (if M3.1 7 9 = 0 then P 3 x else P 2 x) = cc
  have hsel : (if N3.1 62 78 = 0 then N3.1 74 (P 6 x) else N3.1 73 (P 6 x)) = nI (P 6 cc) := by
    rw [← rA, ← hcc]
    by_cases u : M3.1 7 9 = 0
    · rw [if_pos u, if_pos u, z74]
    · rw [if_neg u, if_neg u, z73]
  have hcd : cc = P 3 x ∨ cc = P 2 x := by
    by_cases u : M3.1 7 9 = 0
    · rw [if_pos u] at hcc; exact .inl hcc.symm
    · rw [if_neg u] at hcc; exact .inr hcc.symm
  rw [hsel] at gK
  generalize hN4 : pT (mv_si N3 62 36 (nI (t + 1))) (t + 1) (nI 1) (nI (P 6 cc)) (nI fr) = N4 at gK
  have eN4 : ∀ a p, ¬ ((a = 62 ∧ p = 36) ∨ ((a = 81 ∨ a = 82 ∨ a = 85) ∧ t < p)) → N4.1 a p = N3.1 a p := by
    intro a p u
    rw [← hN4, pT_s (by omega)]; simp (disch := omega) only [rd_hi, rd_mi, rd_hl, rd_ml, rd_hr, rd_mr, rd_si2, rd_sl1, rd_sl2, rd_sr1, rd_sr2]
  obtain ⟨S4, E4, g4⟩ := SS_k (M' := mv_si M3 53 dp (nI 2)) (N' := N4) (st' := st3) (dd' := dd3) (t' := t + 2) (kp' := kp) r5 rfl (fun a p u => by unfold kC at u; simp (disch := omega) only [rd_hi, rd_mi, rd_hl, rd_ml, rd_hr, rd_mr, rd_si2, rd_sl1, rd_sl2, rd_sr1, rd_sr2]) (by rw [← hN4]; rfl) (fun a p u => eN4 a p (by unfold kR' at u; omega)) ⟨⟨d1, d2, d3, d4, by omega, by omega⟩, ⟨by simp (disch := omega) only [rd_hi, rd_mi, rd_hl, rd_ml, rd_hr, rd_mr, rd_si2, rd_sl1, rd_sl2, rd_sr1, rd_sr2]; exact d7, (eN4 _ _ (by omega)).trans d8⟩, ⟨by simp (disch := omega) only [rd_hi, rd_mi, rd_hl, rd_ml, rd_hr, rd_mr, rd_si2, rd_sl1, rd_sl2, rd_sr1, rd_sr2]; exact dB, (eN4 _ _ (by omega)).trans dC⟩, ⟨by simp (disch := omega) only [rd_hi, rd_mi, rd_hl, rd_ml, rd_hr, rd_mr, rd_si2, rd_sl1, rd_sl2, rd_sr1, rd_sr2]; exact dD, (eN4 _ _ (by omega)).trans dE⟩, ⟨by simp (disch := omega) only [rd_hi, rd_mi, rd_hl, rd_ml, rd_hr, rd_mr, rd_si2, rd_sl1, rd_sl2, rd_sr1, rd_sr2]; exact dF, (eN4 _ _ (by omega)).trans dG⟩, by rw [← hN4]; exact pT_36, (eN4 _ _ (by omega)).trans dI⟩
  have E34 := E4 (zo P m M fr x)
  have E04 := Ex_tr E03 E34 (fun _ _ _ z => z)
  have hx4 := Ex_x E04 hx
  have hcx : P 7 x ≤ cc ∧ cc < x ∧ P 1 x < P 7 cc ∧ P 7 x ≤ P 7 cc ∧ P 5 cc = P 5 x := by rcases hcd with rfl | rfl <;> refine ⟨?_, ?_, ?_, ?_, ?_⟩ <;> omega
  have xb := xX_sub hW hs hx4 hcx.1 hcx.2.1 (fun k k1 k2 => by
    rcases hcd with rfl | rfl
    · omega
    · have := lc3 k (by omega) (by omega); omega) (kn _)
  have u2 : tk3 N4 (t + 1) (nI 1) (nI (P 6 cc)) (nI fr) := by rw [← hN4]; exact pT_top
  have ho4 : ∀ c, P 7 cc ≤ c → c ≤ cc → ¬ Ow P m3' (mv_si M3 53 dp (nI 2)) fr c := by
    intro c v1 v2
    have hcl3 : fr ≤ cl3 := Nat.le_trans hfr E03.1.2.2
    refine Ow_k E4 hcl3 (fun z => ?_)
    rcases r6.2.2.2.2.2.2 fr c hfr z with y | y | ⟨_, y1, y2⟩
    · exact Ow_k E02 hfr (ho c (by omega) (by omega)) y
    · exact Ow_k E02 hfr (ho c (by omega) (by omega)) y
    · omega
  obtain ⟨Md, en2, R2⟩ := ih m3' pr3' cl3 ff3 st3 mx (dp + 1) dd3 (t + 1) kp (tn3 + 1) cc fr _ N4 (by omega) S4 u2 xb ho4 (by omega)
  have wb : fX2_workOut_8 (nI tn3) M3 = fX2_workOut_8 (nI (tn3 + 1)) Md := by
    refine W_go (by omega) dB h2 dF ?_
    rw [go_if r5.1 hx.2.1 hx.2.2.1 hx.2.2.2.1 f51 h2 k3, if_1 hb r5.1.2.2.2 f52 f53 h2 (by omega) z10 z11, hcc, en2]
  rw [wb, gK]
  rcases R2 with ⟨M', N', o1, o2, o3⟩ | ⟨M5, N5, m5, pr5, cl5, ff5, st5, dd5, tn5, o1, o2, ⟨o3, o4⟩, o5, o6, o7, ⟨o8, o9⟩, oA, oB, oC⟩
  · exact RO_f2 o1 o2 E04 (gF_tr g03 g4) o3
  rw [o1, o2]
  have E05 := Ex_tr E04 o6 (zo_in E04 hcx.2.2.2.1 (by omega))
  have g05 := gF_tr (gF_tr g03 g4) o7
  obtain ⟨⟨i1, i2, i3, i4, i5, i6⟩, ⟨i7, i8⟩, ⟨i9, iA⟩, ⟨iB, iC⟩, ⟨iD, iE⟩, ⟨iF, iG⟩, iH, iI⟩ := o5.2.2.2
  have j51 : M5.1 51 dp = nI x := (o8 51 dp (by omega) (by omega)).trans (by simp (disch := omega) only [rd_hi, rd_mi, rd_hl, rd_ml, rd_hr, rd_mr, rd_si2, rd_sl1, rd_sl2, rd_sr1, rd_sr2]; exact f51)
  have j52 : M5.1 52 dp = nI fr := (o8 52 dp (by omega) (by omega)).trans (by simp (disch := omega) only [rd_hi, rd_mi, rd_hl, rd_ml, rd_hr, rd_mr, rd_si2, rd_sl1, rd_sl2, rd_sr1, rd_sr2]; exact f52)
  have j53 : M5.1 53 dp = nI 2 := (o8 53 dp (by omega) (by omega)).trans (by simp (disch := omega) only [rd_hi, rd_mi, rd_hl, rd_ml, rd_hr, rd_mr, rd_si2, rd_sl1, rd_sl2, rd_sr1, rd_sr2])
  obtain ⟨n1, n2, n3⟩ := tk3_s t0 r9 (show t < t + 2 by omega)
  have tD : tk3 N5 t (nI 2) (nI 0) (nI 0) := tk3_s ⟨(eN4 _ _ (by omega)).trans n1, (eN4 _ _ (by omega)).trans n2, (eN4 _ _ (by omega)).trans n3⟩ o9 (by omega)
  obtain ⟨S6, E6, g6⟩ := SS_k (M' := mv_si M5 53 dp (nI 3)) (N' := N5) (st' := st5) (dd' := dd5) (t' := t + 1) (kp' := kp) o5 rfl (fun a p u => by unfold kC at u; simp (disch := omega) only [rd_hi, rd_mi, rd_hl, rd_ml, rd_hr, rd_mr, rd_si2, rd_sl1, rd_sl2, rd_sr1, rd_sr2]) rfl (fun a p u => rfl) ⟨⟨i1, i2, i3, i4, by omega, by omega⟩, ⟨by simp (disch := omega) only [rd_hi, rd_mi, rd_hl, rd_ml, rd_hr, rd_mr, rd_si2, rd_sl1, rd_sl2, rd_sr1, rd_sr2]; exact i7, i8⟩, ⟨by simp (disch := omega) only [rd_hi, rd_mi, rd_hl, rd_ml, rd_hr, rd_mr, rd_si2, rd_sl1, rd_sl2, rd_sr1, rd_sr2]; exact iB, iC⟩, ⟨by simp (disch := omega) only [rd_hi, rd_mi, rd_hl, rd_ml, rd_hr, rd_mr, rd_si2, rd_sl1, rd_sl2, rd_sr1, rd_sr2]; exact iD, iE⟩, ⟨by simp (disch := omega) only [rd_hi, rd_mi, rd_hl, rd_ml, rd_hr, rd_mr, rd_si2, rd_sl1, rd_sl2, rd_sr1, rd_sr2]; exact iF, iG⟩, iH, iI⟩
  have w3 : fX2_goOn (nI dp) M5 = some ((), mv_si (mv_si (mv_si M5 53 dp (nI 3)) 7 9 (N5.1 62 78)) 7 8 (nI dp)) := by
    rw [go_if o5.1 hx.2.1 hx.2.2.1 hx.2.2.2.1 j51 h2 k3, if_2 hb o5.1.2.2.2 j52 j53 h2 (by omega), oA]
    exact c_leave (by simp (disch := omega) only [rd_hi, rd_mi, rd_hl, rd_ml, rd_hr, rd_mr, rd_si2, rd_sl1, rd_sl2, rd_sr1, rd_sr2]; exact iB)
  refine RO_done (v := N5.1 62 78) (tn' := tn5 + 1) S6 tD (Ex_tr E05 (E6 (zo P m M fr x)) (fun _ _ _ z => z)) (gF_tr g05 g6) (fun a i z hi => ?_) ⟨fun a i z hi => ?_, fun i hi => ?_⟩ rfl (by rw [← hcx.2.2.2.2]; exact oB) (by rw [← hcx.2.2.2.2, ← oA]; exact Ex_v (E6 (fun _ _ => False)) oC) (by omega) (by omega) (by omega) (by omega) (W_go (by omega) iB h2 iF w3) rfl
  · simp (disch := omega) only [rd_hi, rd_mi, rd_hl, rd_ml, rd_hr, rd_mr, rd_si2, rd_sl1, rd_sl2, rd_sr1, rd_sr2]
    rw [o8 a i z (by omega)]
    simp (disch := omega) only [rd_hi, rd_mi, rd_hl, rd_ml, rd_hr, rd_mr, rd_si2, rd_sl1, rd_sl2, rd_sr1, rd_sr2]
    rw [r8 a i z (by omega)]
    simp (disch := omega) only [rd_hi, rd_mi, rd_hl, rd_ml, rd_hr, rd_mr, rd_si2, rd_sl1, rd_sl2, rd_sr1, rd_sr2]
    exact s4 a i z hi
  · rw [o9.1 a i z (by omega), eN4 _ _ (by omega), r9.1 a i z (by omega), eN2 _ _ (by omega)]
    exact s5.1 a i z hi
  · rw [o9.2 i (by omega), eN4 _ _ (by omega), r9.2 i (by omega), eN2 _ _ (by omega)]
    exact s5.2 i hi
end RZ
