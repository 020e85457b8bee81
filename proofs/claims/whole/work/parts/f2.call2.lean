/-! RUNS: a call; every expression -/
section RG1
variable {b h F ND n m pr cl pq cq pq' cq' m' pr' cl' m2 pr2 cl2 k t t' fr x st st' mx dp dd dd' kp kp' d tn tn' e i ty y y1 y2 f c c1 c2 c3 s nm p j q g cf A : Nat} {P : Nat → Nat → Nat} {it ff ff' ff2 : Nat → Nat} {M N M' N' M0 N0 M1 N1 M2 N2 M3 N3 : mv_M} {Z Z' : Nat → Nat → Prop} {v op a w r : Int32} {Wt Gt : Option (Unit × mv_M)}
theorem ev_call (ih : EV b h P F ND it n k) (hkk : mx - st ≤ k + 1) (hS : SS b h P F ND it n m pr cl ff st mx dp dd (t + 1) kp M N) (hk : tk3 N t (nI 1) (nI (P 6 x)) (nI fr)) (hx : xX P F it n m cl ff M N x fr) (ho : ∀ c, P 7 x ≤ c → c ≤ x → ¬ Ow P m M fr c) (h1 : st < mx) (h2 : dp < 150) (htn : tn + 3 * (mx - st) < 1000000) (k3 : P 0 x = 5) : RO b h P F ND it n (zo P m M fr x) m pr cl ff st mx dp t kp (P 5 x) tn M N (fX2_workOut_8 (nI tn) (eW M x fr st dp dd)) (fX11_goes_0 N) := by
  have hc' := hS.2.2.2
  have hW := hS.1.1
  have hs := hS.1.2.1
  have hb := hS.1.2.2.1.1
  have bd := hS.2.2.2.1
  have hfr := hx.1
  obtain ⟨s1, s2, s3, s4, s5, ⟨s6, s7, s8⟩, s9⟩ := j_enter (x := x) (fr := fr) hS h1 h2
  generalize hM1 : eW M x fr st dp dd = M1 at s1 s2 s3 s4 s6 s7 s8 ⊢
  have hr := r_enter hc' h1 h2 hk
  generalize hN1 : eR N st dp dd t = N1 at s1 s2 s3 s5 s9 hr
  generalize hdd : max dd (dp + 1) = dd1 at s1
  have hx1 := Ex_x (s2 (fun _ _ => False)) hx
  obtain ⟨⟨x1, x2, x3, x4, x5, x6⟩, q1, q2, q3, q4⟩ := SS_node s1 hx1
  obtain ⟨p1, p2, p3, p4⟩ := pN_call q1 k3
  obtain ⟨n9, n74, n11, n73, n72, n16, n10, n12, n78⟩ := q3.2.2.2.2.2.2.2.1 k3
  have e71 : N1.1 71 (P 6 x) = nI 8 := by rw [q3.2.2.2.1, k3]; rfl
  obtain ⟨⟨b1, b2, b3, b4, b5, b6⟩, ⟨b7, b8⟩, ⟨b9, bA⟩, ⟨bB', bC⟩, ⟨bD', bE⟩, ⟨bF, bG⟩, bH, bI⟩ := s1.2.2.2
  obtain ⟨⟨m1, m2⟩, ⟨m3, m4⟩, m5, m6⟩ := s1.2.2.1
  have wq := hW.2.2.2 _ p1
  have hF := hW.2.1
  have hh := hS.1.2.2.1.2.1
  have g0 := go_call s1.1 hx.2.1 hx.2.2.1 hx.2.2.2.1 s6 h2 k3
  by_cases hcl : cl = 1500
  · subst hcl
    have gN := G_go (hr.trans (by rw [cd_f e71 x6 m6, k_bs]))
    have wa := W_go (tn := tn) (by omega) bB' h2 bF (g0.trans (ca_f s8 h2 m5))
    exact RO_f2 (wa.trans (W_end (e := 5) (by simp (disch := omega) only [rd_hi, rd_mi, rd_hl, rd_ml, rd_hr, rd_mr, rd_si2, rd_sl1, rd_sl2, rd_sr1, rd_sr2]) (by omega) (by omega))) (gN.trans (G_end (e := 5) (by simp (disch := omega) only [rd_hi, rd_mi, rd_hl, rd_ml, rd_hr, rd_mr, rd_si2, rd_sl1, rd_sl2, rd_sr1, rd_sr2]) (by omega) (by omega))) (s2 (fun _ _ => False)) s3 (Fn_c (e := 5) s1 rfl (fun a p u => by unfold kC at u; simp (disch := omega) only [rd_hi, rd_mi, rd_hl, rd_ml, rd_hr, rd_mr, rd_si2, rd_sl1, rd_sl2, rd_sr1, rd_sr2]) rfl (fun a p u => by unfold kR' at u; simp (disch := omega) only [rd_hi, rd_mi, rd_hl, rd_ml, rd_hr, rd_mr, rd_si2, rd_sl1, rd_sl2, rd_sr1, rd_sr2]) (by simp (disch := omega) only [rd_hi, rd_mi, rd_hl, rd_ml, rd_hr, rd_mr, rd_si2, rd_sl1, rd_sl2, rd_sr1, rd_sr2]) (by simp (disch := omega) only [rd_hi, rd_mi, rd_hl, rd_ml, rd_hr, rd_mr, rd_si2, rd_sl1, rd_sl2, rd_sr1, rd_sr2]) (by omega) (by simp (disch := omega) only [rd_hi, rd_mi, rd_hl, rd_ml, rd_hr, rd_mr, rd_si2, rd_sl1, rd_sl2, rd_sr1, rd_sr2]; rw [b7, b8]) (by simp (disch := omega) only [rd_hi, rd_mi, rd_hl, rd_ml, rd_hr, rd_mr, rd_si2, rd_sl1, rd_sl2, rd_sr1, rd_sr2]; rw [bD', bE]))
  have hclb : cl < 1500 := by have := s1.2.1.1.2.2.1; omega
  have l0 := ca_0 hb s1.1.2.2.2 s8 h2 (show x < 1000 by omega) m5 hclb n9 s1.1.2.2.1.2.2.1 p1 hF
  have w0 := cd_0 (w := nI fr) e71 x6 m6 hclb
  -- the count
  obtain ⟨S2, E2, g2⟩ := SS_k (M' := mv_si M1 53 dp (nI 1)) (N' := N1) (st' := st + 1) (dd' := dd1) (t' := t + 1) (kp' := kp) s1 rfl (fun a p u => by unfold kC at u; simp (disch := omega) only [rd_hi, rd_mi, rd_hl, rd_ml, rd_hr, rd_mr, rd_si2, rd_sl1, rd_sl2, rd_sr1, rd_sr2]) rfl (fun a p u => rfl) ⟨⟨b1, b2, b3, b4, by omega, b6⟩, ⟨by simp (disch := omega) only [rd_hi, rd_mi, rd_hl, rd_ml, rd_hr, rd_mr, rd_si2, rd_sl1, rd_sl2, rd_sr1, rd_sr2]; exact b7, b8⟩, ⟨by simp (disch := omega) only [rd_hi, rd_mi, rd_hl, rd_ml, rd_hr, rd_mr, rd_si2, rd_sl1, rd_sl2, rd_sr1, rd_sr2]; exact bB', bC⟩, ⟨by simp (disch := omega) only [rd_hi, rd_mi, rd_hl, rd_ml, rd_hr, rd_mr, rd_si2, rd_sl1, rd_sl2, rd_sr1, rd_sr2]; exact bD', bE⟩, ⟨by simp (disch := omega) only [rd_hi, rd_mi, rd_hl, rd_ml, rd_hr, rd_mr, rd_si2, rd_sl1, rd_sl2, rd_sr1, rd_sr2]; exact bF, bG⟩, bH, bI⟩
  have gc : gF (mv_si M1 53 dp (nI 1)) N1 (mv_si (mv_si M1 53 dp (nI 1)) 7 4 (nI (cl + 1))) (mv_si N1 62 69 (nI (cl + 1))) := ⟨⟨rfl, fun a p u => by unfold cAr at u; simp (disch := omega) only [rd_hi, rd_mi, rd_hl, rd_ml, rd_hr, rd_mr, rd_si2, rd_sl1, rd_sl2, rd_sr1, rd_sr2]⟩, rfl, fun a p u => by unfold rAr at u; simp (disch := omega) only [rd_hi, rd_mi, rd_hl, rd_ml, rd_hr, rd_mr, rd_si2, rd_sl1, rd_sl2, rd_sr1, rd_sr2]⟩
  obtain ⟨S3, E3⟩ := SQ_s (pq' := pr) (cq' := cl + 1) S2 gc (fun a p u => by simp (disch := omega) only [rd_hi, rd_mi, rd_hl, rd_ml, rd_hr, rd_mr, rd_si2, rd_sl1, rd_sl2, rd_sr1, rd_sr2]) (fun a p u => by simp (disch := omega) only [rd_hi, rd_mi, rd_hl, rd_ml, rd_hr, rd_mr, rd_si2, rd_sl1, rd_sl2, rd_sr1, rd_sr2]) (fun p u => by simp (disch := omega) only [rd_hi, rd_mi, rd_hl, rd_ml, rd_hr, rd_mr, rd_si2, rd_sl1, rd_sl2, rd_sr1, rd_sr2]) (by simp (disch := omega) only [rd_hi, rd_mi, rd_hl, rd_ml, rd_hr, rd_mr, rd_si2, rd_sl1, rd_sl2, rd_sr1, rd_sr2]) (fun p u1 u2 => by simp (disch := omega) only [rd_hi, rd_mi, rd_hl, rd_ml, rd_hr, rd_mr, rd_si2, rd_sl1, rd_sl2, rd_sr1, rd_sr2]) ⟨by simp (disch := omega) only [rd_hi, rd_mi, rd_hl, rd_ml, rd_hr, rd_mr, rd_si2, rd_sl1, rd_sl2, rd_sr1, rd_sr2]; exact m3, by simp (disch := omega) only [rd_hi, rd_mi, rd_hl, rd_ml, rd_hr, rd_mr, rd_si2, rd_sl1, rd_sl2, rd_sr1, rd_sr2]; exact m4⟩ ⟨by simp (disch := omega) only [rd_hi, rd_mi, rd_hl, rd_ml, rd_hr, rd_mr, rd_si2, rd_sl1, rd_sl2, rd_sr1, rd_sr2], by simp (disch := omega) only [rd_hi, rd_mi, rd_hl, rd_ml, rd_hr, rd_mr, rd_si2, rd_sl1, rd_sl2, rd_sr1, rd_sr2]⟩
  have E03 : ∀ Z, Ex P it n Z m pr cl ff M N m pr cl ff (mv_si (mv_si M1 53 dp (nI 1)) 7 4 (nI (cl + 1))) (mv_si N1 62 69 (nI (cl + 1))) := fun Z => Ex_tr (Ex_tr (s2 Z) (E2 Z) (fun _ _ _ z => z)) (E3 Z) (fun _ _ _ z => z)
  have g03 := gF_tr (gF_tr s3 g2) gc
  have seg7 : ∀ u, u < P 3 x → P 7 x ≤ P 7 (ar P x u) ∧ ar P x u < x := fun u hu => ⟨q4 _ (p4 u hu).1.1 (Nat.le_of_lt (p4 u hu).1.2.1), (p4 u hu).1.2.1⟩
  rcases al_loop (d := dp) (t := t + 1) k3 hclb h2 (by omega) hfr (P 3 x) 0 _ _ m (M1.1 (b + 10) x) (by omega) S3 (Ex_x (E03 (fun _ _ => False)) hx) (by simp (disch := omega) only [rd_hi, rd_mi, rd_hl, rd_ml, rd_hr, rd_mr, rd_si2, rd_sl1, rd_sl2, rd_sr1, rd_sr2]; exact s7) n10 (fun u hu => by omega) (fun u u1 u2 c v1 v2 => Ow_k E03 hfr (ho c (by have := seg7 u u2; omega) (by have := seg7 u u2; omega))) with ⟨M4, N4, m4', o1, o2, S4, E4, g4, B4, aM4, aN4⟩ | ⟨M', N', o1, o2, o3⟩
  · have E04 : Ex P it n (zo P m M fr x) m pr cl ff M N m4' pr cl ff M4 N4 := Ex_tr (E03 _) E4 (fun f c _ z => .inr ⟨z.1, z.2.1, Nat.le_of_lt z.2.2⟩)
    obtain ⟨C5, E5⟩ := Cr_frame (q := P 1 x) (Z := zo P m M fr x) S4.2.1 hclb
    have eff : (fun f => if f = cl + 1 then P 1 x else ff f) (cl + 1) = P 1 x := if_pos rfl
    generalize (fun f => if f = cl + 1 then P 1 x else ff f) = ff5 at C5 E5 eff
    have S5 : SS b h P F ND it n m4' pr (cl + 1) ff5 (st + 1) mx (dp + 1) dd1 (t + 1) kp M4 N4 := ⟨S4.1, C5, S4.2.2.1, S4.2.2.2⟩
    have e68 : N4.1 68 (12 * h + P 1 x) = nI (P 6 (P 12 (P 1 x))) := (S4.1.2.2.1.2.2.2.2.2 _ p1).2.1.2.2.2
    rw [e68] at o2
    generalize hN5 : pT N4 (t + 1) (nI 1) (nI (P 6 (P 12 (P 1 x)))) (nI (cl + 1)) = N5 at o2
    have gN : fX11_goes_0 N = fX11_goes_0 N5 := G_go (hr.trans (by rw [w0, o2, k_bs]))
    have eN5 : ∀ a p, ¬ ((a = 62 ∧ p = 36) ∨ ((a = 81 ∨ a = 82 ∨ a = 85) ∧ t < p)) → N5.1 a p = N4.1 a p := by
      intro a p u
      rw [← hN5, pT_s (by omega)]
    obtain ⟨⟨d1, d2, d3, d4, d5, d6⟩, ⟨d7, d8⟩, ⟨d9, dA⟩, ⟨dB, dC⟩, ⟨dD, dE⟩, ⟨dF, dG⟩, dH, dI⟩ := S5.2.2.2
    obtain ⟨S6, E6, g6⟩ := SS_k (M' := M4) (N' := N5) (st' := st + 1) (dd' := dd1) (t' := t + 2) (kp' := kp) S5 rfl (fun a p u => rfl) (by rw [← hN5]; rfl) (fun a p u => eN5 a p (by unfold kR' at u; omega)) ⟨⟨d1, d2, d3, d4, by omega, d6⟩, ⟨d7, (eN5 _ _ (by omega)).trans d8⟩, ⟨dB, (eN5 _ _ (by omega)).trans dC⟩, ⟨dD, (eN5 _ _ (by omega)).trans dE⟩, ⟨dF, (eN5 _ _ (by omega)).trans dG⟩, by rw [← hN5]; exact pT_36, (eN5 _ _ (by omega)).trans dI⟩
    have E06 : Ex P it n (zo P m M fr x) m pr cl ff M N m4' pr (cl + 1) ff5 M4 N5 := Ex_tr (Ex_tr E04 E5 (fun _ _ _ z => z)) (E6 _) (fun _ _ _ z => z)
    have g06 := gF_tr (gF_tr g03 g4) g6
    have xb : xX P F it n m4' (cl + 1) ff5 M4 N5 (P 12 (P 1 x)) (cl + 1) := by
      refine ⟨Nat.le_refl _, by rw [eff]; exact p1, by rw [eff]; exact wq.2.2.2.2.1, by rw [eff]; exact Nat.le_refl _, fun y y1 y2 y3 y4 => ?_⟩
      rw [eff] at y4
      have w7 := (wq.2.2.2.2.2.2.2.2.2 _ wq.2.2.2.2.1 (Nat.le_refl _)).2.2.1
      have pny := (wq.2.2.2.2.2.2.2.2.2 y (by omega) y2).2.2.2.2.2
      have hlt : P 1 y < P 9 (P 1 x) := by
        rcases y4 with z | z
        · exact z
        · rcases (pN_name pny y3).2.2 with z' | z'
          · exact z'
          · omega
      refine (E6 (fun _ _ => False)).2.2.2.2.1 (cl + 1) (P 1 y) (Nat.le_refl _) ?_
      rw [eff]
      exact B4 (P 1 y) (by omega)
    have ho6 : ∀ c, P 7 (P 12 (P 1 x)) ≤ c → c ≤ P 12 (P 1 x) → ¬ Ow P m4' M4 (cl + 1) c := by
      intro c _ _ z
      obtain ⟨j, y, z1, z2, z3, z4, z5, z6⟩ := z
      obtain ⟨y', f', a1, a2, a3, a4, a5, a6⟩ := S4.2.1.2.1 j z1
      have := a6.1
      rw [a3, k_eq (by omega) (by omega)] at z5
      omega
    have t1 : tk3 N5 (t + 1) (nI 1) (nI (P 6 (P 12 (P 1 x)))) (nI (cl + 1)) := by rw [← hN5]; exact pT_top
    obtain ⟨Mc, en1, R1⟩ := ih m4' pr (cl + 1) ff5 (st + 1) mx (dp + 1) dd1 (t + 1) kp (tn + 1) (P 12 (P 1 x)) (cl + 1) M4 N5 (by omega) S6 t1 xb ho6 (by omega)
    have mn4 := (S4.1.2.2.1.2.2.2.2.2 _ hx.2.1).2.2.2 x hx.2.2.1 hx.2.2.2.1
    have wa : fX2_workOut_8 (nI tn) M1 = fX2_workOut_8 (nI (tn + 1)) Mc := by
      refine W_go (by omega) bB' h2 bF ?_
      rw [g0, l0, o1, ca_144 (q := P 1 x) (c := P 12 (P 1 x)) hb S4.1.2.2.2 dF (by omega) (mn4.2.2.2.2.2.2.2.1 k3).1 (by omega) (S4.1.2.2.1.2.2.2.2.2 _ p1).1.2.2.2]
      exact en1
    rw [wa, gN]
    have e5x : P 5 (P 12 (P 1 x)) = P 5 x := by rw [p3]; exact wq.2.2.2.2.2.2.1
    rcases R1 with ⟨M', N', r1, r2, r3⟩ | ⟨M7, N7, m7, pr7, cl7, ff7, st7, dd7, tn7, r1, r2, ⟨r3, r4⟩, r5, r6, r7, ⟨r8, r9⟩, rA, rB, rC⟩
    · exact RO_f2 r1 r2 E06 g06 r3
    rw [r1, r2]
    rw [e5x] at rB rC
    have E07 := Ex_tr E06 r6 (fun f d hf z => by
      rcases z with z | ⟨z1, _⟩
      · rcases E06.2.2.2.2.2.2 f d hf z with y | y
        · exact .inl y
        · exact y
      · omega)
    have g07 := gF_tr g06 r7
    obtain ⟨⟨i1, i2, i3, i4, i5, i6⟩, ⟨i7, i8⟩, ⟨i9, iA⟩, ⟨iB, iC⟩, ⟨iD, iE⟩, ⟨iF, iG⟩, iH, iI⟩ := r5.2.2.2
    have bM4 : ∀ a i, 51 ≤ a ∧ a ≤ 54 → M4.1 a i = (mv_si M1 53 dp (nI 1)).1 a i := fun a i u => (aM4 a i u).trans (rd_mi (by omega))
    have bN4 : ∀ a i, a = 81 ∨ a = 82 ∨ a = 85 ∨ a = 105 → N4.1 a i = N1.1 a i := fun a i u => (aN4 a i u).trans (rd_mi (by omega))
    have j51 : M7.1 51 dp = nI x := (r8 51 dp (by omega) (by omega)).trans ((bM4 _ _ (by omega)).trans (by simp (disch := omega) only [rd_hi, rd_mi, rd_hl, rd_ml, rd_hr, rd_mr, rd_si2, rd_sl1, rd_sl2, rd_sr1, rd_sr2]; exact s6))
    have j53 : M7.1 53 dp = nI 1 := (r8 53 dp (by omega) (by omega)).trans ((bM4 _ _ (by omega)).trans (by simp (disch := omega) only [rd_hi, rd_mi, rd_hl, rd_ml, rd_hr, rd_mr, rd_si2, rd_sl1, rd_sl2, rd_sr1, rd_sr2]))
    have tD : tk3 N7 t (nI 2) (nI 0) (nI 0) := tk3_s ⟨(eN5 _ _ (by omega)).trans ((bN4 _ _ (by omega)).trans s9.1), (eN5 _ _ (by omega)).trans ((bN4 _ _ (by omega)).trans s9.2.1), (eN5 _ _ (by omega)).trans ((bN4 _ _ (by omega)).trans s9.2.2)⟩ r9 (by omega)
    obtain ⟨S8, E8, g8⟩ := SS_k (M' := mv_si M7 53 dp (nI 2)) (N' := N7) (st' := st7) (dd' := dd7) (t' := t + 1) (kp' := kp) r5 rfl (fun a p u => by unfold kC at u; simp (disch := omega) only [rd_hi, rd_mi, rd_hl, rd_ml, rd_hr, rd_mr, rd_si2, rd_sl1, rd_sl2, rd_sr1, rd_sr2]) rfl (fun a p u => rfl) ⟨⟨i1, i2, i3, i4, by omega, by omega⟩, ⟨by simp (disch := omega) only [rd_hi, rd_mi, rd_hl, rd_ml, rd_hr, rd_mr, rd_si2, rd_sl1, rd_sl2, rd_sr1, rd_sr2]; exact i7, i8⟩, ⟨by simp (disch := omega) only [rd_hi, rd_mi, rd_hl, rd_ml, rd_hr, rd_mr, rd_si2, rd_sl1, rd_sl2, rd_sr1, rd_sr2]; exact iB, iC⟩, ⟨by simp (disch := omega) only [rd_hi, rd_mi, rd_hl, rd_ml, rd_hr, rd_mr, rd_si2, rd_sl1, rd_sl2, rd_sr1, rd_sr2]; exact iD, iE⟩, ⟨by simp (disch := omega) only [rd_hi, rd_mi, rd_hl, rd_ml, rd_hr, rd_mr, rd_si2, rd_sl1, rd_sl2, rd_sr1, rd_sr2]; exact iF, iG⟩, iH, iI⟩
    have w3 : fX2_goOn (nI dp) M7 = some ((), mv_si (mv_si (mv_si M7 53 dp (nI 2)) 7 9 (N7.1 62 78)) 7 8 (nI dp)) := by
      rw [go_call r5.1 hx.2.1 hx.2.2.1 hx.2.2.2.1 j51 h2 k3, ca_1 j53 h2, rA]
      exact c_leave (by simp (disch := omega) only [rd_hi, rd_mi, rd_hl, rd_ml, rd_hr, rd_mr, rd_si2, rd_sl1, rd_sl2, rd_sr1, rd_sr2]; exact iB)
    refine RO_done (v := N7.1 62 78) (tn' := tn7 + 1) S8 tD (Ex_tr E07 (E8 (zo P m M fr x)) (fun _ _ _ z => z)) (gF_tr g07 g8) (fun a i z hi => ?_) ⟨fun a i z hi => ?_, fun i hi => ?_⟩ rfl rB (by rw [← rA]; exact Ex_v (E8 (fun _ _ => False)) rC) (by omega) (by omega) (by omega) (by omega) (W_go (by omega) iB h2 iF w3) rfl
    · simp (disch := omega) only [rd_hi, rd_mi, rd_hl, rd_ml, rd_hr, rd_mr, rd_si2, rd_sl1, rd_sl2, rd_sr1, rd_sr2]
      rw [r8 a i z (by omega), bM4 a i z]
      simp (disch := omega) only [rd_hi, rd_mi, rd_hl, rd_ml, rd_hr, rd_mr, rd_si2, rd_sl1, rd_sl2, rd_sr1, rd_sr2]
      exact s4 a i z hi
    · rw [r9.1 a i z (by omega), eN5 _ _ (by omega), bN4 _ _ (by omega)]
      exact s5.1 a i z hi
    · rw [r9.2 i (by omega), eN5 _ _ (by omega), bN4 _ _ (by omega)]
      exact s5.2 i hi
  · have gN := G_go (hr.trans (by rw [w0, o2, k_bs]))
    have wa := W_go (tn := tn) (by omega) bB' h2 bF (g0.trans (l0.trans o1))
    have he := o3.1
    obtain ⟨e, m', ⟨f1, f2, f3, f4⟩, _⟩ := o3.1
    exact RO_f2 (wa.trans (W_end f1 (by omega) (by omega))) (gN.trans (G_end f2 (by omega) (by omega))) (E03 (fun _ _ => False)) g03 o3
/-- every expression, on both sides -/
theorem ev_all : ∀ k, EV b h P F ND it n k := by
  intro k
  induction k with
  | zero =>
    intro m pr cl ff st mx dp dd t kp tn x fr M N hk hS ht hx ho htn
    exact ev_stop hS ht (by omega)
  | succ k ih =>
    intro m pr cl ff st mx dp dd t kp tn x fr M N hk hS ht hx ho htn
    by_cases h1 : st < mx ∧ dp < 150
    · obtain ⟨h1, h2⟩ := h1
      refine ⟨_, c_enter hS.2.2.2 h1 h2, ?_⟩
      obtain ⟨_, q1, _⟩ := SS_node hS hx
      have q1' := q1
      unfold pN at q1
      rcases q1 with ⟨z, _⟩ | z | ⟨z, _⟩ | ⟨z, _⟩ | ⟨z, _⟩ | ⟨z, _⟩ | ⟨z, _⟩ | ⟨z, _⟩ | ⟨z, _⟩
      · exact ev_num hS ht hx h1 h2 (by omega) z
      · exact ev_fail hS ht hx h1 h2 (by omega) z
      · exact ev_name ih hk hS ht hx ho h1 h2 htn z
      · exact ev_call ih hk hS ht hx ho h1 h2 htn z
      · exact ev_sign ih hk hS ht hx ho h1 h2 htn z
      · exact ev_pair hS ht hx ho h1 h2 htn z
      · exact ev_let ih hk hS ht hx ho h1 h2 htn z
      · exact ev_case ih hk hS ht hx ho h1 h2 htn z
      · exact ev_if ih hk hS ht hx ho h1 h2 htn z
    · exact ev_stop hS ht h1
end RG1
