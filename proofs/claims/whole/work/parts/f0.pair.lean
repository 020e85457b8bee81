/-! RUNS: pairs -/
section RE1
variable {b h F ND n m pr cl pq cq pq' cq' m' pr' cl' m2 pr2 cl2 k t t' fr x st st' mx dp dd dd' kp kp' d tn tn' e i ty y y1 y2 f c c1 c2 c3 s nm p : Nat} {P : Nat → Nat → Nat} {it ff ff' ff2 : Nat → Nat} {M N M' N' M1 N1 M2 N2 M3 N3 : mv_M} {Z Z' : Nat → Nat → Prop} {v op a w r : Int32} {Wt Gt : Option (Unit × mv_M)}
/-- changes that the relation does not read -/
theorem SQ_s (hS : SQ b h P F ND it n m pr cl ff pq cq st mx dp dd t kp M N) (g : gF M N M' N') (eM : sM pr cl M M') (eN : sN pr cl N N') (e7 : ∀ p, p ≠ 4 → M'.1 7 p = M.1 7 p) (e80 : M'.1 8 0 = M.1 8 0) (e62 : ∀ p, p ≠ 68 → p ≠ 69 → N'.1 62 p = N.1 62 p) (h1 : M'.1 8 1 = nI pq' ∧ N'.1 62 68 = nI pq') (h2 : M'.1 7 4 = nI cq' ∧ N'.1 62 69 = nI cq') : SQ b h P F ND it n m pr cl ff pq' cq' st mx dp dd t kp M' N' ∧ ∀ Z, Ex P it n Z m pr cl ff M N m pr cl ff M' N' := by
  obtain ⟨⟨m1, m2⟩, _, _, _⟩ := hS.2.2.1
  obtain ⟨c1, ⟨c7, c8⟩, ⟨c9, cA⟩, ⟨cB, cC⟩, ⟨cD, cE⟩, ⟨cF, cG⟩, cH, cI⟩ := hS.2.2.2
  exact ⟨⟨Pg_F hS.1 g, Cr_s eM eN hS.2.1, ⟨⟨e80.trans m1, (e62 _ (by omega) (by omega)).trans m2⟩, h1, h2⟩, c1, ⟨(e7 _ (by omega)).trans c7, (e62 _ (by omega) (by omega)).trans c8⟩, ⟨(e7 _ (by omega)).trans c9, (e62 _ (by omega) (by omega)).trans cA⟩, ⟨(e7 _ (by omega)).trans cB, (e62 _ (by omega) (by omega)).trans cC⟩, ⟨(e7 _ (by omega)).trans cD, (e62 _ (by omega) (by omega)).trans cE⟩, ⟨(e7 _ (by omega)).trans cF, (e62 _ (by omega) (by omega)).trans cG⟩, (e62 _ (by omega) (by omega)).trans cH, (e62 _ (by omega) (by omega)).trans cI⟩, fun Z => Ex_s eM eN⟩
theorem si_same {a p : Nat} (h0 : M.1 a p = v) : mv_si M a p v = M := by
  refine Prod.ext ?_ rfl
  funext c q
  by_cases u : c = a ∧ q = p
  · rw [rd_hi u, u.1, u.2]; exact h0.symm
  · exact rd_mi u
/-- no room for things: nothing but the end changes -/
theorem c_thing5 (hb : b = 9 ∨ b = 24) (h76 : M.2.2 7 6 = some b) (hN : M.1 b 8 = nI ND) (hc : c < ND) (hN2 : ND ≤ 1000) (e8 : M.1 (b + 8) c = nI s) (hs2 : s < 400) (e9 : s = 2 → ∃ nm, nm < 16 ∧ M.1 (b + 9) c = nI nm) (hf : fr ≤ 1500) (hm : M.1 8 0 = nI 1500) (h5 : M.1 7 2 = nI 5) : ∃ r, fX2_thingFor (nI c) (nI fr) M = some (r, M) := by
  by_cases hs : s = 2
  · obtain ⟨nm, n1, n2⟩ := e9 hs
    exact ⟨_, c_thingN hb h76 hN hc hN2 e8 hs n2 hf n1⟩
  · refine ⟨nN, ?_⟩
    rw [c_thingF hb h76 hN hc hN2 e8 hs hs2 hm, si_same h5]
theorem r_thing5 (e74 : N.1 62 74 = nI 5) : fX11_thing op w N = some (nI 0, N) := by
  unfold fX11_thing
  rw [e74, if_neg (by decide)]
  rfl
theorem go_pair (hP : Pg b h P F ND M N) (hf : f < F) (h1 : P 15 f ≤ x) (h2 : x ≤ P 12 f) (e51 : M.1 51 d = nI x) (hd : d < 150) (hk : P 0 x = 6) : fX2_goOn (nI d) M = fX2_makePair (nI x) (M.1 52 d) M := by
  rw [go_at hP hf h1 h2 e51 hd, if_neg (by omega), if_neg (by omega), if_neg (by omega), if_pos hk]
theorem mp_f (h81 : M.1 8 1 = nI 1500) : fX2_makePair (nI x) w M = some ((), mv_si M 7 2 (nI 5)) := by
  unfold fX2_makePair fX7_addPair
  simp (disch := omega) only [↓reduceIte, h81, k_iT, k_iF, Bool.false_eq_true, eq_self, Nat.add_zero, k_lt', k_bs, k_T, k_F, k_inb, k_ck, k_nz, ↓kN, kL, k_lt, k_le, k_eq, kn_le, kn_lt, kn_eq, kn_le', kn_lt', kn_eq', nI_clamp, nI_add, k_sub, k_mul, k_div, rd_hi, rd_mi, rd_hl, rd_ml, rd_hr, rd_mr, rd_si2, rd_sl1, rd_sl2, rd_sr1, rd_sr2]
theorem mp_0 {r1 r2 : Int32} (hb : b = 9 ∨ b = 24) (h76 : M.2.2 7 6 = some b) (h81 : M.1 8 1 = nI pr) (hp : pr < 1500) (hx : x < 1000) (e9 : M.1 (b + 9) x = nI c1) (T1 : fX2_thingFor (nI c1) (nI fr) (mv_si M 8 1 (nI (pr + 1))) = some (r1, M2)) (h762 : M2.2.2 7 6 = some b) (e10 : M2.1 (b + 10) x = nI c2) (T2 : fX2_thingFor (nI c2) (nI fr) (mv_si M2 60 pr r1) = some (r2, M3)) (e8 : M3.1 7 8 = nI (d + 1)) : fX2_makePair (nI x) (nI fr) M = some ((), mv_si (mv_si (mv_si M3 61 pr r2) 7 9 (nI pr)) 7 8 (nI d)) := by
  have gp : ∀ {γ : Type} (K : Nat → Option γ), mv_getp (some b) K = K b := fun K => gp_b hb
  have cl : ∀ v, fX2_leave v (mv_si M3 61 pr r2) = some ((), mv_si (mv_si (mv_si M3 61 pr r2) 7 9 v) 7 8 (nI d)) := fun v => c_leave (by simp (disch := omega) only [rd_hi, rd_mi, rd_hl, rd_ml, rd_hr, rd_mr, rd_si2, rd_sl1, rd_sl2, rd_sr1, rd_sr2]; exact e8)
  unfold fX2_makePair fX7_addPair
  simp (disch := omega) only [↓reduceIte, h81, Nat.add_sub_cancel, h76, gp, e9, T1, h762, e10, T2, cl, k_iT, k_iF, Bool.false_eq_true, eq_self, Nat.add_zero, k_lt', k_bs, k_T, k_F, k_inb, k_ck, k_nz, ↓kN, kL, k_lt, k_le, k_eq, kn_le, kn_lt, kn_eq, kn_le', kn_lt', kn_eq', nI_clamp, nI_add, k_sub, k_mul, k_div, rd_hi, rd_mi, rd_hl, rd_ml, rd_hr, rd_mr, rd_si2, rd_sl1, rd_sl2, rd_sr1, rd_sr2]
theorem wk_9f (h71 : N.1 71 y = nI 9) (hy : y < 2002) (h68 : N.1 62 68 = nI 1500) : wkR (nI y) w N = some ((), mv_si N 62 74 (nI 5)) := by
  unfold wkR fX11_paired
  simp (disch := omega) only [↓reduceIte, h71, h68, k_iT, k_iF, Bool.false_eq_true, eq_self, Nat.add_zero, k_lt', k_bs, k_T, k_F, k_inb, k_ck, k_nz, ↓kN, kL, k_lt, k_le, k_eq, kn_le, kn_lt, kn_eq, kn_le', kn_lt', kn_eq', nI_clamp, nI_add, k_sub, k_mul, k_div, rd_hi, rd_mi, rd_hl, rd_ml, rd_hr, rd_mr, rd_si2, rd_sl1, rd_sl2, rd_sr1, rd_sr2]
theorem wk_9 {r1 r2 : Int32} (h71 : N.1 71 y = nI 9) (hy : y < 2002) (h68 : N.1 62 68 = nI pr) (hp : pr < 1500) (e72 : N.1 72 y = nI y1) (T1 : fX11_thing (nI y1) (nI fr) (mv_si N 62 68 (nI (pr + 1))) = some (r1, N2)) (e73 : N2.1 73 y = nI y2) (T2 : fX11_thing (nI y2) (nI fr) (mv_si N2 101 pr r1) = some (r2, N3)) : wkR (nI y) (nI fr) N = some ((), mv_si (mv_si (mv_si N3 102 pr r2) 62 77 (nI 1)) 62 78 (nI pr)) := by
  unfold wkR fX11_paired fX11_gives
  simp (disch := omega) only [↓reduceIte, h71, h68, e72, T1, e73, T2, k_iT, k_iF, Bool.false_eq_true, eq_self, Nat.add_zero, k_lt', k_bs, k_T, k_F, k_inb, k_ck, k_nz, ↓kN, kL, k_lt, k_le, k_eq, kn_le, kn_lt, kn_eq, kn_le', kn_lt', kn_eq', nI_clamp, nI_add, k_sub, k_mul, k_div, rd_hi, rd_mi, rd_hl, rd_ml, rd_hr, rd_mr, rd_si2, rd_sl1, rd_sl2, rd_sr1, rd_sr2]
theorem ev_pair (hS : SS b h P F ND it n m pr cl ff st mx dp dd (t + 1) kp M N) (hk : tk3 N t (nI 1) (nI (P 6 x)) (nI fr)) (hx : xX P F it n m cl ff M N x fr) (ho : ∀ c, P 7 x ≤ c → c ≤ x → ¬ Ow P m M fr c) (h1 : st < mx) (h2 : dp < 150) (htn : tn + 3 * (mx - st) < 1000000) (k3 : P 0 x = 6) : RO b h P F ND it n (zo P m M fr x) m pr cl ff st mx dp t kp (P 5 x) tn M N (fX2_workOut_8 (nI tn) (eW M x fr st dp dd)) (fX11_goes_0 N) := by
  have hc' := hS.2.2.2
  have hW := hS.1.1
  have hs := hS.1.2.1
  have hb := hS.1.2.2.1.1
  have bd := hS.2.2.2.1
  have hfr := hx.1
  obtain ⟨s1, s2, s3, s4, s5, ⟨s6, s7, s8⟩, s9⟩ := j_enter (x := x) (fr := fr) hS h1 h2
  generalize hM1 : eW M x fr st dp dd = M1 at s1 s2 s3 s4 s6 s7 s8 ⊢
  have hr := r_enter hc' h1 h2 hk
  generalize hN1 : eR N st dp dd t = N1 at s1 s2 s3 s5 s9 hr
  generalize hdd : max dd (dp + 1) = dd1 at s1
  have hx1 := Ex_x (s2 (fun _ _ => False)) hx
  obtain ⟨⟨x1, x2, x3, x4, x5, x6⟩, q1, q2, q3, q4⟩ := SS_node s1 hx1
  obtain ⟨p1, p2, p3, p4, p5⟩ := pN_pair q1 k3
  obtain ⟨a1, a2⟩ := q2.2.1 (.inr k3)
  obtain ⟨y9, y10, y72, y73⟩ := q3.2.2.2.2.2.2.2.2.1 (by omega)
  have e71 : N1.1 71 (P 6 x) = nI 9 := by rw [q3.2.2.2.1, k3]; rfl
  obtain ⟨⟨b1, b2, b3, b4, b5, b6⟩, ⟨b7, b8⟩, ⟨b9, bA⟩, ⟨bB, bC⟩, ⟨bD, bE⟩, ⟨bF, bG⟩, bH, bI⟩ := s1.2.2.2
  obtain ⟨⟨m1, m2⟩, ⟨m3, m4⟩, m5, m6⟩ := s1.2.2.1
  have pr1 := in_seg hW hx.2.1 hx.2.2.1 hx.2.2.2.1 p1
  have pr2 := in_seg hW hx.2.1 hx.2.2.1 hx.2.2.2.1 p2
  have l1 := q4 _ p1.1 (Nat.le_of_lt p1.2.1)
  have l2 := q4 _ p2.1 (Nat.le_of_lt p2.2.1)
  have lc2 := lam_at hW hx.2.1 pr2.1 pr2.2
  have n1 := p1.2.1
  have n2 := p2.2.1
  have g0 := go_pair s1.1 hx.2.1 hx.2.2.1 hx.2.2.2.1 s6 h2 k3
  rw [s7] at g0
  by_cases hpr : pr = 1500
  · subst hpr
    have gN := G_go (hr.trans (by rw [wk_9f e71 x6 m4, k_bs]))
    have wa := W_go (tn := tn) (by omega) bB h2 bF (g0.trans (mp_f m3))
    exact RO_f2 (wa.trans (W_end (e := 5) (by simp (disch := omega) only [rd_hi, rd_mi, rd_hl, rd_ml, rd_hr, rd_mr, rd_si2, rd_sl1, rd_sl2, rd_sr1, rd_sr2]) (by omega) (by omega))) (gN.trans (G_end (e := 5) (by simp (disch := omega) only [rd_hi, rd_mi, rd_hl, rd_ml, rd_hr, rd_mr, rd_si2, rd_sl1, rd_sl2, rd_sr1, rd_sr2]) (by omega) (by omega))) (s2 (fun _ _ => False)) s3 (Fn_c (e := 5) s1 rfl (fun a p u => by unfold kC at u; simp (disch := omega) only [rd_hi, rd_mi, rd_hl, rd_ml, rd_hr, rd_mr, rd_si2, rd_sl1, rd_sl2, rd_sr1, rd_sr2]) rfl (fun a p u => by unfold kR' at u; simp (disch := omega) only [rd_hi, rd_mi, rd_hl, rd_ml, rd_hr, rd_mr, rd_si2, rd_sl1, rd_sl2, rd_sr1, rd_sr2]) (by simp (disch := omega) only [rd_hi, rd_mi, rd_hl, rd_ml, rd_hr, rd_mr, rd_si2, rd_sl1, rd_sl2, rd_sr1, rd_sr2]) (by simp (disch := omega) only [rd_hi, rd_mi, rd_hl, rd_ml, rd_hr, rd_mr, rd_si2, rd_sl1, rd_sl2, rd_sr1, rd_sr2]) (by omega) (by simp (disch := omega) only [rd_hi, rd_mi, rd_hl, rd_ml, rd_hr, rd_mr, rd_si2, rd_sl1, rd_sl2, rd_sr1, rd_sr2]; rw [b7, b8]) (by simp (disch := omega) only [rd_hi, rd_mi, rd_hl, rd_ml, rd_hr, rd_mr, rd_si2, rd_sl1, rd_sl2, rd_sr1, rd_sr2]; rw [bD, bE]))
  have hpb : pr < 1500 := by have := s1.2.1.1.2.1; omega
  -- the count
  have gc : gF M1 N1 (mv_si M1 8 1 (nI (pr + 1))) (mv_si N1 62 68 (nI (pr + 1))) := ⟨⟨rfl, fun a p u => by unfold cAr at u; simp (disch := omega) only [rd_hi, rd_mi, rd_hl, rd_ml, rd_hr, rd_mr, rd_si2, rd_sl1, rd_sl2, rd_sr1, rd_sr2]⟩, rfl, fun a p u => by unfold rAr at u; simp (disch := omega) only [rd_hi, rd_mi, rd_hl, rd_ml, rd_hr, rd_mr, rd_si2, rd_sl1, rd_sl2, rd_sr1, rd_sr2]⟩
  obtain ⟨S2, E2⟩ := SQ_s (pq' := pr + 1) (cq' := cl) s1 gc (fun a p u => by simp (disch := omega) only [rd_hi, rd_mi, rd_hl, rd_ml, rd_hr, rd_mr, rd_si2, rd_sl1, rd_sl2, rd_sr1, rd_sr2]) (fun a p u => by simp (disch := omega) only [rd_hi, rd_mi, rd_hl, rd_ml, rd_hr, rd_mr, rd_si2, rd_sl1, rd_sl2, rd_sr1, rd_sr2]) (fun p u => by simp (disch := omega) only [rd_hi, rd_mi, rd_hl, rd_ml, rd_hr, rd_mr, rd_si2, rd_sl1, rd_sl2, rd_sr1, rd_sr2]) (by simp (disch := omega) only [rd_hi, rd_mi, rd_hl, rd_ml, rd_hr, rd_mr, rd_si2, rd_sl1, rd_sl2, rd_sr1, rd_sr2]) (fun p u1 u2 => by simp (disch := omega) only [rd_hi, rd_mi, rd_hl, rd_ml, rd_hr, rd_mr, rd_si2, rd_sl1, rd_sl2, rd_sr1, rd_sr2]) ⟨by simp (disch := omega) only [rd_hi, rd_mi, rd_hl, rd_ml, rd_hr, rd_mr, rd_si2, rd_sl1, rd_sl2, rd_sr1, rd_sr2], by simp (disch := omega) only [rd_hi, rd_mi, rd_hl, rd_ml, rd_hr, rd_mr, rd_si2, rd_sl1, rd_sl2, rd_sr1, rd_sr2]⟩ ⟨by simp (disch := omega) only [rd_hi, rd_mi, rd_hl, rd_ml, rd_hr, rd_mr, rd_si2, rd_sl1, rd_sl2, rd_sr1, rd_sr2]; exact m5, by simp (disch := omega) only [rd_hi, rd_mi, rd_hl, rd_ml, rd_hr, rd_mr, rd_si2, rd_sl1, rd_sl2, rd_sr1, rd_sr2]; exact m6⟩
  have E02 : ∀ Z, Ex P it n Z m pr cl ff M N m pr cl ff (mv_si M1 8 1 (nI (pr + 1))) (mv_si N1 62 68 (nI (pr + 1))) := fun Z => Ex_tr (s2 Z) (E2 Z) (fun _ _ _ z => z)
  have g02 := gF_tr s3 gc
  have hx2 := Ex_x (E02 (fun _ _ => False)) hx
  have xa := xX_sub hW hs hx2 p1.1 p1.2.1 (fun k k1 k2 => by have := lc2 k (by omega) (by omega); omega) (.inl (by omega))
  have ho2 : ∀ c, P 7 (P 1 x) ≤ c → c ≤ P 1 x → ¬ Ow P m (mv_si M1 8 1 (nI (pr + 1))) fr c := fun c u1 u2 => Ow_k E02 hfr (ho c (by omega) (by omega))
  rcases j_thing S2 xa ho2 with ⟨k1, M3, N3, m3', T1, T2, S3, E3, g3, oT3, eM3, eN3⟩ | ⟨hm5, T1, T2⟩
  · -- the first is there
    have gw : gF M3 N3 (mv_si M3 60 pr (nI k1)) (mv_si N3 101 pr (nI (fi k1))) := ⟨⟨rfl, fun a p u => by unfold cAr at u; simp (disch := omega) only [rd_hi, rd_mi, rd_hl, rd_ml, rd_hr, rd_mr, rd_si2, rd_sl1, rd_sl2, rd_sr1, rd_sr2]⟩, rfl, fun a p u => by unfold rAr at u; simp (disch := omega) only [rd_hi, rd_mi, rd_hl, rd_ml, rd_hr, rd_mr, rd_si2, rd_sl1, rd_sl2, rd_sr1, rd_sr2]⟩
    obtain ⟨⟨u1, u2⟩, ⟨u3, u4⟩, u5, u6⟩ := S3.2.2.1
    obtain ⟨S4, E4⟩ := SQ_s (pq' := pr + 1) (cq' := cl) S3 gw (fun a p u => by simp (disch := omega) only [rd_hi, rd_mi, rd_hl, rd_ml, rd_hr, rd_mr, rd_si2, rd_sl1, rd_sl2, rd_sr1, rd_sr2]) (fun a p u => by simp (disch := omega) only [rd_hi, rd_mi, rd_hl, rd_ml, rd_hr, rd_mr, rd_si2, rd_sl1, rd_sl2, rd_sr1, rd_sr2]) (fun p u => by simp (disch := omega) only [rd_hi, rd_mi, rd_hl, rd_ml, rd_hr, rd_mr, rd_si2, rd_sl1, rd_sl2, rd_sr1, rd_sr2]) (by simp (disch := omega) only [rd_hi, rd_mi, rd_hl, rd_ml, rd_hr, rd_mr, rd_si2, rd_sl1, rd_sl2, rd_sr1, rd_sr2]) (fun p u1 u2 => by simp (disch := omega) only [rd_hi, rd_mi, rd_hl, rd_ml, rd_hr, rd_mr, rd_si2, rd_sl1, rd_sl2, rd_sr1, rd_sr2]) ⟨by simp (disch := omega) only [rd_hi, rd_mi, rd_hl, rd_ml, rd_hr, rd_mr, rd_si2, rd_sl1, rd_sl2, rd_sr1, rd_sr2]; exact u3, by simp (disch := omega) only [rd_hi, rd_mi, rd_hl, rd_ml, rd_hr, rd_mr, rd_si2, rd_sl1, rd_sl2, rd_sr1, rd_sr2]; exact u4⟩ ⟨by simp (disch := omega) only [rd_hi, rd_mi, rd_hl, rd_ml, rd_hr, rd_mr, rd_si2, rd_sl1, rd_sl2, rd_sr1, rd_sr2]; exact u5, by simp (disch := omega) only [rd_hi, rd_mi, rd_hl, rd_ml, rd_hr, rd_mr, rd_si2, rd_sl1, rd_sl2, rd_sr1, rd_sr2]; exact u6⟩
    have E03 : Ex P it n (zo P m M fr x) m pr cl ff M N m3' pr cl ff M3 N3 := Ex_tr (E02 _) E3 (fun f c _ z => .inr ⟨z.1, by omega, by omega⟩)
    have E04 := Ex_tr E03 (E4 (zo P m M fr x)) (fun _ _ _ z => z)
    have g04 := gF_tr (gF_tr g02 g3) gw
    have hx4 := Ex_x E04 hx
    have xb := xX_sub hW hs hx4 p2.1 p2.2.1 (fun k k1 k2 => by omega) (.inl (by omega))
    have ho4 : ∀ c, P 7 (P 2 x) ≤ c → c ≤ P 2 x → ¬ Ow P m3' (mv_si M3 60 pr (nI k1)) fr c := by
      intro c v1 v2
      refine Ow_k E4 hfr (fun z => ?_)
      rcases E3.2.2.2.2.2.2 fr c hfr z with y | ⟨_, y, y'⟩
      · exact Ow_k E02 hfr (ho c (by omega) (by omega)) y
      · omega
    have f10 : M3.1 (b + 10) x = nI (P 2 x) := (eM3 _ _ (by omega) (by omega)).trans (by simp (disch := omega) only [rd_hi, rd_mi, rd_hl, rd_ml, rd_hr, rd_mr, rd_si2, rd_sl1, rd_sl2, rd_sr1, rd_sr2]; exact y10)
    have f73 : N3.1 73 (P 6 x) = nI (P 6 (P 2 x)) := (eN3 _ _ (by omega) (by omega)).trans (by simp (disch := omega) only [rd_hi, rd_mi, rd_hl, rd_ml, rd_hr, rd_mr, rd_si2, rd_sl1, rd_sl2, rd_sr1, rd_sr2]; exact y73)
    have aM3 : ∀ a p, ¬ a = 8 → ¬ (55 ≤ a ∧ a ≤ 59) → M3.1 a p = M1.1 a p := fun a p v1 v2 => (eM3 a p (by omega) (by omega)).trans (by simp (disch := omega) only [rd_hi, rd_mi, rd_hl, rd_ml, rd_hr, rd_mr, rd_si2, rd_sl1, rd_sl2, rd_sr1, rd_sr2])
    have aN3 : ∀ a p, ¬ (a = 62 ∧ (p = 67 ∨ p = 68)) → ¬ (95 ≤ a ∧ a ≤ 100) → N3.1 a p = N1.1 a p := fun a p v1 v2 => (eN3 a p (by omega) (by omega)).trans (by simp (disch := omega) only [rd_hi, rd_mi, rd_hl, rd_ml, rd_hr, rd_mr, rd_si2, rd_sl1, rd_sl2, rd_sr1, rd_sr2])
    rcases j_thing S4 xb ho4 with ⟨k2, M5, N5, m5', T3, T4, S5, E5, g5, oT5, eM5, eN5⟩ | ⟨hm5, T3, T4⟩
    · -- both are there
      have aM5 : ∀ a p, ¬ a = 8 → ¬ (55 ≤ a ∧ a ≤ 60) → M5.1 a p = M1.1 a p := fun a p v1 v2 => (eM5 a p (by omega) (by omega)).trans ((rd_mi (by omega)).trans (aM3 a p v1 (by omega)))
      have aN5 : ∀ a p, ¬ (a = 62 ∧ (p = 67 ∨ p = 68)) → ¬ (95 ≤ a ∧ a ≤ 101) → N5.1 a p = N1.1 a p := fun a p v1 v2 => (eN5 a p (by omega) (by omega)).trans ((rd_mi (by omega)).trans (aN3 a p (by omega) (by omega)))
      have w1 := mp_0 (fr := fr) (d := dp) hb s1.1.2.2.2 m3 hpb (by omega) y9 T1 S3.1.2.2.2 f10 T3 ((aM5 _ _ (by omega) (by omega)).trans bB)
      have w2 := wk_9 (fr := fr) e71 x6 m4 hpb y72 T2 f73 T4
      have gN := G_go (hr.trans (by rw [w2, k_bs]))
      have wa := W_go (tn := tn) (by omega) bB h2 bF (g0.trans w1)
      have gw2 : gF M5 N5 (mv_si M5 61 pr (nI k2)) (mv_si N5 102 pr (nI (fi k2))) := ⟨⟨rfl, fun a p u => by unfold cAr at u; simp (disch := omega) only [rd_hi, rd_mi, rd_hl, rd_ml, rd_hr, rd_mr, rd_si2, rd_sl1, rd_sl2, rd_sr1, rd_sr2]⟩, rfl, fun a p u => by unfold rAr at u; simp (disch := omega) only [rd_hi, rd_mi, rd_hl, rd_ml, rd_hr, rd_mr, rd_si2, rd_sl1, rd_sl2, rd_sr1, rd_sr2]⟩
      obtain ⟨⟨t1, t2⟩, ⟨t3, t4⟩, t5, t6⟩ := S5.2.2.1
      obtain ⟨S6, E6⟩ := SQ_s (pq' := pr + 1) (cq' := cl) S5 gw2 (fun a p u => by simp (disch := omega) only [rd_hi, rd_mi, rd_hl, rd_ml, rd_hr, rd_mr, rd_si2, rd_sl1, rd_sl2, rd_sr1, rd_sr2]) (fun a p u => by simp (disch := omega) only [rd_hi, rd_mi, rd_hl, rd_ml, rd_hr, rd_mr, rd_si2, rd_sl1, rd_sl2, rd_sr1, rd_sr2]) (fun p u => by simp (disch := omega) only [rd_hi, rd_mi, rd_hl, rd_ml, rd_hr, rd_mr, rd_si2, rd_sl1, rd_sl2, rd_sr1, rd_sr2]) (by simp (disch := omega) only [rd_hi, rd_mi, rd_hl, rd_ml, rd_hr, rd_mr, rd_si2, rd_sl1, rd_sl2, rd_sr1, rd_sr2]) (fun p u1 u2 => by simp (disch := omega) only [rd_hi, rd_mi, rd_hl, rd_ml, rd_hr, rd_mr, rd_si2, rd_sl1, rd_sl2, rd_sr1, rd_sr2]) ⟨by simp (disch := omega) only [rd_hi, rd_mi, rd_hl, rd_ml, rd_hr, rd_mr, rd_si2, rd_sl1, rd_sl2, rd_sr1, rd_sr2]; exact t3, by simp (disch := omega) only [rd_hi, rd_mi, rd_hl, rd_ml, rd_hr, rd_mr, rd_si2, rd_sl1, rd_sl2, rd_sr1, rd_sr2]; exact t4⟩ ⟨by simp (disch := omega) only [rd_hi, rd_mi, rd_hl, rd_ml, rd_hr, rd_mr, rd_si2, rd_sl1, rd_sl2, rd_sr1, rd_sr2]; exact t5, by simp (disch := omega) only [rd_hi, rd_mi, rd_hl, rd_ml, rd_hr, rd_mr, rd_si2, rd_sl1, rd_sl2, rd_sr1, rd_sr2]; exact t6⟩
      obtain ⟨C7, E7⟩ := Cr_pr (Z := zo P m M fr x) S6.2.1 hpb
      have S7 : SS b h P F ND it n m5' (pr + 1) cl ff (st + 1) mx (dp + 1) dd1 (t + 1) kp (mv_si M5 61 pr (nI k2)) (mv_si N5 102 pr (nI (fi k2))) := ⟨S6.1, C7, S6.2.2.1, S6.2.2.2⟩
      have E05 : Ex P it n (zo P m M fr x) m pr cl ff M N m5' pr cl ff M5 N5 := Ex_tr E04 E5 (fun f c _ z => .inr ⟨z.1, by omega, by omega⟩)
      have E07 := Ex_tr (Ex_tr E05 (E6 (zo P m M fr x)) (fun _ _ _ z => z)) E7 (fun _ _ _ z => z)
      have g07 := gF_tr (gF_tr g04 g5) gw2
      have hv : vV P it n m5' (pr + 1) (mv_si M5 61 pr (nI k2)) (mv_si N5 102 pr (nI (fi k2))) (nI pr) (P 5 x) := by
        refine .inr ⟨pr, k1, k2, rfl, .inl (by omega), ?_, by simp (disch := omega) only [rd_hi, rd_mi, rd_hl, rd_ml, rd_hr, rd_mr, rd_si2, rd_sl1, rd_sl2, rd_sr1, rd_sr2], ?_, by simp (disch := omega) only [rd_hi, rd_mi, rd_hl, rd_ml, rd_hr, rd_mr, rd_si2, rd_sl1, rd_sl2, rd_sr1, rd_sr2], ?_, ?_⟩
        · simp (disch := omega) only [rd_hi, rd_mi, rd_hl, rd_ml, rd_hr, rd_mr, rd_si2, rd_sl1, rd_sl2, rd_sr1, rd_sr2]; rw [eM5 _ _ (by omega) (by omega)]; simp (disch := omega) only [rd_hi, rd_mi, rd_hl, rd_ml, rd_hr, rd_mr, rd_si2, rd_sl1, rd_sl2, rd_sr1, rd_sr2]
        · simp (disch := omega) only [rd_hi, rd_mi, rd_hl, rd_ml, rd_hr, rd_mr, rd_si2, rd_sl1, rd_sl2, rd_sr1, rd_sr2]; rw [eN5 _ _ (by omega) (by omega)]; simp (disch := omega) only [rd_hi, rd_mi, rd_hl, rd_ml, rd_hr, rd_mr, rd_si2, rd_sl1, rd_sl2, rd_sr1, rd_sr2]
        · rw [show (P 5 x - 1) / 2 = P 5 (P 1 x) by omega]
          exact Ex_o (E6 (fun _ _ => False)) (Ex_o E5 (Ex_o (E4 (fun _ _ => False)) oT3))
        · rw [show (P 5 x - 1) % 2 = P 5 (P 2 x) by omega]
          exact Ex_o (E6 (fun _ _ => False)) oT5
      obtain ⟨⟨d1, d2, d3, d4, d5, d6⟩, ⟨d7, d8⟩, ⟨d9, dA⟩, ⟨dB, dC⟩, ⟨dD, dE⟩, ⟨dF, dG⟩, dH, dI⟩ := S7.2.2.2
      have aM7 : ∀ a i, 51 ≤ a ∧ a ≤ 54 → (mv_si M5 61 pr (nI k2)).1 a i = M1.1 a i := fun a i u => (rd_mi (by omega)).trans (aM5 a i (by omega) (by omega))
      have aN7 : ∀ a i, a = 81 ∨ a = 82 ∨ a = 85 ∨ a = 105 → (mv_si N5 102 pr (nI (fi k2))).1 a i = N1.1 a i := fun a i u => (rd_mi (by omega)).trans (aN5 a i (by omega) (by omega))
      generalize mv_si M5 61 pr (nI k2) = M7 at S7 E07 g07 hv d7 d9 dB dD dF aM7 wa
      generalize mv_si N5 102 pr (nI (fi k2)) = N7 at S7 E07 g07 hv d8 dA dC dE dG dH dI aN7 gN
      obtain ⟨S8, E8, g8⟩ := SS_k (M' := M7) (N' := mv_si (mv_si N7 62 77 (nI 1)) 62 78 (nI pr)) (st' := st + 1) (dd' := dd1) (t' := t + 1) (kp' := kp) S7 rfl (fun a p u => rfl) rfl (fun a p u => by unfold kR' at u; simp (disch := omega) only [rd_hi, rd_mi, rd_hl, rd_ml, rd_hr, rd_mr, rd_si2, rd_sl1, rd_sl2, rd_sr1, rd_sr2]) ⟨⟨d1, d2, d3, d4, by omega, d6⟩, ⟨d7, by simp (disch := omega) only [rd_hi, rd_mi, rd_hl, rd_ml, rd_hr, rd_mr, rd_si2, rd_sl1, rd_sl2, rd_sr1, rd_sr2]; exact d8⟩, ⟨dB, by simp (disch := omega) only [rd_hi, rd_mi, rd_hl, rd_ml, rd_hr, rd_mr, rd_si2, rd_sl1, rd_sl2, rd_sr1, rd_sr2]; exact dC⟩, ⟨dD, by simp (disch := omega) only [rd_hi, rd_mi, rd_hl, rd_ml, rd_hr, rd_mr, rd_si2, rd_sl1, rd_sl2, rd_sr1, rd_sr2]; exact dE⟩, ⟨dF, by simp (disch := omega) only [rd_hi, rd_mi, rd_hl, rd_ml, rd_hr, rd_mr, rd_si2, rd_sl1, rd_sl2, rd_sr1, rd_sr2]; exact dG⟩, by simp (disch := omega) only [rd_hi, rd_mi, rd_hl, rd_ml, rd_hr, rd_mr, rd_si2, rd_sl1, rd_sl2, rd_sr1, rd_sr2]; exact dH, by simp (disch := omega) only [rd_hi, rd_mi, rd_hl, rd_ml, rd_hr, rd_mr, rd_si2, rd_sl1, rd_sl2, rd_sr1, rd_sr2]; exact dI⟩
      have hk1 : kD (P 5 x) = 1 := if_neg (by omega)
      refine RO_done (v := nI pr) (tn' := tn + 1) S8 ⟨by simp (disch := omega) only [rd_hi, rd_mi, rd_hl, rd_ml, rd_hr, rd_mr, rd_si2, rd_sl1, rd_sl2, rd_sr1, rd_sr2]; rw [aN7 _ _ (by omega)]; exact s9.1, by simp (disch := omega) only [rd_hi, rd_mi, rd_hl, rd_ml, rd_hr, rd_mr, rd_si2, rd_sl1, rd_sl2, rd_sr1, rd_sr2]; rw [aN7 _ _ (by omega)]; exact s9.2.1, by simp (disch := omega) only [rd_hi, rd_mi, rd_hl, rd_ml, rd_hr, rd_mr, rd_si2, rd_sl1, rd_sl2, rd_sr1, rd_sr2]; rw [aN7 _ _ (by omega)]; exact s9.2.2⟩ (Ex_tr E07 (E8 (zo P m M fr x)) (fun _ _ _ z => z)) (gF_tr g07 g8) (fun a i z hi => by rw [aM7 a i z]; exact s4 a i z hi) ⟨fun a i z hi => by simp (disch := omega) only [rd_hi, rd_mi, rd_hl, rd_ml, rd_hr, rd_mr, rd_si2, rd_sl1, rd_sl2, rd_sr1, rd_sr2]; rw [aN7 _ _ (by omega)]; exact s5.1 a i z hi, fun i hi => by simp (disch := omega) only [rd_hi, rd_mi, rd_hl, rd_ml, rd_hr, rd_mr, rd_si2, rd_sl1, rd_sl2, rd_sr1, rd_sr2]; rw [aN7 _ _ (by omega)]; exact s5.2 i hi⟩ (by simp (disch := omega) only [rd_hi, rd_mi, rd_hl, rd_ml, rd_hr, rd_mr, rd_si2, rd_sl1, rd_sl2, rd_sr1, rd_sr2]) (by simp (disch := omega) only [rd_hi, rd_mi, rd_hl, rd_ml, rd_hr, rd_mr, rd_si2, rd_sl1, rd_sl2, rd_sr1, rd_sr2]; rw [hk1]) (Ex_v (E8 (fun _ _ => False)) hv) (by omega) (by omega) (by omega) (by omega) wa gN
    · -- no room for the second
      have w1 := mp_0 (fr := fr) (d := dp) hb s1.1.2.2.2 m3 hpb (by omega) y9 T1 S3.1.2.2.2 f10 T3 (by simp (disch := omega) only [rd_hi, rd_mi, rd_hl, rd_ml, rd_hr, rd_mr, rd_si2, rd_sl1, rd_sl2, rd_sr1, rd_sr2]; exact (aM3 _ _ (by omega) (by omega)).trans bB)
      have w2 := wk_9 (fr := fr) e71 x6 m4 hpb y72 T2 f73 T4
      have gN := G_go (hr.trans (by rw [w2, k_bs]))
      have wa := W_go (tn := tn) (by omega) bB h2 bF (g0.trans w1)
      refine RO_f2 (wa.trans (W_end (e := 5) (by simp (disch := omega) only [rd_hi, rd_mi, rd_hl, rd_ml, rd_hr, rd_mr, rd_si2, rd_sl1, rd_sl2, rd_sr1, rd_sr2]) (by omega) (by omega))) (gN.trans (G_end (e := 5) (by simp (disch := omega) only [rd_hi, rd_mi, rd_hl, rd_ml, rd_hr, rd_mr, rd_si2, rd_sl1, rd_sl2, rd_sr1, rd_sr2]) (by omega) (by omega))) E04 g04 (Fn_g (e := 5) S4 ⟨⟨rfl, fun a p u => by unfold cAr at u; simp (disch := omega) only [rd_hi, rd_mi, rd_hl, rd_ml, rd_hr, rd_mr, rd_si2, rd_sl1, rd_sl2, rd_sr1, rd_sr2]⟩, rfl, fun a p u => by unfold rAr at u; simp (disch := omega) only [rd_hi, rd_mi, rd_hl, rd_ml, rd_hr, rd_mr, rd_si2, rd_sl1, rd_sl2, rd_sr1, rd_sr2]⟩ (fun k => by simp (disch := omega) only [rd_hi, rd_mi, rd_hl, rd_ml, rd_hr, rd_mr, rd_si2, rd_sl1, rd_sl2, rd_sr1, rd_sr2]) (fun k => by simp (disch := omega) only [rd_hi, rd_mi, rd_hl, rd_ml, rd_hr, rd_mr, rd_si2, rd_sl1, rd_sl2, rd_sr1, rd_sr2]) (by simp (disch := omega) only [rd_hi, rd_mi, rd_hl, rd_ml, rd_hr, rd_mr, rd_si2, rd_sl1, rd_sl2, rd_sr1, rd_sr2]) (by simp (disch := omega) only [rd_hi, rd_mi, rd_hl, rd_ml, rd_hr, rd_mr, rd_si2, rd_sl1, rd_sl2, rd_sr1, rd_sr2]) (by simp (disch := omega) only [rd_hi, rd_mi, rd_hl, rd_ml, rd_hr, rd_mr, rd_si2, rd_sl1, rd_sl2, rd_sr1, rd_sr2]; rw [u3, u4]) (by simp (disch := omega) only [rd_hi, rd_mi, rd_hl, rd_ml, rd_hr, rd_mr, rd_si2, rd_sl1, rd_sl2, rd_sr1, rd_sr2]; rw [u5, u6]) (by simp (disch := omega) only [rd_hi, rd_mi, rd_hl, rd_ml, rd_hr, rd_mr, rd_si2, rd_sl1, rd_sl2, rd_sr1, rd_sr2]) (by simp (disch := omega) only [rd_hi, rd_mi, rd_hl, rd_ml, rd_hr, rd_mr, rd_si2, rd_sl1, rd_sl2, rd_sr1, rd_sr2]) (by omega) ?_ ?_ (fun nm u1 u2 => by simp (disch := omega) only [rd_hi, rd_mi, rd_hl, rd_ml, rd_hr, rd_mr, rd_si2, rd_sl1, rd_sl2, rd_sr1, rd_sr2]))
      · simp (disch := omega) only [rd_hi, rd_mi, rd_hl, rd_ml, rd_hr, rd_mr, rd_si2, rd_sl1, rd_sl2, rd_sr1, rd_sr2]; rw [aM3 _ _ (by omega) (by omega), aN3 _ _ (by omega) (by omega), b7, b8]
      · simp (disch := omega) only [rd_hi, rd_mi, rd_hl, rd_ml, rd_hr, rd_mr, rd_si2, rd_sl1, rd_sl2, rd_sr1, rd_sr2]; rw [aM3 _ _ (by omega) (by omega), aN3 _ _ (by omega) (by omega), bD, bE]
  · -- no room for the first
    have pn2 := ((hW.2.2.2 _ hx.2.1).2.2.2.2.2.2.2.2.2 _ pr2.1 pr2.2).2.2.2.2.2
    have mn2 := (s1.1.2.2.1.2.2.2.2.2 _ hx.2.1).2.2.2 _ pr2.1 pr2.2
    have h16 := (hW.2.2.2 _ hx.2.1).2.2.1
    have hN8 := s1.1.2.2.1.2.2.2.1
    have hk400 : P 0 (P 2 x) < 400 := by
      unfold pN sgK at pn2
      omega
    subst hm5
    obtain ⟨r, T3⟩ := c_thing5 (M := mv_si (mv_si (mv_si M1 8 1 (nI (pr + 1))) 7 2 (nI 5)) 60 pr nN) (c := P 2 x) (fr := fr) (s := P 0 (P 2 x)) hb s1.1.2.2.2 (by simp (disch := omega) only [rd_hi, rd_mi, rd_hl, rd_ml, rd_hr, rd_mr, rd_si2, rd_sl1, rd_sl2, rd_sr1, rd_sr2]; exact hN8) (show P 2 x < ND by omega) x2 (by simp (disch := omega) only [rd_hi, rd_mi, rd_hl, rd_ml, rd_hr, rd_mr, rd_si2, rd_sl1, rd_sl2, rd_sr1, rd_sr2]; exact mn2.1) hk400 (fun z => ⟨P 1 (P 2 x), by have := (pN_name pn2 z).1; omega, by simp (disch := omega) only [rd_hi, rd_mi, rd_hl, rd_ml, rd_hr, rd_mr, rd_si2, rd_sl1, rd_sl2, rd_sr1, rd_sr2]; exact (mn2.2.2.2.2.2.2.1 z).1⟩) x5 (by simp (disch := omega) only [rd_hi, rd_mi, rd_hl, rd_ml, rd_hr, rd_mr, rd_si2, rd_sl1, rd_sl2, rd_sr1, rd_sr2]; exact m1) (by simp (disch := omega) only [rd_hi, rd_mi, rd_hl, rd_ml, rd_hr, rd_mr, rd_si2, rd_sl1, rd_sl2, rd_sr1, rd_sr2])
    have T4 := r_thing5 (op := nI (P 6 (P 2 x))) (w := nI fr) (N := mv_si (mv_si (mv_si N1 62 68 (nI (pr + 1))) 62 74 (nI 5)) 101 pr (nI 0)) (by simp (disch := omega) only [rd_hi, rd_mi, rd_hl, rd_ml, rd_hr, rd_mr, rd_si2, rd_sl1, rd_sl2, rd_sr1, rd_sr2])
    have w1 := mp_0 (fr := fr) (d := dp) hb s1.1.2.2.2 m3 hpb (by omega) y9 T1 s1.1.2.2.2 (by simp (disch := omega) only [rd_hi, rd_mi, rd_hl, rd_ml, rd_hr, rd_mr, rd_si2, rd_sl1, rd_sl2, rd_sr1, rd_sr2]; exact y10) T3 (by simp (disch := omega) only [rd_hi, rd_mi, rd_hl, rd_ml, rd_hr, rd_mr, rd_si2, rd_sl1, rd_sl2, rd_sr1, rd_sr2]; exact bB)
    have w2 := wk_9 (fr := fr) e71 x6 m4 hpb y72 T2 (by simp (disch := omega) only [rd_hi, rd_mi, rd_hl, rd_ml, rd_hr, rd_mr, rd_si2, rd_sl1, rd_sl2, rd_sr1, rd_sr2]; exact y73) T4
    have gN := G_go (hr.trans (by rw [w2, k_bs]))
    have wa := W_go (tn := tn) (by omega) bB h2 bF (g0.trans w1)
    exact RO_f2 (wa.trans (W_end (e := 5) (by simp (disch := omega) only [rd_hi, rd_mi, rd_hl, rd_ml, rd_hr, rd_mr, rd_si2, rd_sl1, rd_sl2, rd_sr1, rd_sr2]) (by omega) (by omega))) (gN.trans (G_end (e := 5) (by simp (disch := omega) only [rd_hi, rd_mi, rd_hl, rd_ml, rd_hr, rd_mr, rd_si2, rd_sl1, rd_sl2, rd_sr1, rd_sr2]) (by omega) (by omega))) (s2 (fun _ _ => False)) s3 (Fn_g (e := 5) s1 ⟨⟨rfl, fun a p u => by unfold cAr at u; simp (disch := omega) only [rd_hi, rd_mi, rd_hl, rd_ml, rd_hr, rd_mr, rd_si2, rd_sl1, rd_sl2, rd_sr1, rd_sr2]⟩, rfl, fun a p u => by unfold rAr at u; simp (disch := omega) only [rd_hi, rd_mi, rd_hl, rd_ml, rd_hr, rd_mr, rd_si2, rd_sl1, rd_sl2, rd_sr1, rd_sr2]⟩ (fun k => by simp (disch := omega) only [rd_hi, rd_mi, rd_hl, rd_ml, rd_hr, rd_mr, rd_si2, rd_sl1, rd_sl2, rd_sr1, rd_sr2]) (fun k => by simp (disch := omega) only [rd_hi, rd_mi, rd_hl, rd_ml, rd_hr, rd_mr, rd_si2, rd_sl1, rd_sl2, rd_sr1, rd_sr2]) (by simp (disch := omega) only [rd_hi, rd_mi, rd_hl, rd_ml, rd_hr, rd_mr, rd_si2, rd_sl1, rd_sl2, rd_sr1, rd_sr2]) (by simp (disch := omega) only [rd_hi, rd_mi, rd_hl, rd_ml, rd_hr, rd_mr, rd_si2, rd_sl1, rd_sl2, rd_sr1, rd_sr2]) (by simp (disch := omega) only [rd_hi, rd_mi, rd_hl, rd_ml, rd_hr, rd_mr, rd_si2, rd_sl1, rd_sl2, rd_sr1, rd_sr2]) (by simp (disch := omega) only [rd_hi, rd_mi, rd_hl, rd_ml, rd_hr, rd_mr, rd_si2, rd_sl1, rd_sl2, rd_sr1, rd_sr2]; rw [m5, m6]) (by simp (disch := omega) only [rd_hi, rd_mi, rd_hl, rd_ml, rd_hr, rd_mr, rd_si2, rd_sl1, rd_sl2, rd_sr1, rd_sr2]) (by simp (disch := omega) only [rd_hi, rd_mi, rd_hl, rd_ml, rd_hr, rd_mr, rd_si2, rd_sl1, rd_sl2, rd_sr1, rd_sr2]) (by omega) (by simp (disch := omega) only [rd_hi, rd_mi, rd_hl, rd_ml, rd_hr, rd_mr, rd_si2, rd_sl1, rd_sl2, rd_sr1, rd_sr2]; rw [b7, b8]) (by simp (disch := omega) only [rd_hi, rd_mi, rd_hl, rd_ml, rd_hr, rd_mr, rd_si2, rd_sl1, rd_sl2, rd_sr1, rd_sr2]; rw [bD, bE]) (fun nm u1 u2 => by simp (disch := omega) only [rd_hi, rd_mi, rd_hl, rd_ml, rd_hr, rd_mr, rd_si2, rd_sl1, rd_sl2, rd_sr1, rd_sr2]))
end RE1
