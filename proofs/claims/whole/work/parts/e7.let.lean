/-! RUNS: let, case -/
section RB1
variable {b h F ND n m pr cl m' pr' cl' m2 pr2 cl2 k t t' fr x st st' mx dp dd dd' kp kp' d tn tn' e i ty y y1 y2 f c c1 c2 c3 s nm p : Nat} {P : Nat → Nat → Nat} {it ff ff' ff2 : Nat → Nat} {M N M' N' M1 N1 M2 N2 M3 N3 : mv_M} {Z Z' : Nat → Nat → Prop} {v op a w r : Int32} {Wt Gt : Option (Unit × mv_M)}
theorem SS_bind (hS : SS b h P F ND it n m pr cl ff st mx dp dd t kp M N) (ho : oT P it n m M k (P 13 (16 * ff fr + nm))) (hn : nm < 16) (hp : P 9 (ff fr) ≤ nm) : SS b h P F ND it n m pr cl ff st mx dp dd t kp (mv_si M 50 (16 * fr + nm) (nI k)) (mv_si N 103 (16 * fr + nm) (nI (fi k))) ∧ Ex P it n (fun f c => f = fr ∧ c = P 14 (16 * ff fr + nm)) m pr cl ff M N m pr cl ff (mv_si M 50 (16 * fr + nm) (nI k)) (mv_si N 103 (16 * fr + nm) (nI (fi k))) ∧ gF M N (mv_si M 50 (16 * fr + nm) (nI k)) (mv_si N 103 (16 * fr + nm) (nI (fi k))) ∧ bB P it n m (mv_si M 50 (16 * fr + nm) (nI k)) (mv_si N 103 (16 * fr + nm) (nI (fi k))) fr nm (P 13 (16 * ff fr + nm)) := by
  have g : gF M N (mv_si M 50 (16 * fr + nm) (nI k)) (mv_si N 103 (16 * fr + nm) (nI (fi k))) := ⟨⟨rfl, fun a p u => by unfold cAr at u; simp (disch := omega) only [rd_hi, rd_mi, rd_hl, rd_ml, rd_hr, rd_mr, rd_si2, rd_sl1, rd_sl2, rd_sr1, rd_sr2]⟩, rfl, fun a p u => by unfold rAr at u; simp (disch := omega) only [rd_hi, rd_mi, rd_hl, rd_ml, rd_hr, rd_mr, rd_si2, rd_sl1, rd_sl2, rd_sr1, rd_sr2]⟩
  obtain ⟨r1, r2, r3⟩ := Cr_bind (M' := mv_si M 50 (16 * fr + nm) (nI k)) (N' := mv_si N 103 (16 * fr + nm) (nI (fi k))) hS.2.1 ho hn hp (by simp (disch := omega) only [rd_hi, rd_mi, rd_hl, rd_ml, rd_hr, rd_mr, rd_si2, rd_sl1, rd_sl2, rd_sr1, rd_sr2]) (by simp (disch := omega) only [rd_hi, rd_mi, rd_hl, rd_ml, rd_hr, rd_mr, rd_si2, rd_sl1, rd_sl2, rd_sr1, rd_sr2]) (fun a p u1 u2 => by simp (disch := omega) only [rd_hi, rd_mi, rd_hl, rd_ml, rd_hr, rd_mr, rd_si2, rd_sl1, rd_sl2, rd_sr1, rd_sr2]) (fun a p u1 u2 => by simp (disch := omega) only [rd_hi, rd_mi, rd_hl, rd_ml, rd_hr, rd_mr, rd_si2, rd_sl1, rd_sl2, rd_sr1, rd_sr2])
  obtain ⟨⟨m1, m2⟩, ⟨m3, m4⟩, m5, m6⟩ := hS.2.2.1
  obtain ⟨c1, ⟨c7, c8⟩, ⟨c9, cA⟩, ⟨cB, cC⟩, ⟨cD, cE⟩, ⟨cF, cG⟩, cH, cI⟩ := hS.2.2.2
  exact ⟨⟨Pg_F hS.1 g, r1, ⟨⟨by simp (disch := omega) only [rd_hi, rd_mi, rd_hl, rd_ml, rd_hr, rd_mr, rd_si2, rd_sl1, rd_sl2, rd_sr1, rd_sr2]; exact m1, by simp (disch := omega) only [rd_hi, rd_mi, rd_hl, rd_ml, rd_hr, rd_mr, rd_si2, rd_sl1, rd_sl2, rd_sr1, rd_sr2]; exact m2⟩, ⟨by simp (disch := omega) only [rd_hi, rd_mi, rd_hl, rd_ml, rd_hr, rd_mr, rd_si2, rd_sl1, rd_sl2, rd_sr1, rd_sr2]; exact m3, by simp (disch := omega) only [rd_hi, rd_mi, rd_hl, rd_ml, rd_hr, rd_mr, rd_si2, rd_sl1, rd_sl2, rd_sr1, rd_sr2]; exact m4⟩, by simp (disch := omega) only [rd_hi, rd_mi, rd_hl, rd_ml, rd_hr, rd_mr, rd_si2, rd_sl1, rd_sl2, rd_sr1, rd_sr2]; exact m5, by simp (disch := omega) only [rd_hi, rd_mi, rd_hl, rd_ml, rd_hr, rd_mr, rd_si2, rd_sl1, rd_sl2, rd_sr1, rd_sr2]; exact m6⟩, c1, ⟨by simp (disch := omega) only [rd_hi, rd_mi, rd_hl, rd_ml, rd_hr, rd_mr, rd_si2, rd_sl1, rd_sl2, rd_sr1, rd_sr2]; exact c7, by simp (disch := omega) only [rd_hi, rd_mi, rd_hl, rd_ml, rd_hr, rd_mr, rd_si2, rd_sl1, rd_sl2, rd_sr1, rd_sr2]; exact c8⟩, ⟨by simp (disch := omega) only [rd_hi, rd_mi, rd_hl, rd_ml, rd_hr, rd_mr, rd_si2, rd_sl1, rd_sl2, rd_sr1, rd_sr2]; exact c9, by simp (disch := omega) only [rd_hi, rd_mi, rd_hl, rd_ml, rd_hr, rd_mr, rd_si2, rd_sl1, rd_sl2, rd_sr1, rd_sr2]; exact cA⟩, ⟨by simp (disch := omega) only [rd_hi, rd_mi, rd_hl, rd_ml, rd_hr, rd_mr, rd_si2, rd_sl1, rd_sl2, rd_sr1, rd_sr2]; exact cB, by simp (disch := omega) only [rd_hi, rd_mi, rd_hl, rd_ml, rd_hr, rd_mr, rd_si2, rd_sl1, rd_sl2, rd_sr1, rd_sr2]; exact cC⟩, ⟨by simp (disch := omega) only [rd_hi, rd_mi, rd_hl, rd_ml, rd_hr, rd_mr, rd_si2, rd_sl1, rd_sl2, rd_sr1, rd_sr2]; exact cD, by simp (disch := omega) only [rd_hi, rd_mi, rd_hl, rd_ml, rd_hr, rd_mr, rd_si2, rd_sl1, rd_sl2, rd_sr1, rd_sr2]; exact cE⟩, ⟨by simp (disch := omega) only [rd_hi, rd_mi, rd_hl, rd_ml, rd_hr, rd_mr, rd_si2, rd_sl1, rd_sl2, rd_sr1, rd_sr2]; exact cF, by simp (disch := omega) only [rd_hi, rd_mi, rd_hl, rd_ml, rd_hr, rd_mr, rd_si2, rd_sl1, rd_sl2, rd_sr1, rd_sr2]; exact cG⟩, by simp (disch := omega) only [rd_hi, rd_mi, rd_hl, rd_ml, rd_hr, rd_mr, rd_si2, rd_sl1, rd_sl2, rd_sr1, rd_sr2]; exact cH, by simp (disch := omega) only [rd_hi, rd_mi, rd_hl, rd_ml, rd_hr, rd_mr, rd_si2, rd_sl1, rd_sl2, rd_sr1, rd_sr2]; exact cI⟩, r2, g, r3⟩
theorem let_0 (hb : b = 9 ∨ b = 24) (h76 : M.2.2 7 6 = some b) (e52 : M.1 52 d = nI fr) (e53 : M.1 53 d = nI 0) (hd : d < 150) (hx : x < 1000) (e9 : M.1 (b + 9) x = nI c1) (e11 : M.1 (b + 11) x = nI nm) (hT : fX2_thingFor (nI c1) (nI fr) (mv_si M 53 d (nI 1)) = some (r, M2)) (hf : fr ≤ 1500) (hn : nm < 16) (h762 : M2.2.2 7 6 = some b) (e10 : M2.1 (b + 10) x = nI c2) (e2 : M2.1 7 2 = nI 0) : fX2_goOnLet (nI x) (nI d) M = fX2_enter (nI c2) (nI fr) (mv_si M2 50 (16 * fr + nm) r) := by
  have gp : ∀ {γ : Type} (K : Nat → Option γ), mv_getp (some b) K = K b := fun K => gp_b hb
  have cb : ∀ v X, fX2_bind (nI fr) (nI nm) v X = some ((), mv_si X 50 (16 * fr + nm) v) := fun v X => c_bind hf hn
  unfold fX2_goOnLet fX2_nextPhase
  simp (disch := omega) only [↓reduceIte, e52, e53, h76, gp, e9, e11, hT, cb, h762, e10, e2, bind_id, k_iT, k_iF, Bool.false_eq_true, eq_self, Nat.add_zero, k_lt', k_bs, k_T, k_F, k_inb, k_ck, k_nz, ↓kN, kL, k_lt, k_le, k_eq, kn_le, kn_lt, kn_eq, kn_le', kn_lt', kn_eq', nI_clamp, nI_add, k_sub, k_mul, k_div, rd_hi, rd_mi, rd_hl, rd_ml, rd_hr, rd_mr, rd_si2, rd_sl1, rd_sl2, rd_sr1, rd_sr2]
theorem let_0f (hb : b = 9 ∨ b = 24) (h76 : M.2.2 7 6 = some b) (e52 : M.1 52 d = nI fr) (e53 : M.1 53 d = nI 0) (hd : d < 150) (hx : x < 1000) (e9 : M.1 (b + 9) x = nI c1) (e11 : M.1 (b + 11) x = nI nm) (hT : fX2_thingFor (nI c1) (nI fr) (mv_si M 53 d (nI 1)) = some (r, M2)) (hf : fr ≤ 1500) (hn : nm < 16) (e2 : M2.1 7 2 = nI 5) : fX2_goOnLet (nI x) (nI d) M = some ((), mv_si M2 50 (16 * fr + nm) r) := by
  have gp : ∀ {γ : Type} (K : Nat → Option γ), mv_getp (some b) K = K b := fun K => gp_b hb
  have cb : ∀ v X, fX2_bind (nI fr) (nI nm) v X = some ((), mv_si X 50 (16 * fr + nm) v) := fun v X => c_bind hf hn
  unfold fX2_goOnLet fX2_nextPhase
  simp (disch := omega) only [↓reduceIte, e52, e53, h76, gp, e9, e11, hT, cb, e2, bind_id, k_iT, k_iF, Bool.false_eq_true, eq_self, Nat.add_zero, k_lt', k_bs, k_T, k_F, k_inb, k_ck, k_nz, ↓kN, kL, k_lt, k_le, k_eq, kn_le, kn_lt, kn_eq, kn_le', kn_lt', kn_eq', nI_clamp, nI_add, k_sub, k_mul, k_div, rd_hi, rd_mi, rd_hl, rd_ml, rd_hr, rd_mr, rd_si2, rd_sl1, rd_sl2, rd_sr1, rd_sr2]
theorem let_1 (e52 : M.1 52 d = nI fr) (e53 : M.1 53 d = nI 1) (hd : d < 150) : fX2_goOnLet (nI x) (nI d) M = fX2_leave (M.1 7 9) (mv_si M 53 d (nI 2)) := by
  unfold fX2_goOnLet fX2_nextPhase
  simp (disch := omega) only [↓reduceIte, e52, e53, bind_id, k_iT, k_iF, Bool.false_eq_true, eq_self, Nat.add_zero, k_lt', k_bs, k_T, k_F, k_inb, k_ck, k_nz, ↓kN, kL, k_lt, k_le, k_eq, kn_le, kn_lt, kn_eq, kn_le', kn_lt', kn_eq', nI_clamp, nI_add, k_sub, k_mul, k_div, rd_hi, rd_mi, rd_hl, rd_ml, rd_hr, rd_mr, rd_si2, rd_sl1, rd_sl2, rd_sr1, rd_sr2]
theorem wk_3 (h71 : N.1 71 y = nI 3) (hy : y < 2002) (e72 : N.1 72 y = nI y1) (e74 : N.1 74 y = nI nm) (hT : fX11_thing (nI y1) (nI fr) N = some (r, N2)) (e73 : N2.1 73 y = nI y2) (h36 : N2.1 62 36 = nI t) (ht : t < 2900) (hf : fr ≤ 1500) (hn : nm < 16) : wkR (nI y) (nI fr) N = some ((), pT (mv_si N2 103 (16 * fr + nm) r) t (nI 1) (nI y2) (nI fr)) := by
  have q : ∀ a w, fX11_task (nI 1) a w (mv_si N2 103 (16 * fr + nm) r) = some ((), pT (mv_si N2 103 (16 * fr + nm) r) t (nI 1) a w) := fun a w => r_task (by simp (disch := omega) only [rd_hi, rd_mi, rd_hl, rd_ml, rd_hr, rd_mr, rd_si2, rd_sl1, rd_sl2, rd_sr1, rd_sr2]; exact h36) (by omega)
  unfold wkR
  simp (disch := omega) only [↓reduceIte, h71, e72, e74, hT, e73, q, k_iT, k_iF, Bool.false_eq_true, eq_self, Nat.add_zero, k_lt', k_bs, k_T, k_F, k_inb, k_ck, k_nz, ↓kN, kL, k_lt, k_le, k_eq, kn_le, kn_lt, kn_eq, kn_le', kn_lt', kn_eq', nI_clamp, nI_add, k_sub, k_mul, k_div, rd_hi, rd_mi, rd_hl, rd_ml, rd_hr, rd_mr, rd_si2, rd_sl1, rd_sl2, rd_sr1, rd_sr2]
theorem go_let (hP : Pg b h P F ND M N) (hf : f < F) (h1 : P 15 f ≤ x) (h2 : x ≤ P 12 f) (e51 : M.1 51 d = nI x) (hd : d < 150) (hk : P 0 x = 304) : fX2_goOn (nI d) M = fX2_goOnLet (nI x) (nI d) M := by
  rw [go_at hP hf h1 h2 e51 hd, if_neg (by omega), if_neg (by omega), if_neg (by omega), if_neg (by omega), if_neg (by omega), if_pos hk]
theorem ev_let (ih : EV b h P F ND it n k) (hkk : mx - st ≤ k + 1) (hS : SS b h P F ND it n m pr cl ff st mx dp dd (t + 1) kp M N) (hk : tk3 N t (nI 1) (nI (P 6 x)) (nI fr)) (hx : xX P F it n m cl ff M N x fr) (ho : ∀ c, P 7 x ≤ c → c ≤ x → ¬ Ow P m M fr c) (h1 : st < mx) (h2 : dp < 150) (htn : tn + 3 * (mx - st) < 1000000) (k3 : P 0 x = 304) : RO b h P F ND it n (zo P m M fr x) m pr cl ff st mx dp t kp (P 5 x) tn M N (fX2_workOut_8 (nI tn) (eW M x fr st dp dd)) (fX11_goes_0 N) := by
  have hc' := hS.2.2.2
  have hW := hS.1.1
  have hs := hS.1.2.1
  have hb := hS.1.2.2.1.1
  have bd := hS.2.2.2.1
  have hfr := hx.1
  obtain ⟨s1, s2, s3, s4, s5, ⟨s6, s7, s8⟩, s9⟩ := j_enter (x := x) (fr := fr) hS h1 h2
  generalize hM1 : eW M x fr st dp dd = M1 at s1 s2 s3 s4 s6 s7 s8 ⊢
  have hr := r_enter hc' h1 h2 hk
  generalize hN1 : eR N st dp dd t = N1 at s1 s2 s3 s5 s9 hr
  generalize hdd : max dd (dp + 1) = dd1 at s1
  have hx1 := Ex_x (s2 (fun _ _ => False)) hx
  obtain ⟨⟨x1, x2, x3, x4, x5, x6⟩, q1, q2, q3, q4⟩ := SS_node s1 hx1
  obtain ⟨p1, p2, p3, p4, p5, p6, p7, p8, p9⟩ := pN_let q1 k3
  obtain ⟨y9, y10, y72, y73⟩ := q3.2.2.2.2.2.2.2.2.1 (by omega)
  obtain ⟨y11, y74⟩ := q3.2.2.2.2.2.2.2.2.2.2.2 (by omega)
  have e71 : N1.1 71 (P 6 x) = nI 3 := by rw [q3.2.2.2.1, k3]; rfl
  obtain ⟨⟨b1, b2, b3, b4, b5, b6⟩, ⟨b7, b8⟩, ⟨b9, bA⟩, ⟨bB, bC⟩, ⟨bD', bE⟩, ⟨bF, bG⟩, bH, bI⟩ := s1.2.2.2
  have h16 := (hW.2.2.2 _ hx.2.1).2.2.1
  have pr1 := in_seg hW hx.2.1 hx.2.2.1 hx.2.2.2.1 p1
  have pr2 := in_seg hW hx.2.1 hx.2.2.1 hx.2.2.2.1 p2
  have l1 := q4 _ p1.1 (Nat.le_of_lt p1.2.1)
  have l2 := q4 _ p2.1 (Nat.le_of_lt p2.2.1)
  have lc2 := lam_at hW hx.2.1 pr2.1 pr2.2
  have m1 := p1.2.1
  have m2 := p2.2.1
  have ex1 : x - 1 = P 2 x := by omega
  -- the phase
  obtain ⟨S2, E2, g2⟩ := SS_k (M' := mv_si M1 53 dp (nI 1)) (N' := N1) (st' := st + 1) (dd' := dd1) (t' := t + 1) (kp' := kp) s1 rfl (fun a p u => by unfold kC at u; simp (disch := omega) only [rd_hi, rd_mi, rd_hl, rd_ml, rd_hr, rd_mr, rd_si2, rd_sl1, rd_sl2, rd_sr1, rd_sr2]) rfl (fun a p u => rfl) ⟨⟨b1, b2, b3, b4, by omega, b6⟩, ⟨by simp (disch := omega) only [rd_hi, rd_mi, rd_hl, rd_ml, rd_hr, rd_mr, rd_si2, rd_sl1, rd_sl2, rd_sr1, rd_sr2]; exact b7, b8⟩, ⟨by simp (disch := omega) only [rd_hi, rd_mi, rd_hl, rd_ml, rd_hr, rd_mr, rd_si2, rd_sl1, rd_sl2, rd_sr1, rd_sr2]; exact bB, bC⟩, ⟨by simp (disch := omega) only [rd_hi, rd_mi, rd_hl, rd_ml, rd_hr, rd_mr, rd_si2, rd_sl1, rd_sl2, rd_sr1, rd_sr2]; exact bD', bE⟩, ⟨by simp (disch := omega) only [rd_hi, rd_mi, rd_hl, rd_ml, rd_hr, rd_mr, rd_si2, rd_sl1, rd_sl2, rd_sr1, rd_sr2]; exact bF, bG⟩, bH, bI⟩
  have E02 : ∀ Z, Ex P it n Z m pr cl ff M N m pr cl ff (mv_si M1 53 dp (nI 1)) N1 := fun Z => Ex_tr (s2 Z) (E2 Z) (fun _ _ _ z => z)
  have g02 := gF_tr s3 g2
  have hx2 := Ex_x (E02 (fun _ _ => False)) hx
  have xa := xX_sub hW hs hx2 p1.1 p1.2.1 (fun k k1 k2 => by have := lc2 k (by omega) (by omega); omega) (.inr (by rw [ex1]; omega))
  have ho2 : ∀ c, P 7 (P 1 x) ≤ c → c ≤ P 1 x → ¬ Ow P m (mv_si M1 53 dp (nI 1)) fr c := fun c u1 u2 => Ow_k E02 hfr (ho c (by omega) (by omega))
  rcases j_thing S2 xa ho2 with ⟨kk, M3, N3, m3, T1, T2, S3, E3, g3, oT3, eM3, eN3⟩ | ⟨hm5, T1, T2⟩
  · have g3M : ∀ a p, ¬ (a = 8 ∧ p = 0) → ¬ (55 ≤ a ∧ a ≤ 59) → M3.1 a p = (mv_si M1 53 dp (nI 1)).1 a p := fun a p u1 u2 => eM3 a p u1 (by omega)
    have g3N : ∀ a p, ¬ (a = 62 ∧ p = 67) → ¬ (95 ≤ a ∧ a ≤ 100) → N3.1 a p = N1.1 a p := fun a p u1 u2 => eN3 a p u1 (by omega)
    obtain ⟨S4, E4, g4, B4⟩ := SS_bind (k := kk) (fr := fr) (nm := P 3 x) S3 (by rw [p6]; exact oT3) (by omega) p4
    have w0 := wk_3 (t := t + 1) (y2 := P 6 (P 2 x)) e71 x6 y72 y74 T2 ((g3N _ _ (by omega) (by omega)).trans y73) ((g3N _ _ (by omega) (by omega)).trans bH) (by omega) x5 (by omega)
    generalize hM4 : mv_si M3 50 (16 * fr + P 3 x) (nI kk) = M4 at S4 E4 g4 B4
    generalize hN4 : mv_si N3 103 (16 * fr + P 3 x) (nI (fi kk)) = N4 at S4 E4 g4 B4 w0
    obtain ⟨⟨d1, d2, d3, d4, d5, d6⟩, ⟨d7, d8⟩, ⟨d9, dA⟩, ⟨dB, dC⟩, ⟨dD, dE⟩, ⟨dF, dG⟩, dH, dI⟩ := S4.2.2.2
    generalize hN5 : pT N4 (t + 1) (nI 1) (nI (P 6 (P 2 x))) (nI fr) = N5 at w0
    have gN : fX11_goes_0 N = fX11_goes_0 N5 := G_go (hr.trans (by rw [w0, k_bs]))
    have eN5 : ∀ a p, ¬ ((a = 62 ∧ p = 36) ∨ ((a = 81 ∨ a = 82 ∨ a = 85) ∧ t < p)) → N5.1 a p = N4.1 a p := by
      intro a p u
      rw [← hN5, pT_s (by omega)]
    obtain ⟨S5, E5, g5⟩ := SS_k (M' := M4) (N' := N5) (st' := st + 1) (dd' := dd1) (t' := t + 2) (kp' := kp) S4 rfl (fun a p u => rfl) (by rw [← hN5]; rfl) (fun a p u => eN5 a p (by unfold kR' at u; omega)) ⟨⟨d1, d2, d3, d4, by omega, d6⟩, ⟨d7, (eN5 _ _ (by omega)).trans d8⟩, ⟨dB, (eN5 _ _ (by omega)).trans dC⟩, ⟨dD, (eN5 _ _ (by omega)).trans dE⟩, ⟨dF, (eN5 _ _ (by omega)).trans dG⟩, by rw [← hN5]; exact pT_36, (eN5 _ _ (by omega)).trans dI⟩
    have E03 : Ex P it n (zo P m M fr x) m pr cl ff M N m3 pr cl ff M3 N3 := Ex_tr (E02 _) E3 (fun f c _ z => .inr ⟨z.1, by omega, by omega⟩)
    have E04 : Ex P it n (zo P m M fr x) m pr cl ff M N m3 pr cl ff M4 N4 := Ex_tr E03 E4 (fun f c _ z => .inr ⟨z.1, by omega, by omega⟩)
    have E05 : Ex P it n (zo P m M fr x) m pr cl ff M N m3 pr cl ff M4 N5 := Ex_tr E04 (E5 _) (fun _ _ _ z => z)
    have g05 := gF_tr (gF_tr (gF_tr g02 g3) g4) g5
    have hx5 := Ex_x E05 hx
    have B5 := (E5 (fun _ _ => False)).2.2.2.2.1 fr (P 3 x) hfr B4
    have xb : xX P F it n m3 cl ff M4 N5 (P 2 x) fr := by
      refine xX_in hW hx5 p2.1 m2 (fun k k1 k2 => by omega) (fun y y1 y2 y3 y4 y5 => ?_)
      have := (hs _ hx.2.1 y (by omega) (by omega)).1 y3 y4
      unfold bD at this
      rw [y5] at this
      have e : P 1 y = P 3 x := by omega
      rw [e]
      exact B5
    have t1 : tk3 N5 (t + 1) (nI 1) (nI (P 6 (P 2 x))) (nI fr) := by rw [← hN5]; exact pT_top
    have ho5 : ∀ c, P 7 (P 2 x) ≤ c → c ≤ P 2 x → ¬ Ow P m3 M4 fr c := by
      intro c u1 u2 z
      rcases E4.2.2.2.2.2.2 fr c hfr z with y | ⟨_, y⟩
      · rcases E3.2.2.2.2.2.2 fr c hfr y with y | ⟨_, y, y'⟩
        · exact Ow_k E02 hfr (ho c (by omega) (by omega)) y
        · omega
      · omega
    obtain ⟨Mc, en1, R1⟩ := ih m3 pr cl ff (st + 1) mx (dp + 1) dd1 (t + 1) kp (tn + 1) (P 2 x) fr M4 N5 (by omega) S5 t1 xb ho5 (by omega)
    have wa : fX2_workOut_8 (nI tn) M1 = fX2_workOut_8 (nI (tn + 1)) Mc := by
      refine W_go (by omega) bB h2 bF ?_
      rw [go_let s1.1 hx.2.1 hx.2.2.1 hx.2.2.2.1 s6 h2 k3, let_0 (c2 := P 2 x) hb s1.1.2.2.2 s7 s8 h2 (by omega) y9 y11 T1 x5 (by omega) S3.1.2.2.2 ((g3M _ _ (by omega) (by omega)).trans (by simp (disch := omega) only [rd_hi, rd_mi, rd_hl, rd_ml, rd_hr, rd_mr, rd_si2, rd_sl1, rd_sl2, rd_sr1, rd_sr2]; exact y10)) ((g3M _ _ (by omega) (by omega)).trans (by simp (disch := omega) only [rd_hi, rd_mi, rd_hl, rd_ml, rd_hr, rd_mr, rd_si2, rd_sl1, rd_sl2, rd_sr1, rd_sr2]; exact bF)), hM4]
      exact en1
    rw [wa, gN]
    have aM4 : ∀ a i, 51 ≤ a ∧ a ≤ 54 → M4.1 a i = (mv_si M1 53 dp (nI 1)).1 a i := by
      intro a i u
      rw [← hM4, rd_mi (by omega)]
      exact g3M _ _ (by omega) (by omega)
    have aN4 : ∀ a i, a = 81 ∨ a = 82 ∨ a = 85 ∨ a = 105 → N4.1 a i = N1.1 a i := by
      intro a i u
      rw [← hN4, rd_mi (by omega)]
      exact g3N _ _ (by omega) (by omega)
    rcases R1 with ⟨M', N', r1, r2, r3⟩ | ⟨M6, N6, m6, pr6, cl6, ff6, st6, dd6, tn6, r1, r2, ⟨r3, r4⟩, r5, r6, r7, ⟨r8, r9⟩, rA, rB, rC⟩
    · exact RO_f2 r1 r2 E05 g05 r3
    rw [r1, r2]
    have E06 := Ex_tr E05 r6 (zo_in E05 l2 (by omega))
    have g06 := gF_tr g05 r7
    obtain ⟨⟨i1, i2, i3, i4, i5, i6⟩, ⟨i7, i8⟩, ⟨i9, iA⟩, ⟨iB, iC⟩, ⟨iD, iE⟩, ⟨iF, iG⟩, iH, iI⟩ := r5.2.2.2
    have j51 : M6.1 51 dp = nI x := (r8 51 dp (by omega) (by omega)).trans ((aM4 _ _ (by omega)).trans (by simp (disch := omega) only [rd_hi, rd_mi, rd_hl, rd_ml, rd_hr, rd_mr, rd_si2, rd_sl1, rd_sl2, rd_sr1, rd_sr2]; exact s6))
    have j52 : M6.1 52 dp = nI fr := (r8 52 dp (by omega) (by omega)).trans ((aM4 _ _ (by omega)).trans (by simp (disch := omega) only [rd_hi, rd_mi, rd_hl, rd_ml, rd_hr, rd_mr, rd_si2, rd_sl1, rd_sl2, rd_sr1, rd_sr2]; exact s7))
    have j53 : M6.1 53 dp = nI 1 := (r8 53 dp (by omega) (by omega)).trans ((aM4 _ _ (by omega)).trans (by simp (disch := omega) only [rd_hi, rd_mi, rd_hl, rd_ml, rd_hr, rd_mr, rd_si2, rd_sl1, rd_sl2, rd_sr1, rd_sr2]))
    have tD : tk3 N6 t (nI 2) (nI 0) (nI 0) := tk3_s ⟨(eN5 _ _ (by omega)).trans ((aN4 _ _ (by omega)).trans s9.1), (eN5 _ _ (by omega)).trans ((aN4 _ _ (by omega)).trans s9.2.1), (eN5 _ _ (by omega)).trans ((aN4 _ _ (by omega)).trans s9.2.2)⟩ r9 (by omega)
    obtain ⟨S7, E7, g7⟩ := SS_k (M' := mv_si M6 53 dp (nI 2)) (N' := N6) (st' := st6) (dd' := dd6) (t' := t + 1) (kp' := kp) r5 rfl (fun a p u => by unfold kC at u; simp (disch := omega) only [rd_hi, rd_mi, rd_hl, rd_ml, rd_hr, rd_mr, rd_si2, rd_sl1, rd_sl2, rd_sr1, rd_sr2]) rfl (fun a p u => rfl) ⟨⟨i1, i2, i3, i4, by omega, by omega⟩, ⟨by simp (disch := omega) only [rd_hi, rd_mi, rd_hl, rd_ml, rd_hr, rd_mr, rd_si2, rd_sl1, rd_sl2, rd_sr1, rd_sr2]; exact i7, i8⟩, ⟨by simp (disch := omega) only [rd_hi, rd_mi, rd_hl, rd_ml, rd_hr, rd_mr, rd_si2, rd_sl1, rd_sl2, rd_sr1, rd_sr2]; exact iB, iC⟩, ⟨by simp (disch := omega) only [rd_hi, rd_mi, rd_hl, rd_ml, rd_hr, rd_mr, rd_si2, rd_sl1, rd_sl2, rd_sr1, rd_sr2]; exact iD, iE⟩, ⟨by simp (disch := omega) only [rd_hi, rd_mi, rd_hl, rd_ml, rd_hr, rd_mr, rd_si2, rd_sl1, rd_sl2, rd_sr1, rd_sr2]; exact iF, iG⟩, iH, iI⟩
    have w3 : fX2_goOn (nI dp) M6 = some ((), mv_si (mv_si (mv_si M6 53 dp (nI 2)) 7 9 (N6.1 62 78)) 7 8 (nI dp)) := by
      rw [go_let r5.1 hx.2.1 hx.2.2.1 hx.2.2.2.1 j51 h2 k3, let_1 j52 j53 h2, rA]
      exact c_leave (by simp (disch := omega) only [rd_hi, rd_mi, rd_hl, rd_ml, rd_hr, rd_mr, rd_si2, rd_sl1, rd_sl2, rd_sr1, rd_sr2]; exact iB)
    refine RO_done (v := N6.1 62 78) (tn' := tn6 + 1) S7 tD (Ex_tr E06 (E7 (zo P m M fr x)) (fun _ _ _ z => z)) (gF_tr g06 g7) (fun a i z hi => ?_) ⟨fun a i z hi => ?_, fun i hi => ?_⟩ rfl (by rw [← p3]; exact rB) (by rw [← p3, ← rA]; exact Ex_v (E7 (fun _ _ => False)) rC) (by omega) (by omega) (by omega) (by omega) (W_go (by omega) iB h2 iF w3) rfl
    · simp (disch := omega) only [rd_hi, rd_mi, rd_hl, rd_ml, rd_hr, rd_mr, rd_si2, rd_sl1, rd_sl2, rd_sr1, rd_sr2]
      rw [r8 a i z (by omega), aM4 a i z]
      simp (disch := omega) only [rd_hi, rd_mi, rd_hl, rd_ml, rd_hr, rd_mr, rd_si2, rd_sl1, rd_sl2, rd_sr1, rd_sr2]
      exact s4 a i z hi
    · rw [r9.1 a i z (by omega), eN5 _ _ (by omega), aN4 _ _ (by omega)]
      exact s5.1 a i z hi
    · rw [r9.2 i (by omega), eN5 _ _ (by omega), aN4 _ _ (by omega)]
      exact s5.2 i hi
  · have w0 := wk_3 (t := t + 1) (y2 := P 6 (P 2 x)) e71 x6 y72 y74 T2 (by simp (disch := omega) only [rd_hi, rd_mi, rd_hl, rd_ml, rd_hr, rd_mr, rd_si2, rd_sl1, rd_sl2, rd_sr1, rd_sr2]; exact y73) (by simp (disch := omega) only [rd_hi, rd_mi, rd_hl, rd_ml, rd_hr, rd_mr, rd_si2, rd_sl1, rd_sl2, rd_sr1, rd_sr2]; exact bH) (by omega) x5 (by omega)
    have wa : fX2_workOut_8 (nI tn) M1 = fX2_workOut_8 (nI (tn + 1)) (mv_si (mv_si (mv_si M1 53 dp (nI 1)) 7 2 (nI 5)) 50 (16 * fr + P 3 x) nN) := by
      refine W_go (by omega) bB h2 bF ?_
      rw [go_let s1.1 hx.2.1 hx.2.2.1 hx.2.2.2.1 s6 h2 k3]
      exact let_0f hb s1.1.2.2.2 s7 s8 h2 (by omega) y9 y11 T1 x5 (by omega) (by simp (disch := omega) only [rd_hi, rd_mi, rd_hl, rd_ml, rd_hr, rd_mr, rd_si2, rd_sl1, rd_sl2, rd_sr1, rd_sr2])
    have gN := G_go (hr.trans (by rw [w0, k_bs]))
    refine RO_f2 (wa.trans (W_end (e := 5) (by simp (disch := omega) only [rd_hi, rd_mi, rd_hl, rd_ml, rd_hr, rd_mr, rd_si2, rd_sl1, rd_sl2, rd_sr1, rd_sr2]) (by omega) (by omega))) (gN.trans (G_end (e := 5) (by unfold pT; simp (disch := omega) only [rd_hi, rd_mi, rd_hl, rd_ml, rd_hr, rd_mr, rd_si2, rd_sl1, rd_sl2, rd_sr1, rd_sr2]) (by omega) (by omega))) (E02 (fun _ _ => False)) g02 (Fn_g (e := 5) S2 ⟨⟨rfl, fun a p u => by unfold cAr at u; simp (disch := omega) only [rd_hi, rd_mi, rd_hl, rd_ml, rd_hr, rd_mr, rd_si2, rd_sl1, rd_sl2, rd_sr1, rd_sr2]⟩, rfl, fun a p u => by unfold rAr at u; unfold pT; simp (disch := omega) only [rd_hi, rd_mi, rd_hl, rd_ml, rd_hr, rd_mr, rd_si2, rd_sl1, rd_sl2, rd_sr1, rd_sr2]⟩ (fun k => by simp (disch := omega) only [rd_hi, rd_mi, rd_hl, rd_ml, rd_hr, rd_mr, rd_si2, rd_sl1, rd_sl2, rd_sr1, rd_sr2]) (fun k => by unfold pT; simp (disch := omega) only [rd_hi, rd_mi, rd_hl, rd_ml, rd_hr, rd_mr, rd_si2, rd_sl1, rd_sl2, rd_sr1, rd_sr2]) (by simp (disch := omega) only [rd_hi, rd_mi, rd_hl, rd_ml, rd_hr, rd_mr, rd_si2, rd_sl1, rd_sl2, rd_sr1, rd_sr2]) (by unfold pT; simp (disch := omega) only [rd_hi, rd_mi, rd_hl, rd_ml, rd_hr, rd_mr, rd_si2, rd_sl1, rd_sl2, rd_sr1, rd_sr2]) ?_ ?_ (by simp (disch := omega) only [rd_hi, rd_mi, rd_hl, rd_ml, rd_hr, rd_mr, rd_si2, rd_sl1, rd_sl2, rd_sr1, rd_sr2]) (by unfold pT; simp (disch := omega) only [rd_hi, rd_mi, rd_hl, rd_ml, rd_hr, rd_mr, rd_si2, rd_sl1, rd_sl2, rd_sr1, rd_sr2]) (by omega) ?_ ?_ (fun nm u1 u2 => ?_))
    · unfold pT; simp (disch := omega) only [rd_hi, rd_mi, rd_hl, rd_ml, rd_hr, rd_mr, rd_si2, rd_sl1, rd_sl2, rd_sr1, rd_sr2]; rw [s1.2.2.1.2.1.1, s1.2.2.1.2.1.2]
    · unfold pT; simp (disch := omega) only [rd_hi, rd_mi, rd_hl, rd_ml, rd_hr, rd_mr, rd_si2, rd_sl1, rd_sl2, rd_sr1, rd_sr2]; rw [s1.2.2.1.2.2.1, s1.2.2.1.2.2.2]
    · unfold pT; simp (disch := omega) only [rd_hi, rd_mi, rd_hl, rd_ml, rd_hr, rd_mr, rd_si2, rd_sl1, rd_sl2, rd_sr1, rd_sr2]; rw [b7, b8]
    · unfold pT; simp (disch := omega) only [rd_hi, rd_mi, rd_hl, rd_ml, rd_hr, rd_mr, rd_si2, rd_sl1, rd_sl2, rd_sr1, rd_sr2]; rw [bD', bE]
    · by_cases hz : fr = 0
      · subst hz
        simp (disch := omega) only [rd_hi, rd_mi, rd_hl, rd_ml, rd_hr, rd_mr, rd_si2, rd_sl1, rd_sl2, rd_sr1, rd_sr2]
      · simp (disch := omega) only [rd_hi, rd_mi, rd_hl, rd_ml, rd_hr, rd_mr, rd_si2, rd_sl1, rd_sl2, rd_sr1, rd_sr2]
end RB1
