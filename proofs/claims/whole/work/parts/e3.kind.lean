/-! RUNS: an expression entered; numbers, fail -/
/-- where an expression may bind and make things -/
def zo (P : Nat → Nat → Nat) (m : Nat) (M : mv_M) (fr x : Nat) : Nat → Nat → Prop := fun f c => Ow P m M f c ∨ (f = fr ∧ P 7 x ≤ c ∧ c ≤ x)
def EV (b h : Nat) (P : Nat → Nat → Nat) (F ND : Nat) (it : Nat → Nat) (n k : Nat) : Prop := ∀ m pr cl ff st mx dp dd t kp tn x fr M N, mx - st ≤ k → SS b h P F ND it n m pr cl ff st mx dp dd (t + 1) kp M N → tk3 N t (nI 1) (nI (P 6 x)) (nI fr) → xX P F it n m cl ff M N x fr → (∀ c, P 7 x ≤ c → c ≤ x → ¬ Ow P m M fr c) → tn + 3 * (mx - st) < 1000000 → ∃ M1, fX2_enter (nI x) (nI fr) M = some ((), M1) ∧ RO b h P F ND it n (zo P m M fr x) m pr cl ff st mx dp t kp (P 5 x) tn M N (fX2_workOut_8 (nI tn) M1) (fX11_goes_0 N)
section RX
variable {b h F ND n m pr cl m' pr' cl' m2 pr2 cl2 k t t' fr x st st' mx dp dd dd' kp kp' d tn tn' e i ty y f : Nat} {P : Nat → Nat → Nat} {it ff ff' ff2 : Nat → Nat} {M N M' N' M1 N1 M2 N2 M3 N3 : mv_M} {Z Z' : Nat → Nat → Prop} {v op a w : Int32} {Wt Gt : Option (Unit × mv_M)}
theorem RO_fail (hE : Ex P it n Z' m pr cl ff M N m' pr' cl' ff' M1 N1) (hg : gF M N M1 N1) (hF : Fn P n ff' M1 N1 M' N') (hW : Wt = some ((), M')) (hG : Gt = some ((), N')) : RO b h P F ND it n Z m pr cl ff st mx dp t kp ty tn M N Wt Gt := .inl ⟨M', N', hW, hG, Fn_tr hE hg hF⟩
theorem RO_f2 (hW : Wt = some ((), M')) (hG : Gt = some ((), N')) (hE : Ex P it n Z' m pr cl ff M N m' pr' cl' ff' M1 N1) (hg : gF M N M1 N1) (hF : Fn P n ff' M1 N1 M' N') : RO b h P F ND it n Z m pr cl ff st mx dp t kp ty tn M N Wt Gt := .inl ⟨M', N', hW, hG, Fn_tr hE hg hF⟩
theorem RO_done (hS : SS b h P F ND it n m' pr' cl' ff' st' mx (dp + 1) dd (t + 1) kp M3 N3) (hk : tk3 N3 t (nI 2) (nI 0) (nI 0)) (hE : Ex P it n Z m pr cl ff M N m' pr' cl' ff' M3 N3) (hg : gF M N M3 N3) (h1 : kS dp M M3) (h2 : kT t kp N N3) (hv1 : N3.1 62 78 = v) (hv2 : N3.1 62 77 = nI (kD ty)) (hv3 : vV P it n m' pr' M3 N3 v ty) (htn : tn' ≤ tn + 3 * (st' - st)) (hst : st ≤ st') (ht : t ≤ 5 * dp + 40) (hkp : kp ≤ dp) (hWt : Wt = fX2_workOut_8 (nI tn') (mv_si (mv_si M3 7 9 v) 7 8 (nI dp))) (hGt : Gt = fX11_goes_0 N3) : RO b h P F ND it n Z m pr cl ff st mx dp t kp ty tn M N Wt Gt := by
  have hc := hS.2.2.2
  obtain ⟨⟨c1, c2, c3, c4, c5, c6⟩, ⟨c7, c8⟩, ⟨c9, cA⟩, ⟨cB, cC⟩, ⟨cD, cE⟩, ⟨cF, cG⟩, cH, cI⟩ := hc
  have hpop := r_pop2 cH (by omega) cG hk cC (by omega)
  obtain ⟨s1, s2, s3⟩ := SS_c (Z := fun _ _ => False) (M' := mv_si (mv_si M3 7 9 v) 7 8 (nI dp)) (N' := mv_si (mv_si N3 62 36 (nI t)) 62 72 (nI dp)) (st' := st') (mx' := mx) (dp' := dp) (dd' := dd) (t' := t) (kp' := kp) hS rfl (fun a p u => by unfold kC at u; simp (disch := omega) only [rd_hi, rd_mi, rd_hl, rd_ml, rd_hr, rd_mr, rd_si2, rd_sl1, rd_sl2, rd_sr1, rd_sr2]) rfl (fun a p u => by unfold kR' at u; simp (disch := omega) only [rd_hi, rd_mi, rd_hl, rd_ml, rd_hr, rd_mr, rd_si2, rd_sl1, rd_sl2, rd_sr1, rd_sr2]) ⟨⟨c1, c2, by omega, c4, ht, hkp⟩, ⟨by simp (disch := omega) only [rd_hi, rd_mi, rd_hl, rd_ml, rd_hr, rd_mr, rd_si2, rd_sl1, rd_sl2, rd_sr1, rd_sr2]; exact c7, by simp (disch := omega) only [rd_hi, rd_mi, rd_hl, rd_ml, rd_hr, rd_mr, rd_si2, rd_sl1, rd_sl2, rd_sr1, rd_sr2]; exact c8⟩, ⟨by simp (disch := omega) only [rd_hi, rd_mi, rd_hl, rd_ml, rd_hr, rd_mr, rd_si2, rd_sl1, rd_sl2, rd_sr1, rd_sr2]; exact c9, by simp (disch := omega) only [rd_hi, rd_mi, rd_hl, rd_ml, rd_hr, rd_mr, rd_si2, rd_sl1, rd_sl2, rd_sr1, rd_sr2]; exact cA⟩, ⟨by simp (disch := omega) only [rd_hi, rd_mi, rd_hl, rd_ml, rd_hr, rd_mr, rd_si2, rd_sl1, rd_sl2, rd_sr1, rd_sr2], by simp (disch := omega) only [rd_hi, rd_mi, rd_hl, rd_ml, rd_hr, rd_mr, rd_si2, rd_sl1, rd_sl2, rd_sr1, rd_sr2]⟩, ⟨by simp (disch := omega) only [rd_hi, rd_mi, rd_hl, rd_ml, rd_hr, rd_mr, rd_si2, rd_sl1, rd_sl2, rd_sr1, rd_sr2]; exact cD, by simp (disch := omega) only [rd_hi, rd_mi, rd_hl, rd_ml, rd_hr, rd_mr, rd_si2, rd_sl1, rd_sl2, rd_sr1, rd_sr2]; exact cE⟩, ⟨by simp (disch := omega) only [rd_hi, rd_mi, rd_hl, rd_ml, rd_hr, rd_mr, rd_si2, rd_sl1, rd_sl2, rd_sr1, rd_sr2]; exact cF, by simp (disch := omega) only [rd_hi, rd_mi, rd_hl, rd_ml, rd_hr, rd_mr, rd_si2, rd_sl1, rd_sl2, rd_sr1, rd_sr2]; exact cG⟩, by simp (disch := omega) only [rd_hi, rd_mi, rd_hl, rd_ml, rd_hr, rd_mr, rd_si2, rd_sl1, rd_sl2, rd_sr1, rd_sr2], by simp (disch := omega) only [rd_hi, rd_mi, rd_hl, rd_ml, rd_hr, rd_mr, rd_si2, rd_sl1, rd_sl2, rd_sr1, rd_sr2]; exact cI⟩
  refine .inr ⟨_, _, m', pr', cl', ff', st', dd, tn', hWt, hGt.trans (G_go hpop), ⟨htn, hst⟩, s1, Ex_tr hE s2 (fun _ _ _ z => z.elim), gF_tr hg s3, ⟨fun a i u hi => ?_, ⟨fun a i u hi => ?_, fun i hi => ?_⟩⟩, ?_, ?_, ?_⟩
  · simp (disch := omega) only [rd_hi, rd_mi, rd_hl, rd_ml, rd_hr, rd_mr, rd_si2, rd_sl1, rd_sl2, rd_sr1, rd_sr2]; exact h1 a i u hi
  · simp (disch := omega) only [rd_hi, rd_mi, rd_hl, rd_ml, rd_hr, rd_mr, rd_si2, rd_sl1, rd_sl2, rd_sr1, rd_sr2]; exact h2.1 a i u hi
  · simp (disch := omega) only [rd_hi, rd_mi, rd_hl, rd_ml, rd_hr, rd_mr, rd_si2, rd_sl1, rd_sl2, rd_sr1, rd_sr2]; exact h2.2 i hi
  · simp (disch := omega) only [rd_hi, rd_mi, rd_hl, rd_ml, rd_hr, rd_mr, rd_si2, rd_sl1, rd_sl2, rd_sr1, rd_sr2]; exact hv1.symm
  · simp (disch := omega) only [rd_hi, rd_mi, rd_hl, rd_ml, rd_hr, rd_mr, rd_si2, rd_sl1, rd_sl2, rd_sr1, rd_sr2]; exact hv2
  · rw [show (mv_si (mv_si M3 7 9 v) 7 8 (nI dp)).1 7 9 = v by simp (disch := omega) only [rd_hi, rd_mi, rd_hl, rd_ml, rd_hr, rd_mr, rd_si2, rd_sl1, rd_sl2, rd_sr1, rd_sr2]]
    exact Ex_v s2 hv3
theorem j_enter (hS : SS b h P F ND it n m pr cl ff st mx dp dd (t + 1) kp M N) (h1 : st < mx) (h2 : dp < 150) : SS b h P F ND it n m pr cl ff (st + 1) mx (dp + 1) (max dd (dp + 1)) (t + 1) kp (eW M x fr st dp dd) (eR N st dp dd t) ∧ (∀ Z, Ex P it n Z m pr cl ff M N m pr cl ff (eW M x fr st dp dd) (eR N st dp dd t)) ∧ gF M N (eW M x fr st dp dd) (eR N st dp dd t) ∧ kS dp M (eW M x fr st dp dd) ∧ kT t kp N (eR N st dp dd t) ∧ ((eW M x fr st dp dd).1 51 dp = nI x ∧ (eW M x fr st dp dd).1 52 dp = nI fr ∧ (eW M x fr st dp dd).1 53 dp = nI 0) ∧ tk3 (eR N st dp dd t) t (nI 2) (nI 0) (nI 0) := by
  have hc := hS.2.2.2
  obtain ⟨⟨c1, c2, c3, c4, c5, c6⟩, ⟨c7, c8⟩, ⟨c9, cA⟩, ⟨cB, cC⟩, ⟨cD, cE⟩, ⟨cF, cG⟩, cH, cI⟩ := hc
  have key : ∀ Z, SS b h P F ND it n m pr cl ff (st + 1) mx (dp + 1) (max dd (dp + 1)) (t + 1) kp (eW M x fr st dp dd) (eR N st dp dd t) ∧ Ex P it n Z m pr cl ff M N m pr cl ff (eW M x fr st dp dd) (eR N st dp dd t) ∧ gF M N (eW M x fr st dp dd) (eR N st dp dd t) := fun Z => SS_c hS rfl (fun a p u => by unfold kC at u; unfold eW; simp (disch := omega) only [rd_hi, rd_mi, rd_hl, rd_ml, rd_hr, rd_mr, rd_si2, rd_sl1, rd_sl2, rd_sr1, rd_sr2]) rfl (fun a p u => by unfold kR' at u; unfold eR pT; simp (disch := omega) only [rd_hi, rd_mi, rd_hl, rd_ml, rd_hr, rd_mr, rd_si2, rd_sl1, rd_sl2, rd_sr1, rd_sr2]) ⟨⟨by omega, c2, by omega, by omega, by omega, by omega⟩, ⟨by unfold eW; simp (disch := omega) only [rd_hi, rd_mi, rd_hl, rd_ml, rd_hr, rd_mr, rd_si2, rd_sl1, rd_sl2, rd_sr1, rd_sr2], by unfold eR pT; simp (disch := omega) only [rd_hi, rd_mi, rd_hl, rd_ml, rd_hr, rd_mr, rd_si2, rd_sl1, rd_sl2, rd_sr1, rd_sr2]⟩, ⟨by unfold eW; simp (disch := omega) only [rd_hi, rd_mi, rd_hl, rd_ml, rd_hr, rd_mr, rd_si2, rd_sl1, rd_sl2, rd_sr1, rd_sr2]; exact c9, by unfold eR pT; simp (disch := omega) only [rd_hi, rd_mi, rd_hl, rd_ml, rd_hr, rd_mr, rd_si2, rd_sl1, rd_sl2, rd_sr1, rd_sr2]; exact cA⟩, ⟨by unfold eW; simp (disch := omega) only [rd_hi, rd_mi, rd_hl, rd_ml, rd_hr, rd_mr, rd_si2, rd_sl1, rd_sl2, rd_sr1, rd_sr2], by unfold eR pT; simp (disch := omega) only [rd_hi, rd_mi, rd_hl, rd_ml, rd_hr, rd_mr, rd_si2, rd_sl1, rd_sl2, rd_sr1, rd_sr2]⟩, ⟨by unfold eW; simp (disch := omega) only [rd_hi, rd_mi, rd_hl, rd_ml, rd_hr, rd_mr, rd_si2, rd_sl1, rd_sl2, rd_sr1, rd_sr2], by unfold eR pT; simp (disch := omega) only [rd_hi, rd_mi, rd_hl, rd_ml, rd_hr, rd_mr, rd_si2, rd_sl1, rd_sl2, rd_sr1, rd_sr2]⟩, ⟨by unfold eW; simp (disch := omega) only [rd_hi, rd_mi, rd_hl, rd_ml, rd_hr, rd_mr, rd_si2, rd_sl1, rd_sl2, rd_sr1, rd_sr2]; exact cF, by unfold eR pT; simp (disch := omega) only [rd_hi, rd_mi, rd_hl, rd_ml, rd_hr, rd_mr, rd_si2, rd_sl1, rd_sl2, rd_sr1, rd_sr2]⟩, by unfold eR pT; simp (disch := omega) only [rd_hi, rd_mi, rd_hl, rd_ml, rd_hr, rd_mr, rd_si2, rd_sl1, rd_sl2, rd_sr1, rd_sr2], by unfold eR pT; simp (disch := omega) only [rd_hi, rd_mi, rd_hl, rd_ml, rd_hr, rd_mr, rd_si2, rd_sl1, rd_sl2, rd_sr1, rd_sr2]; exact cI⟩
  refine ⟨(key (fun _ _ => False)).1, fun Z => (key Z).2.1, (key (fun _ _ => False)).2.2, fun a i u hi => by unfold eW; simp (disch := omega) only [rd_hi, rd_mi, rd_hl, rd_ml, rd_hr, rd_mr, rd_si2, rd_sl1, rd_sl2, rd_sr1, rd_sr2], ⟨fun a i u hi => by unfold eR pT; simp (disch := omega) only [rd_hi, rd_mi, rd_hl, rd_ml, rd_hr, rd_mr, rd_si2, rd_sl1, rd_sl2, rd_sr1, rd_sr2], fun i hi => by unfold eR pT; simp (disch := omega) only [rd_hi, rd_mi, rd_hl, rd_ml, rd_hr, rd_mr, rd_si2, rd_sl1, rd_sl2, rd_sr1, rd_sr2]⟩, ⟨by unfold eW; simp (disch := omega) only [rd_hi, rd_mi, rd_hl, rd_ml, rd_hr, rd_mr, rd_si2, rd_sl1, rd_sl2, rd_sr1, rd_sr2], by unfold eW; simp (disch := omega) only [rd_hi, rd_mi, rd_hl, rd_ml, rd_hr, rd_mr, rd_si2, rd_sl1, rd_sl2, rd_sr1, rd_sr2], by unfold eW; simp (disch := omega) only [rd_hi, rd_mi, rd_hl, rd_ml, rd_hr, rd_mr, rd_si2, rd_sl1, rd_sl2, rd_sr1, rd_sr2]⟩, ⟨by unfold eR pT; simp (disch := omega) only [rd_hi, rd_mi, rd_hl, rd_ml, rd_hr, rd_mr, rd_si2, rd_sl1, rd_sl2, rd_sr1, rd_sr2], by unfold eR pT; simp (disch := omega) only [rd_hi, rd_mi, rd_hl, rd_ml, rd_hr, rd_mr, rd_si2, rd_sl1, rd_sl2, rd_sr1, rd_sr2], by unfold eR pT; simp (disch := omega) only [rd_hi, rd_mi, rd_hl, rd_ml, rd_hr, rd_mr, rd_si2, rd_sl1, rd_sl2, rd_sr1, rd_sr2]⟩⟩
theorem c_leave (e8 : M.1 7 8 = nI (d + 1)) : fX2_leave v M = some ((), mv_si (mv_si M 7 9 v) 7 8 (nI d)) := by
  unfold fX2_leave
  simp (disch := omega) only [↓reduceIte, e8, Nat.add_sub_cancel, k_iT, k_iF, Bool.false_eq_true, eq_self, Nat.add_zero, k_lt', k_bs, k_T, k_F, k_inb, k_ck, k_nz, ↓kN, kL, k_lt, k_le, k_eq, kn_le, kn_lt, kn_eq, kn_le', kn_lt', kn_eq', nI_clamp, nI_add, k_sub, k_mul, k_div, rd_hi, rd_mi, rd_hl, rd_ml, rd_hr, rd_mr, rd_si2, rd_sl1, rd_sl2, rd_sr1, rd_sr2]
/-- no step left, or too deep -/
theorem ev_stop (hS : SS b h P F ND it n m pr cl ff st mx dp dd (t + 1) kp M N) (hk : tk3 N t (nI 1) (nI (P 6 x)) (nI fr)) (h1 : ¬ (st < mx ∧ dp < 150)) : ∃ M1, fX2_enter (nI x) (nI fr) M = some ((), M1) ∧ RO b h P F ND it n Z m pr cl ff st mx dp t kp ty tn M N (fX2_workOut_8 (nI tn) M1) (fX11_goes_0 N) := by
  have hc := hS.2.2.2
  have hc' := hS.2.2.2
  obtain ⟨⟨c1, c2, c3, c4, c5, c6⟩, ⟨c7, c8⟩, ⟨c9, cA⟩, ⟨cB, cC⟩, ⟨cD, cE⟩, ⟨cF, cG⟩, cH, cI⟩ := hc
  by_cases u : st < mx
  · refine ⟨_, c_enter4 hc' u (by omega), .inl ⟨_, _, W_end (e := 4) (by simp (disch := omega) only [rd_hi, rd_mi, rd_hl, rd_ml, rd_hr, rd_mr, rd_si2, rd_sl1, rd_sl2, rd_sr1, rd_sr2]) (by omega) (by omega), (G_go (r_enter4 hc' u (by omega) hk)).trans (G_end (e := 4) (by simp (disch := omega) only [rd_hi, rd_mi, rd_hl, rd_ml, rd_hr, rd_mr, rd_si2, rd_sl1, rd_sl2, rd_sr1, rd_sr2]) (by omega) (by omega)), ?_⟩⟩
    exact Fn_c (e := 4) hS rfl (fun a p u => by unfold kC at u; simp (disch := omega) only [rd_hi, rd_mi, rd_hl, rd_ml, rd_hr, rd_mr, rd_si2, rd_sl1, rd_sl2, rd_sr1, rd_sr2]) rfl (fun a p u => by unfold kR' at u; simp (disch := omega) only [rd_hi, rd_mi, rd_hl, rd_ml, rd_hr, rd_mr, rd_si2, rd_sl1, rd_sl2, rd_sr1, rd_sr2]) (by simp (disch := omega) only [rd_hi, rd_mi, rd_hl, rd_ml, rd_hr, rd_mr, rd_si2, rd_sl1, rd_sl2, rd_sr1, rd_sr2]) (by simp (disch := omega) only [rd_hi, rd_mi, rd_hl, rd_ml, rd_hr, rd_mr, rd_si2, rd_sl1, rd_sl2, rd_sr1, rd_sr2]) (by omega) (by simp (disch := omega) only [rd_hi, rd_mi, rd_hl, rd_ml, rd_hr, rd_mr, rd_si2, rd_sl1, rd_sl2, rd_sr1, rd_sr2]; rw [c7, c8]) (by simp (disch := omega) only [rd_hi, rd_mi, rd_hl, rd_ml, rd_hr, rd_mr, rd_si2, rd_sl1, rd_sl2, rd_sr1, rd_sr2]; rw [cD, cE])
  · refine ⟨_, c_enter3 hc' u, .inl ⟨_, _, W_end (e := 3) (by simp (disch := omega) only [rd_hi, rd_mi, rd_hl, rd_ml, rd_hr, rd_mr, rd_si2, rd_sl1, rd_sl2, rd_sr1, rd_sr2]) (by omega) (by omega), (G_go (r_enter3 hc' u hk)).trans (G_end (e := 3) (by simp (disch := omega) only [rd_hi, rd_mi, rd_hl, rd_ml, rd_hr, rd_mr, rd_si2, rd_sl1, rd_sl2, rd_sr1, rd_sr2]) (by omega) (by omega)), ?_⟩⟩
    exact Fn_c (e := 3) hS rfl (fun a p u => by unfold kC at u; simp (disch := omega) only [rd_hi, rd_mi, rd_hl, rd_ml, rd_hr, rd_mr, rd_si2, rd_sl1, rd_sl2, rd_sr1, rd_sr2]) rfl (fun a p u => by unfold kR' at u; simp (disch := omega) only [rd_hi, rd_mi, rd_hl, rd_ml, rd_hr, rd_mr, rd_si2, rd_sl1, rd_sl2, rd_sr1, rd_sr2]) (by simp (disch := omega) only [rd_hi, rd_mi, rd_hl, rd_ml, rd_hr, rd_mr, rd_si2, rd_sl1, rd_sl2, rd_sr1, rd_sr2]) (by simp (disch := omega) only [rd_hi, rd_mi, rd_hl, rd_ml, rd_hr, rd_mr, rd_si2, rd_sl1, rd_sl2, rd_sr1, rd_sr2]) (by omega) (by simp (disch := omega) only [rd_hi, rd_mi, rd_hl, rd_ml, rd_hr, rd_mr, rd_si2, rd_sl1, rd_sl2, rd_sr1, rd_sr2]; rw [c7, c8]) (by simp (disch := omega) only [rd_hi, rd_mi, rd_hl, rd_ml, rd_hr, rd_mr, rd_si2, rd_sl1, rd_sl2, rd_sr1, rd_sr2]; rw [cD, cE])
theorem ev_num (hS : SS b h P F ND it n m pr cl ff st mx dp dd (t + 1) kp M N) (hk : tk3 N t (nI 1) (nI (P 6 x)) (nI fr)) (hx : xX P F it n m cl ff M N x fr) (h1 : st < mx) (h2 : dp < 150) (htn : tn < 1000000) (k3 : P 0 x = 3) : RO b h P F ND it n Z m pr cl ff st mx dp t kp (P 5 x) tn M N (fX2_workOut_8 (nI tn) (eW M x fr st dp dd)) (fX11_goes_0 N) := by
  have hc' := hS.2.2.2
  have hb := hS.2.2.2.1
  obtain ⟨s1, s2, s3, s4, s5, ⟨s6, s7, s8⟩, s9⟩ := j_enter (x := x) (fr := fr) hS h1 h2
  generalize hM1 : eW M x fr st dp dd = M1 at s1 s2 s3 s4 s6 s7 s8 ⊢
  have hr := r_enter hc' h1 h2 hk
  generalize hN1 : eR N st dp dd t = N1 at s1 s2 s3 s5 s9 hr
  obtain ⟨⟨x1, x2, x3, x4, x5, x6⟩, q1, q2, q3, q4⟩ := SS_node s1 (Ex_x (s2 (fun _ _ => False)) hx)
  obtain ⟨⟨c1, c2, c3, c4, c5, c6⟩, ⟨c7, c8⟩, ⟨c9, cA⟩, ⟨cB, cC⟩, ⟨cD, cE⟩, ⟨cF, cG⟩, cH, cI⟩ := s1.2.2.2
  have e71 : N1.1 71 (P 6 x) = nI 5 := by rw [q3.2.2.2.1, k3]; rfl
  have ev := q3.2.2.2.2.2.1 k3
  have h5 : P 5 x = 0 := by unfold pN sgK at q1; omega
  have w1 : fX2_goOn (nI dp) M1 = some ((), mv_si (mv_si M1 7 9 (N1.1 72 (P 6 x))) 7 8 (nI dp)) := by
    rw [go_at s1.1 hx.2.1 hx.2.2.1 hx.2.2.2.1 s6 h2, if_neg (by omega), if_pos k3, c_leave cB, ev]
  have w2 : fX11_goes_0 N = fX11_goes_0 (mv_si (mv_si N1 62 77 (nI 0)) 62 78 (N1.1 72 (P 6 x))) := by
    refine G_go (hr.trans ?_)
    rw [wk_5 e71 x6, k_bs]
  generalize hv : N1.1 72 (P 6 x) = v at w1 w2
  obtain ⟨u1, u2, u3⟩ := SS_c (Z := Z) (M' := M1) (N' := mv_si (mv_si N1 62 77 (nI 0)) 62 78 v) s1 rfl (fun a p u => rfl) rfl (fun a p u => by unfold kR' at u; simp (disch := omega) only [rd_hi, rd_mi, rd_hl, rd_ml, rd_hr, rd_mr, rd_si2, rd_sl1, rd_sl2, rd_sr1, rd_sr2]) ⟨⟨c1, c2, c3, c4, c5, c6⟩, ⟨c7, by simp (disch := omega) only [rd_hi, rd_mi, rd_hl, rd_ml, rd_hr, rd_mr, rd_si2, rd_sl1, rd_sl2, rd_sr1, rd_sr2]; exact c8⟩, ⟨c9, by simp (disch := omega) only [rd_hi, rd_mi, rd_hl, rd_ml, rd_hr, rd_mr, rd_si2, rd_sl1, rd_sl2, rd_sr1, rd_sr2]; exact cA⟩, ⟨cB, by simp (disch := omega) only [rd_hi, rd_mi, rd_hl, rd_ml, rd_hr, rd_mr, rd_si2, rd_sl1, rd_sl2, rd_sr1, rd_sr2]; exact cC⟩, ⟨cD, by simp (disch := omega) only [rd_hi, rd_mi, rd_hl, rd_ml, rd_hr, rd_mr, rd_si2, rd_sl1, rd_sl2, rd_sr1, rd_sr2]; exact cE⟩, ⟨cF, by simp (disch := omega) only [rd_hi, rd_mi, rd_hl, rd_ml, rd_hr, rd_mr, rd_si2, rd_sl1, rd_sl2, rd_sr1, rd_sr2]; exact cG⟩, by simp (disch := omega) only [rd_hi, rd_mi, rd_hl, rd_ml, rd_hr, rd_mr, rd_si2, rd_sl1, rd_sl2, rd_sr1, rd_sr2]; exact cH, by simp (disch := omega) only [rd_hi, rd_mi, rd_hl, rd_ml, rd_hr, rd_mr, rd_si2, rd_sl1, rd_sl2, rd_sr1, rd_sr2]; exact cI⟩
  refine RO_done (v := v) (tn' := tn + 1) u1 ⟨by simp (disch := omega) only [rd_hi, rd_mi, rd_hl, rd_ml, rd_hr, rd_mr, rd_si2, rd_sl1, rd_sl2, rd_sr1, rd_sr2]; exact s9.1, by simp (disch := omega) only [rd_hi, rd_mi, rd_hl, rd_ml, rd_hr, rd_mr, rd_si2, rd_sl1, rd_sl2, rd_sr1, rd_sr2]; exact s9.2.1, by simp (disch := omega) only [rd_hi, rd_mi, rd_hl, rd_ml, rd_hr, rd_mr, rd_si2, rd_sl1, rd_sl2, rd_sr1, rd_sr2]; exact s9.2.2⟩ (Ex_tr (s2 Z) u2 (fun _ _ _ z => z)) (gF_tr s3 u3) s4 ⟨fun a i u hi => by simp (disch := omega) only [rd_hi, rd_mi, rd_hl, rd_ml, rd_hr, rd_mr, rd_si2, rd_sl1, rd_sl2, rd_sr1, rd_sr2]; exact s5.1 a i u hi, fun i hi => by simp (disch := omega) only [rd_hi, rd_mi, rd_hl, rd_ml, rd_hr, rd_mr, rd_si2, rd_sl1, rd_sl2, rd_sr1, rd_sr2]; exact s5.2 i hi⟩ (by simp (disch := omega) only [rd_hi, rd_mi, rd_hl, rd_ml, rd_hr, rd_mr, rd_si2, rd_sl1, rd_sl2, rd_sr1, rd_sr2]) (by simp (disch := omega) only [rd_hi, rd_mi, rd_hl, rd_ml, rd_hr, rd_mr, rd_si2, rd_sl1, rd_sl2, rd_sr1, rd_sr2]; rw [h5]; rfl) (.inl h5) (by omega) (by omega) (by omega) (by omega) (W_go htn cB h2 cF w1) w2
theorem ev_fail (hS : SS b h P F ND it n m pr cl ff st mx dp dd (t + 1) kp M N) (hk : tk3 N t (nI 1) (nI (P 6 x)) (nI fr)) (hx : xX P F it n m cl ff M N x fr) (h1 : st < mx) (h2 : dp < 150) (htn : tn < 1000000) (k3 : P 0 x = 308) : RO b h P F ND it n Z m pr cl ff st mx dp t kp (P 5 x) tn M N (fX2_workOut_8 (nI tn) (eW M x fr st dp dd)) (fX11_goes_0 N) := by
  have hc' := hS.2.2.2
  obtain ⟨s1, s2, s3, s4, s5, ⟨s6, s7, s8⟩, s9⟩ := j_enter (x := x) (fr := fr) hS h1 h2
  generalize hM1 : eW M x fr st dp dd = M1 at s1 s2 s3 s4 s6 s7 s8 ⊢
  have hr := r_enter hc' h1 h2 hk
  generalize hN1 : eR N st dp dd t = N1 at s1 s2 s3 s5 s9 hr
  obtain ⟨⟨x1, x2, x3, x4, x5, x6⟩, q1, q2, q3, q4⟩ := SS_node s1 (Ex_x (s2 (fun _ _ => False)) hx)
  obtain ⟨⟨c1, c2, c3, c4, c5, c6⟩, ⟨c7, c8⟩, ⟨c9, cA⟩, ⟨cB, cC⟩, ⟨cD, cE⟩, ⟨cF, cG⟩, cH, cI⟩ := s1.2.2.2
  have e71 : N1.1 71 (P 6 x) = nI 6 := by rw [q3.2.2.2.1, k3]; rfl
  have w1 : fX2_goOn (nI dp) M1 = some ((), mv_si M1 7 2 (nI 2)) := by
    rw [go_at s1.1 hx.2.1 hx.2.2.1 hx.2.2.2.1 s6 h2, if_neg (by omega), if_neg (by omega), if_neg (by omega), if_neg (by omega), if_neg (by omega), if_neg (by omega), if_neg (by omega), if_pos k3]
  have w2 : fX11_goes_0 N = fX11_goes_0 (mv_si N1 62 74 (nI 2)) := by
    refine G_go (hr.trans ?_)
    rw [wk_6 e71 x6, k_bs]
  refine RO_f2 ((W_go htn cB h2 cF w1).trans (W_end (e := 2) (by simp (disch := omega) only [rd_hi, rd_mi, rd_hl, rd_ml, rd_hr, rd_mr, rd_si2, rd_sl1, rd_sl2, rd_sr1, rd_sr2]) (by omega) (by omega))) (w2.trans (G_end (e := 2) (by simp (disch := omega) only [rd_hi, rd_mi, rd_hl, rd_ml, rd_hr, rd_mr, rd_si2, rd_sl1, rd_sl2, rd_sr1, rd_sr2]) (by omega) (by omega))) (s2 Z) s3 (Fn_c (e := 2) s1 rfl (fun a p u => by unfold kC at u; simp (disch := omega) only [rd_hi, rd_mi, rd_hl, rd_ml, rd_hr, rd_mr, rd_si2, rd_sl1, rd_sl2, rd_sr1, rd_sr2]) rfl (fun a p u => by unfold kR' at u; simp (disch := omega) only [rd_hi, rd_mi, rd_hl, rd_ml, rd_hr, rd_mr, rd_si2, rd_sl1, rd_sl2, rd_sr1, rd_sr2]) (by simp (disch := omega) only [rd_hi, rd_mi, rd_hl, rd_ml, rd_hr, rd_mr, rd_si2, rd_sl1, rd_sl2, rd_sr1, rd_sr2]) (by simp (disch := omega) only [rd_hi, rd_mi, rd_hl, rd_ml, rd_hr, rd_mr, rd_si2, rd_sl1, rd_sl2, rd_sr1, rd_sr2]) (by omega) (by simp (disch := omega) only [rd_hi, rd_mi, rd_hl, rd_ml, rd_hr, rd_mr, rd_si2, rd_sl1, rd_sl2, rd_sr1, rd_sr2]; rw [c7, c8]) (by simp (disch := omega) only [rd_hi, rd_mi, rd_hl, rd_ml, rd_hr, rd_mr, rd_si2, rd_sl1, rd_sl2, rd_sr1, rd_sr2]; rw [cD, cE]))
/-- the parts' ranges -/
theorem xX_sub {c : Nat} (hW : WFp P F ND) (hs : WSc P F) (hx : xX P F it n m cl ff M N x fr) (h1 : P 7 x ≤ c) (h2 : c < x) (h3 : ∀ k, c < k → k < x → c < P 7 k) (h4 : (P 0 x ≠ 304 ∧ P 0 x ≠ 306) ∨ c < P 7 (x - 1)) : xX P F it n m cl ff M N c fr := by
  refine xX_in hW hx h1 h2 h3 (fun y y1 y2 y3 y4 y5 => ?_)
  exfalso
  obtain ⟨x1, x2, x3, x4, x5⟩ := hx
  have w := hW.2.2.2 _ x2
  obtain ⟨v1, v2, v3, v4, v5, v6⟩ := w.2.2.2.2.2.2.2.2.2 x x3 x4
  have l1 := v5 c h1 (by omega)
  rcases h4 with h4 | h4
  · have := (hs _ x2 y (by omega) (by omega)).1 y3 y4
    unfold bD at this
    rw [y5] at this
    omega
  · obtain ⟨u1, u2, u3, u4, u5, u6⟩ := w.2.2.2.2.2.2.2.2.2 y (by omega) (by omega)
    have hS : pS P (ff fr) y (P 1 y) := by
      unfold pN sgK at u6
      rcases u6 with z | z | ⟨_, _, _, z⟩ | ⟨z, _⟩ | ⟨z, _⟩ | ⟨z, _⟩ | ⟨z, _⟩ | ⟨z, _⟩ | ⟨z, _⟩
      · omega
      · omega
      · exact z
      all_goals omega
    rcases hS with z | ⟨z1, z2, z3, z4, z5⟩
    · omega
    · rw [y5] at z4; omega
/-- what lies between -/
theorem lam_at {c : Nat} (hW : WFp P F ND) (hf : f < F) (h1 : P 15 f ≤ c) (h2 : c ≤ P 12 f) : ∀ k, P 7 c ≤ k → k ≤ c → P 7 c ≤ P 7 k := ((hW.2.2.2 f hf).2.2.2.2.2.2.2.2.2 c h1 h2).2.2.2.2.1
theorem zo_in {c : Nat} (hE : Ex P it n (zo P m M fr x) m pr cl ff M N m' pr' cl' ff' M' N') (h1 : P 7 x ≤ P 7 c) (h2 : c ≤ x) : ∀ f d, f ≤ cl → zo P m' M' fr c f d → zo P m M fr x f d := by
  intro f d hf z
  rcases z with z | ⟨z1, z2, z3⟩
  · rcases hE.2.2.2.2.2.2 f d hf z with y | y
    · exact .inl y
    · exact y
  · exact .inr ⟨z1, by omega, by omega⟩
end RX
