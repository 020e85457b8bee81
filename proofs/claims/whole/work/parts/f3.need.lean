/-! RUNS: what is demanded of the answer -/
noncomputable def cN (k : Nat) (M : mv_M) : Option (Unit × mv_M) := mv_bind (fX2_isToBeWorked (nI k) M) fun r1 M2 => if r1 = 0 then some ((), M2) else mv_chk (mv_inb (nI k) 1500) <| mv_chk (mv_inb (nI k) 1500) <| mv_bind (fX2_workOut (M2.1 55 k) (M2.1 56 k) M2) fun _ M5 => fX2_settle (nI k) M5
section RH1
variable {b h F ND n m pr cl pq cq pq' cq' m' pr' cl' m2 pr2 cl2 k t t' fr x st st' mx dp dd dd' kp kp' d tn tn' e i ty y y1 y2 f c c1 c2 c3 s nm p j q g cf A : Nat} {P : Nat → Nat → Nat} {it ff ff' ff2 : Nat → Nat} {M N M' N' M0 N0 M1 N1 M2 N2 M3 N3 : mv_M} {Z Z' : Nat → Nat → Prop} {v op a w r : Int32} {Wt Gt : Option (Unit × mv_M)}
theorem r_pop8 (e36 : N.1 62 36 = nI (t + 1)) (ht : t < 3000) (e74 : N.1 62 74 = nI 0) (hk : tk3 N t (nI 8) a w) : gX11_goes_0 N = mv_bind (fX11_need a (mv_si N 62 36 (nI t))) fun _ M8 => some (.inl (), M8) := by
  rw [r_pp e36 ht e74 hk]
  unfold gO fX11_goes_394
  rw [if_neg (by decide), if_neg (by decide), if_neg (by decide), if_neg (by decide), if_neg (by decide), if_neg (by decide), if_neg (by decide), if_pos (by decide)]
theorem r_pop9 (e36 : N.1 62 36 = nI (t + 1)) (ht : t < 3000) (e74 : N.1 62 74 = nI 0) (hk : tk3 N t (nI 9) a w) : gX11_goes_0 N = mv_bind (fX11_demand a w (mv_si N 62 36 (nI t))) fun _ M8 => some (.inl (), M8) := by
  rw [r_pp e36 ht e74 hk]
  unfold gO fX11_goes_394
  rw [if_neg (by decide), if_neg (by decide), if_neg (by decide), if_neg (by decide), if_neg (by decide), if_neg (by decide), if_neg (by decide), if_neg (by decide)]
theorem c_settle1 (hk : k < 1540) (e2 : M.1 7 2 = nI 0) : fX2_settle (nI k) M = some ((), mv_si (mv_si M 57 k (nI 2)) 58 k (M.1 7 9)) := by
  unfold fX2_settle
  rw [c_has hk, k_bs, if_neg (by decide)]
  simp (disch := omega) only [↓reduceIte, e2, k_iT, k_iF, Bool.false_eq_true, eq_self, Nat.add_zero, k_lt', k_bs, k_T, k_F, k_inb, k_ck, k_nz, ↓kN, kL, k_lt, k_le, k_eq, kn_le, kn_lt, kn_eq, kn_le', kn_lt', kn_eq', nI_clamp, nI_add, k_sub, k_mul, k_div, rd_hi, rd_mi, rd_hl, rd_ml, rd_hr, rd_mr, rd_si2, rd_sl1, rd_sl2, rd_sr1, rd_sr2]
theorem c_settle2 (hk : k < 1540) (e2 : M.1 7 2 = nI e) (h1 : 0 < e) (h2 : e < 100) : fX2_settle (nI k) M = some ((), M) := by
  unfold fX2_settle
  rw [c_has hk, k_bs, if_neg (by decide), if_neg]
  rw [e2, kM, k_eq (by omega) (by omega)]
  omega
theorem nd_thing (hS : SS b h P F ND it n m pr cl ff st mx 0 dd (t + 1) 0 M N) (hk : tk3 N t (nI 8) (nI (fi k)) w) (oK : oT P it n m M k ty) (ht : t + 3 ≤ 40) :
    (∃ M' N', cN k M = some ((), M') ∧ fX11_goes_0 N = some ((), N') ∧ Fn P n ff M N M' N') ∨
    (∃ M' N' m' pr' cl' ff' st' dd', cN k M = some ((), M') ∧ fX11_goes_0 N = fX11_goes_0 N' ∧ SS b h P F ND it n m' pr' cl' ff' st' mx 0 dd' t 0 M' N' ∧ Ex P it n (fun _ _ => True) m pr cl ff M N m' pr' cl' ff' M' N' ∧ gF M N M' N' ∧ kT t 0 N N' ∧ M'.1 7 9 = N'.1 62 78 ∧ N'.1 62 77 = nI (kD ty) ∧ vV P it n m' pr' M' N' (M'.1 7 9) ty) := by
  have hW := hS.1.1
  obtain ⟨⟨b1, b2, b3, b4, b5, b6⟩, ⟨b7, b8⟩, ⟨b9, bA⟩, ⟨bB', bC⟩, ⟨bD', bE⟩, ⟨bF, bG⟩, bH, bI⟩ := hS.2.2.2
  have hkb := oT_b hS.2.1.1.1 hS.2.1.1.2.2.2 oK
  have hfb := fi_b hkb
  have hr := r_pop8 bH (by omega) bG hk
  obtain ⟨s, a1, a2, a3, a4, a5, a6⟩ := hS.2.1.2.2.1 k ty oK
  obtain ⟨S2, E2, g2⟩ := SS_k (M' := M) (N' := mv_si N 62 36 (nI t)) (st' := st) (dd' := dd) (t' := t) (kp' := 0) hS rfl (fun a p u => rfl) rfl (fun a p u => by unfold kR' at u; simp (disch := omega) only [rd_hi, rd_mi, rd_hl, rd_ml, rd_hr, rd_mr, rd_si2, rd_sl1, rd_sl2, rd_sr1, rd_sr2]) ⟨⟨b1, b2, b3, b4, by omega, b6⟩, ⟨b7, by simp (disch := omega) only [rd_hi, rd_mi, rd_hl, rd_ml, rd_hr, rd_mr, rd_si2, rd_sl1, rd_sl2, rd_sr1, rd_sr2]; exact b8⟩, ⟨bB', by simp (disch := omega) only [rd_hi, rd_mi, rd_hl, rd_ml, rd_hr, rd_mr, rd_si2, rd_sl1, rd_sl2, rd_sr1, rd_sr2]; exact bC⟩, ⟨bD', by simp (disch := omega) only [rd_hi, rd_mi, rd_hl, rd_ml, rd_hr, rd_mr, rd_si2, rd_sl1, rd_sl2, rd_sr1, rd_sr2]; exact bE⟩, ⟨bF, by simp (disch := omega) only [rd_hi, rd_mi, rd_hl, rd_ml, rd_hr, rd_mr, rd_si2, rd_sl1, rd_sl2, rd_sr1, rd_sr2]; exact bG⟩, by simp (disch := omega) only [rd_hi, rd_mi, rd_hl, rd_ml, rd_hr, rd_mr, rd_si2, rd_sl1, rd_sl2, rd_sr1, rd_sr2], by simp (disch := omega) only [rd_hi, rd_mi, rd_hl, rd_ml, rd_hr, rd_mr, rd_si2, rd_sl1, rd_sl2, rd_sr1, rd_sr2]; exact bI⟩
  have oK2 := Ex_o (E2 (fun _ _ => False)) oK
  obtain ⟨S3, E3, g3⟩ := SS_mark S2 oK2
  have E03 : ∀ Z, Ex P it n Z m pr cl ff M N m pr cl ff _ _ := fun Z => Ex_tr (E2 Z) (E3 Z) (fun _ _ _ z => z)
  have g03 := gF_tr g2 g3
  have oK3 := Ex_o (E3 (fun _ _ => False)) oK2
  have r97 : (mv_si N 62 36 (nI t)).1 97 (fi k) = nI s := by simp (disch := omega) only [rd_hi, rd_mi, rd_hl, rd_ml, rd_hr, rd_mr, rd_si2, rd_sl1, rd_sl2, rd_sr1, rd_sr2]; exact a2
  by_cases hs2 : s = 2
  · subst hs2
    obtain ⟨v1, v2, v3⟩ := a6 rfl
    rw [rn_d hfb r97, k_bs] at hr
    have gN := G_go hr
    have c0 : cN k M = some ((), mv_si (mv_si M 59 k (nI 1)) 7 9 (M.1 58 k)) := by
      unfold cN
      rw [iw_d hkb a1, k_bs, if_pos rfl]
    rw [v1] at c0
    rw [show (mv_si N 62 36 (nI t)).1 98 (fi k) = nI (kD ty) by simp (disch := omega) only [rd_hi, rd_mi, rd_hl, rd_ml, rd_hr, rd_mr, rd_si2, rd_sl1, rd_sl2, rd_sr1, rd_sr2]; exact v2, show (mv_si N 62 36 (nI t)).1 99 (fi k) = N.1 99 (fi k) by simp (disch := omega) only [rd_hi, rd_mi, rd_hl, rd_ml, rd_hr, rd_mr, rd_si2, rd_sl1, rd_sl2, rd_sr1, rd_sr2]] at gN
    rw [v1] at v3
    generalize N.1 99 (fi k) = v at c0 gN v3
    obtain ⟨S4, E4, g4⟩ := SS_k (M' := mv_si (mv_si M 59 k (nI 1)) 7 9 v) (N' := mv_si (mv_si (mv_si (mv_si N 62 36 (nI t)) 100 (fi k) (nI 1)) 62 77 (nI (kD ty))) 62 78 v) (st' := st) (dd' := dd) (t' := t) (kp' := 0) S3 rfl (fun a p u => by unfold kC at u; simp (disch := omega) only [rd_hi, rd_mi, rd_hl, rd_ml, rd_hr, rd_mr, rd_si2, rd_sl1, rd_sl2, rd_sr1, rd_sr2]) rfl (fun a p u => by unfold kR' at u; simp (disch := omega) only [rd_hi, rd_mi, rd_hl, rd_ml, rd_hr, rd_mr, rd_si2, rd_sl1, rd_sl2, rd_sr1, rd_sr2]) ⟨⟨b1, b2, b3, b4, by omega, b6⟩, ⟨by simp (disch := omega) only [rd_hi, rd_mi, rd_hl, rd_ml, rd_hr, rd_mr, rd_si2, rd_sl1, rd_sl2, rd_sr1, rd_sr2]; exact b7, by simp (disch := omega) only [rd_hi, rd_mi, rd_hl, rd_ml, rd_hr, rd_mr, rd_si2, rd_sl1, rd_sl2, rd_sr1, rd_sr2]; exact b8⟩, ⟨by simp (disch := omega) only [rd_hi, rd_mi, rd_hl, rd_ml, rd_hr, rd_mr, rd_si2, rd_sl1, rd_sl2, rd_sr1, rd_sr2]; exact bB', by simp (disch := omega) only [rd_hi, rd_mi, rd_hl, rd_ml, rd_hr, rd_mr, rd_si2, rd_sl1, rd_sl2, rd_sr1, rd_sr2]; exact bC⟩, ⟨by simp (disch := omega) only [rd_hi, rd_mi, rd_hl, rd_ml, rd_hr, rd_mr, rd_si2, rd_sl1, rd_sl2, rd_sr1, rd_sr2]; exact bD', by simp (disch := omega) only [rd_hi, rd_mi, rd_hl, rd_ml, rd_hr, rd_mr, rd_si2, rd_sl1, rd_sl2, rd_sr1, rd_sr2]; exact bE⟩, ⟨by simp (disch := omega) only [rd_hi, rd_mi, rd_hl, rd_ml, rd_hr, rd_mr, rd_si2, rd_sl1, rd_sl2, rd_sr1, rd_sr2]; exact bF, by simp (disch := omega) only [rd_hi, rd_mi, rd_hl, rd_ml, rd_hr, rd_mr, rd_si2, rd_sl1, rd_sl2, rd_sr1, rd_sr2]; exact bG⟩, by simp (disch := omega) only [rd_hi, rd_mi, rd_hl, rd_ml, rd_hr, rd_mr, rd_si2, rd_sl1, rd_sl2, rd_sr1, rd_sr2], by simp (disch := omega) only [rd_hi, rd_mi, rd_hl, rd_ml, rd_hr, rd_mr, rd_si2, rd_sl1, rd_sl2, rd_sr1, rd_sr2]; exact bI⟩
    refine .inr ⟨_, _, m, pr, cl, ff, st, dd, c0, gN, S4, Ex_tr (E03 _) (E4 _) (fun _ _ _ z => z), gF_tr g03 g4, ⟨fun a i z hi => by simp (disch := omega) only [rd_hi, rd_mi, rd_hl, rd_ml, rd_hr, rd_mr, rd_si2, rd_sl1, rd_sl2, rd_sr1, rd_sr2], fun i hi => by omega⟩, by simp (disch := omega) only [rd_hi, rd_mi, rd_hl, rd_ml, rd_hr, rd_mr, rd_si2, rd_sl1, rd_sl2, rd_sr1, rd_sr2], by simp (disch := omega) only [rd_hi, rd_mi, rd_hl, rd_ml, rd_hr, rd_mr, rd_si2, rd_sl1, rd_sl2, rd_sr1, rd_sr2], ?_⟩
    rw [rd_hi ⟨rfl, rfl⟩]
    exact Ex_v (Ex_tr (E03 (fun _ _ => False)) (E4 (fun _ _ => False)) (fun _ _ _ z => z)) v3
  by_cases hs0 : s = 0
  · subst hs0
    have hkm := a4 rfl
    have hm5 := hS.2.1.1.1
    obtain ⟨S4, E4, g4, O4⟩ := SS_wk S3 oK3 hkm (by simp (disch := omega) only [rd_hi, rd_mi, rd_hl, rd_ml, rd_hr, rd_mr, rd_si2, rd_sl1, rd_sl2, rd_sr1, rd_sr2]; exact a1)
    obtain ⟨c, f', u1, u2, u3, u4, u5, u6⟩ := hS.2.1.2.1 k hkm
    have fk := fi_lt (k := k) (by omega)
    rw [rn_w (t := t) hfb r97 (by simp (disch := omega) only [rd_hi, rd_mi, rd_hl, rd_ml, rd_hr, rd_mr, rd_si2, rd_sl1, rd_sl2, rd_sr1, rd_sr2]) (by omega), k_bs, fk, show (mv_si N 62 36 (nI t)).1 95 (40 + k) = nI (P 6 c) by simp (disch := omega) only [rd_hi, rd_mi, rd_hl, rd_ml, rd_hr, rd_mr, rd_si2, rd_sl1, rd_sl2, rd_sr1, rd_sr2]; exact u4, show (mv_si N 62 36 (nI t)).1 96 (40 + k) = nI f' by simp (disch := omega) only [rd_hi, rd_mi, rd_hl, rd_ml, rd_hr, rd_mr, rd_si2, rd_sl1, rd_sl2, rd_sr1, rd_sr2]; exact u5] at hr
    rw [fk] at S4 E4 g4 S3 E3 g3 E03 g03
    have c0 : cN k M = mv_bind (fX2_workOut (nI c) (nI f') (mv_si (mv_si M 59 k (nI 1)) 57 k (nI 1))) fun _ M5 => fX2_settle (nI k) M5 := by
      unfold cN
      rw [iw_w (by omega) a1, k_bs, if_neg (by decide), k_inb (by omega) (by omega), k_ck, k_ck, show (mv_si (mv_si M 59 k (nI 1)) 57 k (nI 1)).1 55 k = nI c by simp (disch := omega) only [rd_hi, rd_mi, rd_hl, rd_ml, rd_hr, rd_mr, rd_si2, rd_sl1, rd_sl2, rd_sr1, rd_sr2]; exact u1, show (mv_si (mv_si M 59 k (nI 1)) 57 k (nI 1)).1 56 k = nI f' by simp (disch := omega) only [rd_hi, rd_mi, rd_hl, rd_ml, rd_hr, rd_mr, rd_si2, rd_sl1, rd_sl2, rd_sr1, rd_sr2]; exact u3]
    generalize hN4 : mv_si (mv_si (mv_si N 62 36 (nI t)) 100 (40 + k) (nI 1)) 97 (40 + k) (nI 1) = N4 at S4 E4 g4 hr
    generalize hN5 : pT (pT N4 t (nI 3) (nI (40 + k)) (nI 0)) (t + 1) (nI 1) (nI (P 6 c)) (nI f') = N5 at hr
    have gN : fX11_goes_0 N = fX11_goes_0 N5 := G_go hr
    have eN5 : ∀ a p, ¬ ((a = 62 ∧ p = 36) ∨ ((a = 81 ∨ a = 82 ∨ a = 85) ∧ t ≤ p)) → N5.1 a p = N4.1 a p := by
      intro a p u
      rw [← hN5, pT_s (by omega), pT_s (by omega)]
    have eN4 : ∀ a p, ¬ (a = 100 ∨ a = 97 ∨ (a = 62 ∧ p = 36)) → N4.1 a p = N.1 a p := by
      intro a p u
      rw [← hN4]; simp (disch := omega) only [rd_hi, rd_mi, rd_hl, rd_ml, rd_hr, rd_mr, rd_si2, rd_sl1, rd_sl2, rd_sr1, rd_sr2]
    generalize hM4 : mv_si (mv_si M 59 k (nI 1)) 57 k (nI 1) = M4 at S4 E4 g4 O4 c0
    obtain ⟨⟨d1, d2, d3, d4, d5, d6⟩, ⟨d7, d8⟩, ⟨d9, dA⟩, ⟨dB, dC⟩, ⟨dD, dE⟩, ⟨dF, dG⟩, dH, dI⟩ := S4.2.2.2
    obtain ⟨S5, E5, g5⟩ := SS_k (M' := M4) (N' := N5) (st' := st) (dd' := dd) (t' := t + 2) (kp' := 0) S4 rfl (fun a p u => rfl) (by rw [← hN5]; rfl) (fun a p u => eN5 a p (by unfold kR' at u; omega)) ⟨⟨d1, d2, d3, d4, by omega, d6⟩, ⟨d7, (eN5 _ _ (by omega)).trans d8⟩, ⟨dB, (eN5 _ _ (by omega)).trans dC⟩, ⟨dD, (eN5 _ _ (by omega)).trans dE⟩, ⟨dF, (eN5 _ _ (by omega)).trans dG⟩, by rw [← hN5]; exact pT_36, (eN5 _ _ (by omega)).trans dI⟩
    have E05 : ∀ Z, Ex P it n Z m pr cl ff M N m pr cl ff M4 N5 := fun Z => Ex_tr (Ex_tr (E03 Z) (E4 Z) (fun _ _ _ z => z)) (E5 Z) (fun _ _ _ z => z)
    have g05 := gF_tr (gF_tr g03 g4) g5
    have xc := Ex_x (E05 (fun _ _ => False)) u6
    have h7c : P 7 c ≤ c := ((hW.2.2.2 _ u6.2.1).2.2.2.2.2.2.2.2.2 c u6.2.2.1 u6.2.2.2.1).2.2.2.1
    have hoc := O4 c f' (by simp (disch := omega) only [rd_hi, rd_mi, rd_hl, rd_ml, rd_hr, rd_mr, rd_si2, rd_sl1, rd_sl2, rd_sr1, rd_sr2]; exact u1) u2 (by simp (disch := omega) only [rd_hi, rd_mi, rd_hl, rd_ml, rd_hr, rd_mr, rd_si2, rd_sl1, rd_sl2, rd_sr1, rd_sr2]; exact u3) h7c
    have t1 : tk3 N5 (t + 1) (nI 1) (nI (P 6 c)) (nI f') := by rw [← hN5]; exact pT_top
    have t0 : tk3 N5 t (nI 3) (nI (40 + k)) (nI 0) := by rw [← hN5]; exact tk3_p pT_top (by omega)
    obtain ⟨Mc, en1, R1⟩ := ev_all (mx - st) m pr cl ff st mx 0 dd (t + 1) 0 0 c f' M4 N5 (by omega) S5 t1 xc hoc (by omega)
    have c1 : cN k M = mv_bind (fX2_workOut_8 (nI 0) Mc) fun _ M5 => fX2_settle (nI k) M5 := by
      rw [c0]
      unfold fX2_workOut
      rw [en1, k_bs]
      rfl
    rcases R1 with ⟨M', N', r1, r2, r3⟩ | ⟨M6, N6, m6, pr6, cl6, ff6, st6, dd6, tn6, r1, r2, ⟨r3, r4⟩, r5, r6, r7, ⟨r8, r9⟩, rA, rB, rC⟩
    · obtain ⟨e, m', ⟨f1, f2, f3, f4⟩, _⟩ := r3.1
      refine .inl ⟨M', N', ?_, gN.trans r2, Fn_tr (E05 (fun _ _ => False)) g05 r3⟩
      rw [c1, r1, k_bs]
      exact c_settle2 hkb f1 (by omega) (by omega)
    obtain ⟨⟨i1, i2, i3, i4, i5, i6⟩, ⟨i7, i8⟩, ⟨i9, iA⟩, ⟨iB, iC⟩, ⟨iD, iE⟩, ⟨iF, iG⟩, iH, iI⟩ := r5.2.2.2
    have etc : P 5 c = ty := oT_u hS.2.1.1.1 (.inl ⟨hkm, c, u1, u2, rfl⟩) oK
    rw [etc] at rB rC
    have oK6 := Ex_o r6 (Ex_o (E05 (fun _ _ => False)) oK)
    have gK := G_go (r_pop3 (t := t) (y := 40 + k) iH (by omega) iG (tk3_s t0 r9 (by omega)) (by omega))
    rw [rB] at gK
    obtain ⟨S7, E7, g7⟩ := SS_k (M' := M6) (N' := mv_si N6 62 36 (nI t)) (st' := st6) (dd' := dd6) (t' := t) (kp' := 0) r5 rfl (fun a p u => rfl) rfl (fun a p u => by unfold kR' at u; simp (disch := omega) only [rd_hi, rd_mi, rd_hl, rd_ml, rd_hr, rd_mr, rd_si2, rd_sl1, rd_sl2, rd_sr1, rd_sr2]) ⟨⟨i1, i2, i3, i4, by omega, by omega⟩, ⟨i7, by simp (disch := omega) only [rd_hi, rd_mi, rd_hl, rd_ml, rd_hr, rd_mr, rd_si2, rd_sl1, rd_sl2, rd_sr1, rd_sr2]; exact i8⟩, ⟨iB, by simp (disch := omega) only [rd_hi, rd_mi, rd_hl, rd_ml, rd_hr, rd_mr, rd_si2, rd_sl1, rd_sl2, rd_sr1, rd_sr2]; exact iC⟩, ⟨iD, by simp (disch := omega) only [rd_hi, rd_mi, rd_hl, rd_ml, rd_hr, rd_mr, rd_si2, rd_sl1, rd_sl2, rd_sr1, rd_sr2]; exact iE⟩, ⟨iF, by simp (disch := omega) only [rd_hi, rd_mi, rd_hl, rd_ml, rd_hr, rd_mr, rd_si2, rd_sl1, rd_sl2, rd_sr1, rd_sr2]; exact iG⟩, by simp (disch := omega) only [rd_hi, rd_mi, rd_hl, rd_ml, rd_hr, rd_mr, rd_si2, rd_sl1, rd_sl2, rd_sr1, rd_sr2], by simp (disch := omega) only [rd_hi, rd_mi, rd_hl, rd_ml, rd_hr, rd_mr, rd_si2, rd_sl1, rd_sl2, rd_sr1, rd_sr2]; exact iI⟩
    have vC7 := Ex_v (E7 (fun _ _ => False)) rC
    rw [rA] at vC7
    obtain ⟨S8, E8, g8⟩ := SS_set S7 (Ex_o (E7 (fun _ _ => False)) oK6) vC7
    rw [fk] at S8 E8 g8
    have vC8 := Ex_v (E8 (fun _ _ => False)) vC7
    have w3 : cN k M = some ((), mv_si (mv_si M6 57 k (nI 2)) 58 k (N6.1 62 78)) := by
      rw [c1, r1, W_out iB, k_bs, c_settle1 hkb iF, rA]
    have E06 : Ex P it n (fun _ _ => True) m pr cl ff M N m6 pr6 cl6 ff6 M6 N6 := Ex_tr (E05 _) r6 (fun _ _ _ _ => trivial)
    refine .inr ⟨_, _, m6, pr6, cl6, ff6, st6, dd6, w3, gN.trans (r2.trans gK), S8, Ex_tr (Ex_tr E06 (E7 _) (fun _ _ _ z => z)) (E8 _) (fun _ _ _ z => z), gF_tr (gF_tr (gF_tr g05 r7) g7) g8, ⟨fun a i z hi => ?_, fun i hi => by omega⟩, ?_, ?_, ?_⟩
    · simp (disch := omega) only [rd_hi, rd_mi, rd_hl, rd_ml, rd_hr, rd_mr, rd_si2, rd_sl1, rd_sl2, rd_sr1, rd_sr2]
      rw [r9.1 a i z (by omega), eN5 _ _ (by omega), eN4 _ _ (by omega)]
    · simp (disch := omega) only [rd_hi, rd_mi, rd_hl, rd_ml, rd_hr, rd_mr, rd_si2, rd_sl1, rd_sl2, rd_sr1, rd_sr2]; exact rA
    · simp (disch := omega) only [rd_hi, rd_mi, rd_hl, rd_ml, rd_hr, rd_mr, rd_si2, rd_sl1, rd_sl2, rd_sr1, rd_sr2]; exact rB
    · rw [show (mv_si (mv_si M6 57 k (nI 2)) 58 k (N6.1 62 78)).1 7 9 = N6.1 62 78 by simp (disch := omega) only [rd_hi, rd_mi, rd_hl, rd_ml, rd_hr, rd_mr, rd_si2, rd_sl1, rd_sl2, rd_sr1, rd_sr2]; exact rA]
      exact vC8
  · have hs13 : s = 1 ∨ s = 3 := by omega
    rw [rn_u hfb r97 hs13, k_bs] at hr
    have c0 : cN k M = some ((), mv_si (mv_si M 59 k (nI 1)) 7 2 (nI 2)) := by
      unfold cN
      rw [iw_u hkb a1 hs13, k_bs, if_pos rfl]
    refine .inl ⟨_, _, c0, (G_go hr).trans (G_end (e := 2) (by simp (disch := omega) only [rd_hi, rd_mi, rd_hl, rd_ml, rd_hr, rd_mr, rd_si2, rd_sl1, rd_sl2, rd_sr1, rd_sr2]) (by omega) (by omega)), Fn_tr (E03 (fun _ _ => False)) g03 (Fn_c (e := 2) S3 rfl (fun a p u => by unfold kC at u; simp (disch := omega) only [rd_hi, rd_mi, rd_hl, rd_ml, rd_hr, rd_mr, rd_si2, rd_sl1, rd_sl2, rd_sr1, rd_sr2]) rfl (fun a p u => by unfold kR' at u; simp (disch := omega) only [rd_hi, rd_mi, rd_hl, rd_ml, rd_hr, rd_mr, rd_si2, rd_sl1, rd_sl2, rd_sr1, rd_sr2]) (by simp (disch := omega) only [rd_hi, rd_mi, rd_hl, rd_ml, rd_hr, rd_mr, rd_si2, rd_sl1, rd_sl2, rd_sr1, rd_sr2]) (by simp (disch := omega) only [rd_hi, rd_mi, rd_hl, rd_ml, rd_hr, rd_mr, rd_si2, rd_sl1, rd_sl2, rd_sr1, rd_sr2]) (by omega) (by simp (disch := omega) only [rd_hi, rd_mi, rd_hl, rd_ml, rd_hr, rd_mr, rd_si2, rd_sl1, rd_sl2, rd_sr1, rd_sr2]; rw [b7, b8]) (by simp (disch := omega) only [rd_hi, rd_mi, rd_hl, rd_ml, rd_hr, rd_mr, rd_si2, rd_sl1, rd_sl2, rd_sr1, rd_sr2]; rw [bD', bE]))⟩
end RH1
