section JA
variable {b h n cnt f i m nd nb pl xn an ot x K k o t : Nat} {L : List (Nat × Int32)} {D W Y : List Int32} {M M' M0 N N' N0 N1 N2 : mv_M} {T : Nat → Nat} {g : Nat → Nat → Nat}
theorem c_text (hx : cX b M0 T n cnt) (hW : cW b M0 M) (hi : i < cnt) (hk : lx_k T n (lx_st T n i) = 2 ∨ lx_k T n (lx_st T n i) = 3) : fX8_textOf (nI i) M = some (lx_tx T n (lx_st T n i), M) := by
  obtain ⟨a1, a2, a3, a4, a5⟩ := cW_tok hx hW
  have hcnt := hx.2.2.1.2.1
  obtain ⟨t1, t2, t3, t4⟩ := hx.2.2.1.2.2.1 i hi
  have e : M.2.1 42 i = lx_tx T n (lx_st T n i) := by
    rw [a4]
    refine t4 (lx_kd_rw (n := n) ?_)
    unfold lx_k at hk
    rw [if_pos t1] at hk
    exact hk
  unfold fX8_textOf fX8_textOf_12
  simp (disch := omega) only [a1, e, k_iT, k_iF, Bool.false_eq_true, eq_self, Nat.add_zero, k_lt', k_bs, k_T, k_F, k_inb, k_ck, k_nz, ↓kN, kL, k_lt, k_le, k_eq, kn_le, kn_lt, kn_eq, kn_le', kn_lt', kn_eq', nI_clamp, nI_add, k_sub, k_mul, k_div, rd_hi, rd_mi, rd_hl, rd_ml, rd_hr, rd_mr, rd_si2, rd_sl1, rd_sl2, rd_sr1, rd_sr2]
theorem cD_text' {α : Type} {Q : α → mv_M → Prop} {a : Int32} {gg : Int64 → mv_M → Option (α × mv_M)} (hx : cX b M0 T n cnt) (hd : cD b M0 T n cnt f nb pl M) (hg : ∀ v, mv_ok (gg v M) Q) : mv_ok (mv_bind (fX8_textOf a M) gg) Q := by
  have hc := hx.2.2.1.2.1
  obtain ⟨a1, a2, a3, a4, a5⟩ := cW_tok hx (cD_B hd).1.1
  unfold fX8_textOf fX8_textOf_12
  rw [a1]
  refine ok_bind (ok_if (fun _ => ok_some (hg _)) (fun z0 => ok_if (fun z => ok_chk ?_ (ok_some (hg _))) (fun _ => ok_some (hg _))))
  refine inb_of (nd := cnt) z0 (fun y => ?_) (by omega) (by omega)
  rw [lt_toInt] at z
  rw [le_toInt] at y
  omega
theorem rFt_make {v : Int32} {l : Nat} (a : rFt h f N0 nb pl N) (e : N.1 62 38 = nI l) (hl : l < 1100) : ∃ N', fX11_make v N = some ((), N') ∧ rFt h f N0 nb pl N' := by
  obtain ⟨a1, a2, a3, a4, a5, a6⟩ := a
  refine ⟨mv_si (mv_si N 83 l v) 62 38 (nI (l + 1)), ?_, ⟨by simp (disch := omega) only [rd_hi, rd_mi, rd_hl, rd_ml, rd_hr, rd_mr, rd_si2, rd_sl1, rd_sl2, rd_sr1, rd_sr2]; exact a1, a2, a3, by simp (disch := omega) only [rd_hi, rd_mi, rd_hl, rd_ml, rd_hr, rd_mr, rd_si2, rd_sl1, rd_sl2, rd_sr1, rd_sr2]; exact a4, rW_si (rW_si a5 (by unfold rWa; omega)) (by unfold rWa; omega), by simp (disch := omega) only [rd_hi, rd_mi, rd_hl, rd_ml, rd_hr, rd_mr, rd_si2, rd_sl1, rd_sl2, rd_sr1, rd_sr2]; exact a6⟩⟩
  unfold fX11_make
  simp (disch := omega) only [e, k_iT, k_iF, Bool.false_eq_true, eq_self, Nat.add_zero, k_lt', k_bs, k_T, k_F, k_inb, k_ck, k_nz, ↓kN, kL, k_lt, k_le, k_eq, kn_le, kn_lt, kn_eq, kn_le', kn_lt', kn_eq', nI_clamp, nI_add, k_sub, k_mul, k_div, rd_hi, rd_mi, rd_hl, rd_ml, rd_hr, rd_mr, rd_si2, rd_sl1, rd_sl2, rd_sr1, rd_sr2]
set_option maxHeartbeats 4000000 in
theorem j_number (hx : pX b h M0 N0 T n cnt f) (hk : 0 < k) (ho : o < 20) (hL : L.length ≤ 20 * o + 8) (hB : 1001 * h ≤ xn ∧ xn ≤ 1001 * h + i ∧ 1001 * h ≤ an ∧ an + D.length + W.length ≤ 1001 * h + i) (hc : cO b M0 T n cnt f i m nd M) (hr : rO h N0 T n f i m xn an ((10, nI 0) :: L) D W Y (o + 1) N) (hkd : lx_k T n (lx_st T n i) = 3) : J b h M0 N0 T n cnt f N (RX3_parseE k 5 (nI (o + 1)) 0 M) (EQ (lbB (20 * o + 8)) b h M0 N0 T n cnt f i m nd xn an L D W Y (o + 1) g M N) := by
  have hb := hx.1.1
  have hh := hx.2.2.1
  have hi1 := hc.2.2.2.1
  have hnd := hc.2.2.2.2.2.2.2.2.1
  have hlt := (tk_kind hx.1 hc.2.2.1 hi1).2.2 (by omega)
  have ek := cO_kind hx.1 hc
  rw [hkd] at ek
  obtain ⟨j, rfl⟩ : ∃ j, k = j + 1 := ⟨k - 1, by omega⟩
  rw [RX3_parseE, if_neg (by decide), if_neg (by decide), if_neg (by decide), if_neg (by decide), if_neg (by decide), if_pos rfl]
  unfold fX3_parseAtom
  rw [k_lt', hc.2.1]
  refine J_bs ek (J_F (by decide) (J_T rfl ?_))
  obtain ⟨q0, s0⟩ := r_pop hr
  have t0 := rO_tk q0
  have u0 := rO_ta q0
  have am := q0.2.2.2.1.2.2.2.2 hkd
  rw [hkd] at t0
  obtain ⟨N2, p2, q2, s2, x1, x2⟩ := r_node (kd := nI 5) (pl := nI (lx_st T n i)) q0 hh (by omega) (by omega)
  have am2 := q2.2.2.2.1.2.2.2.2 hkd
  have q3 := rO_si (c := 72) (k := xn) (v := (lx_tx T n (lx_st T n i)).toInt32) q2 hh (by omega)
  obtain ⟨N4, p4, q4, s4⟩ := r_make (v := nI xn) q3 (by omega)
  obtain ⟨M1, NC, e1, e2, e3, e4⟩ := j_pass hx hc q4 (by omega)
  have eP : fX11_parse_26 N = fX11_parse_26 NC := by
    refine P_go ((g_sum hr (by omega) (by omega)).trans ?_)
    unfold fX11_onSum fX11_onAtom
    simp (disch := omega) only [t0, u0, show lx_tk 3 = 11 from rfl, p2, am2, p4, e2, k_iT, k_iF, Bool.false_eq_true, eq_self, Nat.add_zero, k_lt', k_bs, k_T, k_F, k_inb, k_ck, k_nz, ↓kN, kL, k_lt, k_le, k_eq, kn_le, kn_lt, kn_eq, kn_le', kn_lt', kn_eq', nI_clamp, nI_add, k_sub, k_mul, k_div, rd_hi, rd_mi, rd_hl, rd_ml, rd_hr, rd_mr, rd_si2, rd_sl1, rd_sl2, rd_sr1, rd_sr2]
  refine J_bs e1 (J_step eP ?_)
  rcases e4 with ⟨nb, pl, d1, d2⟩ | ⟨d1, d2, d3⟩
  · refine J_dead ?_ (P_fault d2)
    refine cD_getp hx.1 d1 (cD_text' hx.1 d1 (fun v => ?_))
    (have hx1 := hx.1; have hx2 := hx.1.1; (repeat' first | with_reducible exact ok_some ‹_› | with_reducible refine cD_bindR (cD_take' hx1 ‹_› (by decide) (by decide)) (fun _ _ _ => ?_) | with_reducible refine cD_bindR (cD_E' hx1 ‹_› (by omega)) (fun _ _ _ => ?_) | with_reducible refine cD_bindR (cD_type' hx1 ‹_› (by omega)) (fun _ _ _ => ?_) | with_reducible refine cD_bindR (cD_sides' hx1 ‹_› (by omega) (by omega)) (fun _ _ _ => ?_) | with_reducible refine cD_bindR (cD_tType hx1 ‹_›) (fun _ _ _ => ?_) | with_reducible refine ok_pairOf (fun _ => ?_) | with_reducible refine cD_getp hx1 ‹_› ?_ | with_reducible refine cD_bind (cD_node hx1 ‹_›) (fun _ _ _ => ?_) | with_reducible refine cD_bind (cD_inner hx1 ‹_›) (fun _ _ _ => ?_) | with_reducible refine cD_textOf hx1 ‹_› (fun _ => ?_) | with_reducible refine cD_has hx1 ‹_› ?_ (fun _ => ?_) | with_reducible refine cD_kindB hx1 ‹_› (fun _ _ => ?_) | with_reducible refine cD_ifk ‹_› (by decide) (by decide) ?_ | with_reducible exact cD_call hx1 ‹_› | with_reducible exact ok_some (cD_si hx2 ‹_› (by omega))))
  refine J_getp hx d2.1.1 ?_
  refine J_bs (c_text hx.1 d2.1.1 hlt (.inr hkd)) ?_
  obtain ⟨M7, z1, z2, z3, z4, z5, z6, z7, z8, z9⟩ := c_node (kd := 3) (t := nI i) (a1 := (lx_tx T n (lx_st T n i)).toInt32) (a2 := -1) (a3 := -1) hb d2 (by have := hc.2.2.2.2.2.2.2.2.1; omega)
  refine J_bs z1 (J_some ?_)
  have s5 : rS N4 NC := rS_tk e3
  refine EQ_leaf (t := i) (x := xn) rfl z2 d3 (by omega) (by omega) ⟨hi1, kd_lt (T := T) (by omega)⟩ z5 ?_ (.inl ⟨z4, ?_, ?_⟩) ?_ ?_
  · rw [s5.1 _ _ (by omega), s4.1 _ _ (by omega)]; simp (disch := omega) only [rd_hi, rd_mi, rd_hl, rd_ml, rd_hr, rd_mr, rd_si2, rd_sl1, rd_sl2, rd_sr1, rd_sr2]; exact x2
  · rw [s5.1 _ _ (by omega), s4.1 _ _ (by omega)]; simp (disch := omega) only [rd_hi, rd_mi, rd_hl, rd_ml, rd_hr, rd_mr, rd_si2, rd_sl1, rd_sl2, rd_sr1, rd_sr2]; exact x1
  · rw [s5.1 _ _ (by omega), s4.1 _ _ (by omega)]; simp (disch := omega) only [rd_hi, rd_mi, rd_hl, rd_ml, rd_hr, rd_mr, rd_si2, rd_sl1, rd_sl2, rd_sr1, rd_sr2]; exact z6
  · exact cE_trans (cE_3 d1) z3 (by omega) (by omega)
  · exact rE_trans (rS_E s0) (rE_trans (rE_si s2 (by unfold rEa; omega)) (rS_E (m := m) (xn := xn) (an := an) (rS_trans s4 s5)) (by omega) (by omega) (by omega)) (by omega) (by omega) (by omega)
set_option maxHeartbeats 4000000 in
theorem j_fail (hx : pX b h M0 N0 T n cnt f) (hk : 0 < k) (ho : o < 20) (hL : L.length ≤ 20 * o + 8) (hY : Y.length ≤ 4) (hB : 1001 * h ≤ xn ∧ xn ≤ 1001 * h + i ∧ 1001 * h ≤ an ∧ an + D.length + W.length ≤ 1001 * h + i) (hc : cO b M0 T n cnt f i m nd M) (hr : rO h N0 T n f i m xn an ((10, nI 0) :: L) D W Y (o + 1) N) (hkd : lx_k T n (lx_st T n i) = 308) : J b h M0 N0 T n cnt f N (RX3_parseE k 5 (nI (o + 1)) 0 M) (EQ (lbB (20 * o + 8)) b h M0 N0 T n cnt f i m nd xn an L D W Y (o + 1) g M N) := by
  have hb := hx.1.1
  have hh := hx.2.2.1
  have hi1 := hc.2.2.2.1
  have hnd := hc.2.2.2.2.2.2.2.2.1
  have ek := cO_kind hx.1 hc
  rw [hkd] at ek
  obtain ⟨j, rfl⟩ : ∃ j, k = j + 1 := ⟨k - 1, by omega⟩
  rw [RX3_parseE, if_neg (by decide), if_neg (by decide), if_neg (by decide), if_neg (by decide), if_neg (by decide), if_pos rfl]
  unfold fX3_parseAtom fX3_parseFail
  rw [k_lt', hc.2.1]
  refine J_bs ek (J_F (by decide) (J_F (by decide) (J_F (by decide) (J_T rfl ?_))))
  obtain ⟨q0, s0⟩ := r_pop hr
  have t0 := rO_tk q0
  have u0 := rO_ta q0
  rw [hkd] at t0
  obtain ⟨N2, p2, q2, s2, x1, x2⟩ := r_node (kd := nI 6) (pl := nI (lx_st T n i)) q0 hh (by omega) (by omega)
  obtain ⟨N3, p3, q3, s3⟩ := r_push (s := 19) (w := nI xn) q2 (by omega)
  obtain ⟨N4, p4, q4, s4⟩ := r_push (s := 2) (w := nI 0) q3 (by simp only [List.length_cons]; omega)
  obtain ⟨M1, NC, e1, e2, e3, e4⟩ := j_pass hx hc q4 (by omega)
  have eP : fX11_parse_26 N = fX11_parse_26 NC := by
    refine P_go ((g_sum hr (by omega) (by omega)).trans ?_)
    unfold fX11_onSum fX11_onAtom
    simp (disch := omega) only [t0, u0, show lx_tk 308 = 9 from rfl, p2, p3, p4, e2, k_iT, k_iF, Bool.false_eq_true, eq_self, Nat.add_zero, k_lt', k_bs, k_T, k_F, k_inb, k_ck, k_nz, ↓kN, kL, k_lt, k_le, k_eq, kn_le, kn_lt, kn_eq, kn_le', kn_lt', kn_eq', nI_clamp, nI_add, k_sub, k_mul, k_div, rd_hi, rd_mi, rd_hl, rd_ml, rd_hr, rd_mr, rd_si2, rd_sl1, rd_sl2, rd_sr1, rd_sr2]
  have hdead : ∀ (nb pl : Nat) (r1 : Int32) (M2 : mv_M), cD b M0 T n cnt f nb pl M2 → mv_ok (mv_getp (M2.2.2 3 2) fun b3 => mv_bind (fX4_addNode b3 308 (nI i) (-1) (-1) (-1) M2) fun r4 M5 => mv_getp (M5.2.2 3 2) fun b6 => mv_bind (fX4_hasNode b6 r4 M5) fun r7 M8 => if r7 = 0 then some (r4, M8) else mv_getp (M8.2.2 3 2) fun b9 => mv_chk (mv_inb r4 1000) <| mv_let (mv_si M8 (b9 + 13) r4.toNatClampNeg r1) fun M11 => some (r4, M11)) (fun _ M'' => cD b M0 T n cnt f nb pl M'') := by
    intro nb pl r1 M2 hd
    refine cD_getp hx.1 hd (cD_bind (cD_node hx.1 hd) (fun r4 M5 h5 => cD_getp hx.1 h5 ?_))
    exact cD_has (A := fun M8 => some (r4, M8)) (B := fun b9 M8 => mv_let (mv_si M8 (b9 + 13) r4.toNatClampNeg r1) fun M11 => some (r4, M11)) hx.1 h5 (ok_some h5) (fun _ => ok_let (ok_some (cD_si hb h5 (by omega))))
  refine J_bs e1 (J_step eP ?_)
  rcases e4 with ⟨nb, pl, d1, d2⟩ | ⟨d1, d2, d3⟩
  · refine J_dead (cD_bind (cD_bindR (cD_tType hx.1 d1) (fun r1 M2 hd => hdead nb pl r1 M2 hd)) (fun _ _ hd => ok_some hd)) (P_fault d2)
  refine J_bind (Q := EQ (lbB (20 * o + 8)) b h M0 N0 T n cnt f i m nd xn an L D W Y (o + 1) g M N) ?_ (fun nb pl r M' hd => ok_some hd) (fun r M' N' hq => J_some hq)
  refine J_bind (j_type hx 2 0 12 (i + 1) _ Y M1 NC (by omega) (by omega) (by simp only [List.length_cons]; omega) (by omega) d2 d3) (fun nb pl r M' hd => hdead nb pl r M' hd) ?_
  rintro r M2 ND ⟨i', y, rfl, a1, a2, a3, a4, a5, a6, a7, a8⟩
  have hi' := a5.2.2.2.1
  refine J_getp hx a5.1.1 ?_
  obtain ⟨M7, z1, z2, z3, z4, z5, z6, z7, z8, z9⟩ := c_node (kd := 308) (t := nI i) (a1 := -1) (a2 := -1) (a3 := -1) hb a5 (by have := hc.2.2.2.2.2.2.2.2.1; omega)
  refine J_bs z1 (J_getp hx z2.1.1 ?_)
  have hnode : fX4_hasNode b (nI nd) M7 = some (1, M7) := by
    have := z2.2.2.2.2.2.2.2.1
    have h2 := z2.2.2.2.2.2.2.2.2.1
    unfold fX4_hasNode
    simp (disch := omega) only [this, k_iT, k_iF, Bool.false_eq_true, eq_self, Nat.add_zero, k_lt', k_bs, k_T, k_F, k_inb, k_ck, k_nz, ↓kN, kL, k_lt, k_le, k_eq, kn_le, kn_lt, kn_eq, kn_le', kn_lt', kn_eq', nI_clamp, nI_add, k_sub, k_mul, k_div, rd_hi, rd_mi, rd_hl, rd_ml, rd_hr, rd_mr, rd_si2, rd_sl1, rd_sl2, rd_sr1, rd_sr2]
  have hnd1 := z2.2.2.2.2.2.2.2.2.1
  refine J_bs hnode (J_F (by decide) (J_getp hx z2.1.1 ?_))
  rw [k_inb (by omega) (by omega), k_ck, nI_clamp (by omega), k_lt']
  -- the reference's node
  obtain ⟨w0, w1⟩ := r_pop a6
  obtain ⟨w2, w3⟩ := r_untype w0
  have l9 := w0.2.2.2.2.2.2.2.2.2.2.2.1
  have l10 := l9.1
  rw [List.length_cons] at l10
  have w4 := rO_si (c := 72) (k := xn) (v := nI y) w2 hh (by omega)
  obtain ⟨NE, v1, v2, v3⟩ := r_make (v := nI xn) w4 (by omega)
  have eQ : fX11_parse_26 ND = fX11_parse_26 NE := by
    refine P_go ((g_rest a6 (by omega) (by omega)).trans ?_)
    have ee : Y.length + 1 - 1 = Y.length := by omega
    have l11 := l9.2.1
    have l12 : N.1 62 40 = N.1 62 40 := rfl
    unfold fX11_onRest
    simp (disch := omega) only [l10, ee, l11, v1, k_iT, k_iF, Bool.false_eq_true, eq_self, Nat.add_zero, k_lt', k_bs, k_T, k_F, k_inb, k_ck, k_nz, ↓kN, kL, k_lt, k_le, k_eq, kn_le, kn_lt, kn_eq, kn_le', kn_lt', kn_eq', nI_clamp, nI_add, k_sub, k_mul, k_div, rd_hi, rd_mi, rd_hl, rd_ml, rd_hr, rd_mr, rd_si2, rd_sl1, rd_sl2, rd_sr1, rd_sr2]
  refine J_step eQ (J_some ?_)
  have s6 : rS N2 ND := rS_trans s3 (rS_trans s4 (rS_trans (rS_tk e3) a8))
  have s7 : rS ND (mv_si (mv_si ND 62 36 (nI L.length)) 62 40 (nI Y.length)) := rS_trans w1 w3
  refine EQ_leaf (t := i) (x := xn) (i' := i') rfl ?_ v2 (by omega) (by omega) ⟨hi1, kd_lt (T := T) (by omega)⟩ ?_ ?_ (.inr (.inl ⟨?_, ?_, y, a1, ?_, ?_⟩)) ?_ ?_
  · obtain ⟨g1, g2, g3, g4, g5, g6, g7, g8, g9, g10⟩ := z2
    exact ⟨cB_si hb g1 (by omega), by simp (disch := omega) only [rd_hi, rd_mi, rd_hl, rd_ml, rd_hr, rd_mr, rd_si2, rd_sl1, rd_sl2, rd_sr1, rd_sr2]; exact g2, g3, g4, g5, by simp (disch := omega) only [rd_hi, rd_mi, rd_hl, rd_ml, rd_hr, rd_mr, rd_si2, rd_sl1, rd_sl2, rd_sr1, rd_sr2]; exact g6, g7, by simp (disch := omega) only [rd_hi, rd_mi, rd_hl, rd_ml, rd_hr, rd_mr, rd_si2, rd_sl1, rd_sl2, rd_sr1, rd_sr2]; exact g8, g9, by simp (disch := omega) only [rd_hi, rd_mi, rd_hl, rd_ml, rd_hr, rd_mr, rd_si2, rd_sl1, rd_sl2, rd_sr1, rd_sr2]; exact g10⟩
  · simp (disch := omega) only [rd_hi, rd_mi, rd_hl, rd_ml, rd_hr, rd_mr, rd_si2, rd_sl1, rd_sl2, rd_sr1, rd_sr2]; exact z5
  · rw [v3.1 _ _ (by omega)]; simp (disch := omega) only [rd_hi, rd_mi, rd_hl, rd_ml, rd_hr, rd_mr, rd_si2, rd_sl1, rd_sl2, rd_sr1, rd_sr2]; rw [s6.1 _ _ (by omega)]; exact x2
  · simp (disch := omega) only [rd_hi, rd_mi, rd_hl, rd_ml, rd_hr, rd_mr, rd_si2, rd_sl1, rd_sl2, rd_sr1, rd_sr2]; exact z4
  · rw [v3.1 _ _ (by omega)]; simp (disch := omega) only [rd_hi, rd_mi, rd_hl, rd_ml, rd_hr, rd_mr, rd_si2, rd_sl1, rd_sl2, rd_sr1, rd_sr2]; rw [s6.1 _ _ (by omega)]; exact x1
  · simp (disch := omega) only [rd_hi, rd_mi, rd_hl, rd_ml, rd_hr, rd_mr, rd_si2, rd_sl1, rd_sl2, rd_sr1, rd_sr2]
  · rw [v3.1 _ _ (by omega)]; simp (disch := omega) only [rd_hi, rd_mi, rd_hl, rd_ml, rd_hr, rd_mr, rd_si2, rd_sl1, rd_sl2, rd_sr1, rd_sr2]
  · exact cE_si (cE_trans (cE_3 d1) (cE_trans a7 z3 (by omega) (by omega)) (by omega) (by omega)) (by unfold cEa; omega)
  · exact rE_trans (rS_E s0) (rE_trans s2 (rE_trans (rE_si (rS_E (m := m) (xn := xn) (an := an) (rS_trans s6 s7)) (by unfold rEa; omega)) (rS_E (m := m) (xn := xn) (an := an) v3) (by omega) (by omega) (by omega)) (by omega) (by omega) (by omega)) (by omega) (by omega) (by omega)
end JA
