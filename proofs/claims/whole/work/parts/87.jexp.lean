section JX
variable {b h n cnt f i m nd nb pl xn an ot x K k o t q : Nat} {L : List (Nat × Int32)} {D W Y : List Int32} {M M' M0 N N' N0 N1 N2 : mv_M} {T : Nat → Nat} {g : Nat → Nat → Nat}
set_option maxHeartbeats 4000000 in
theorem j_ident (hx : pX b h M0 N0 T n cnt f) (HE : ∀ k, K ≤ k → Sp b h M0 N0 T n cnt f (o + 1) (RX3_parseE k 0 (nI (o + 1)) 0) [(4, nI 0)] (20 * (o + 1))) (hk : K + 2 ≤ k) (hK : 0 < K) (ho : o < 20) (hL : L.length ≤ 20 * o + 8) (hY : Y.length ≤ 4) (hB : 1001 * h ≤ xn ∧ xn ≤ 1001 * h + i ∧ 1001 * h ≤ an ∧ an + D.length + W.length ≤ 1001 * h + i) (hc : cO b M0 T n cnt f i m nd M) (hr : rO h N0 T n f i m xn an ((10, nI 0) :: L) D W Y (o + 1) N) (hkd : lx_k T n (lx_st T n i) = 2) : J b h M0 N0 T n cnt f N (RX3_parseE k 5 (nI (o + 1)) 0 M) (EQ (lbB (20 * o + 8)) b h M0 N0 T n cnt f i m nd xn an L D W Y (o + 1) g M N) := by
  have hb := hx.1.1
  have hh := hx.2.2.1
  have hi1 := hc.2.2.2.1
  have hnd := hc.2.2.2.2.2.2.2.2.1
  have ek := cO_kind hx.1 hc
  rw [hkd] at ek
  obtain ⟨j, rfl⟩ : ∃ j, k = j + 1 + 1 := ⟨k - 2, by omega⟩
  rw [RX3_parseE, if_neg (by decide), if_neg (by decide), if_neg (by decide), if_neg (by decide), if_neg (by decide), if_pos rfl]
  unfold fX3_parseAtom
  rw [k_lt', hc.2.1]
  refine J_bs ek (J_T rfl ?_)
  obtain ⟨q0, s0⟩ := r_pop hr
  have t0 := rO_tk q0
  have u0 := rO_ta q0
  rw [hkd] at t0
  obtain ⟨N2, p2, q2, s2, x1, x2⟩ := r_node (kd := nI 7) (pl := nI (lx_st T n i)) q0 hh (by omega) (by omega)
  have key2 := q2.2.2.2.1.2.2.2.1 hkd
  have q3 := rO_sl (k := xn) (v := lx_tx T n (lx_st T n i)) q2 hh (by omega)
  obtain ⟨M1, N4, e1, e2, e3, e4⟩ := j_pass hx hc q3 (by omega)
  refine J_bs e1 ?_
  have r4 : rE h f m xn an N N4 := rE_trans (rS_E s0) (rE_trans (rE_sl s2 (by unfold rEl; omega)) (rS_E (m := m) (xn := xn) (an := an) (rS_tk e3)) (by omega) (by omega) (by omega)) (by omega) (by omega) (by omega)
  have y1 : N4.1 71 xn = nI 7 := (e3.1 _ _ (by omega)).trans x1
  have y2 : N4.1 75 xn = nI (lx_st T n i) := (e3.1 _ _ (by omega)).trans x2
  have y3 : N4.2.1 77 xn = lx_tx T n (lx_st T n i) := by rw [e3.2.1 _ _ (by omega)]; simp (disch := omega) only [rd_hi, rd_mi, rd_hl, rd_ml, rd_hr, rd_mr, rd_si2, rd_sl1, rd_sl2, rd_sr1, rd_sr2]
  have hd38 : N4.1 62 38 = nI D.length := (e3.1 _ _ (by omega)).trans q2.2.2.2.2.2.2.2.2.2.1.1
  rcases e4 with ⟨nb, pl, d1, d2⟩ | ⟨d1, d2, d3⟩
  · obtain ⟨N5, p5, q5⟩ := rFt_make (v := nI xn) d2 hd38 (by omega)
    have eP : fX11_parse_26 N = fX11_parse_26 N5 := by
      refine P_go ((g_sum hr (by omega) (by omega)).trans ?_)
      obtain ⟨g1, g2, g3, _⟩ := d2
      unfold fX11_onSum fX11_onAtom fX11_onAtom_198 fX11_onAtom_203
      simp (disch := omega) only [t0, u0, show lx_tk 2 = 10 from rfl, p2, key2, e2, g1, p5, k_iT, k_iF, Bool.false_eq_true, eq_self, Nat.add_zero, k_lt', k_bs, k_T, k_F, k_inb, k_ck, k_nz, ↓kN, kL, k_lt, k_le, k_eq, kn_le, kn_lt, kn_eq, kn_le', kn_lt', kn_eq', nI_clamp, nI_add, k_sub, k_mul, k_div, rd_hi, rd_mi, rd_hl, rd_ml, rd_hr, rd_mr, rd_si2, rd_sl1, rd_sl2, rd_sr1, rd_sr2]
    refine J_step eP (J_dead ?_ (P_fault q5))
    refine cD_kindB hx.1 d1 (fun v hv => cD_ifk hv (by decide) (by decide) ?_)
    (have hx1 := hx.1; have hx2 := hx.1.1; (repeat' first | with_reducible exact ok_some ‹_› | with_reducible refine cD_bindR (cD_take' hx1 ‹_› (by decide) (by decide)) (fun _ _ _ => ?_) | with_reducible refine cD_bindR (cD_E' hx1 ‹_› (by omega)) (fun _ _ _ => ?_) | with_reducible refine cD_bindR (cD_type' hx1 ‹_› (by omega)) (fun _ _ _ => ?_) | with_reducible refine cD_bindR (cD_sides' hx1 ‹_› (by omega) (by omega)) (fun _ _ _ => ?_) | with_reducible refine cD_bindR (cD_tType hx1 ‹_›) (fun _ _ _ => ?_) | with_reducible refine ok_pairOf (fun _ => ?_) | with_reducible refine cD_getp hx1 ‹_› ?_ | with_reducible refine cD_bind (cD_node hx1 ‹_›) (fun _ _ _ => ?_) | with_reducible refine cD_bind (cD_inner hx1 ‹_›) (fun _ _ _ => ?_) | with_reducible refine cD_textOf hx1 ‹_› (fun _ => ?_) | with_reducible refine cD_has hx1 ‹_› ?_ (fun _ => ?_) | with_reducible refine cD_kindB hx1 ‹_› (fun _ _ => ?_) | with_reducible refine cD_ifk ‹_› (by decide) (by decide) ?_ | with_reducible exact cD_call hx1 ‹_› | with_reducible exact ok_some (cD_si hx2 ‹_› (by omega))))
  have ek1 := cO_kind hx.1 d2
  have hv := vk_k (T := T) (n := n) (s := lx_st T n (i + 1))
  have hv2 : lx_k T n (lx_st T n (i + 1)) < 2 ^ 31 := by unfold vk at hv; omega
  have t14 := tkA hv (r := 14) (by omega)
  rw [kt14] at t14
  have t4 := rO_tk d3
  have f4 := d3.2.2.2.2.2.1
  refine J_bs ek1 ?_
  by_cases h40 : lx_k T n (lx_st T n (i + 1)) = 40
  · rw [h40] at t4
    refine J_T (by rw [h40]; rfl) ?_
    have q5 := rO_si (c := 73) (k := xn) (v := nI W.length) (rO_si (c := 71) (k := xn) (v := nI 8) d3 hh (by omega)) hh (by omega)
    obtain ⟨M2, N6, c1, c2, c3, c4⟩ := j_pass hx d2 q5 (by omega)
    refine J_bind (Q := EQ (lbB (20 * o + 8)) b h M0 N0 T n cnt f i m nd xn an L D W Y (o + 1) g M N) ?_ (fun nb pl r M' hd => ok_some hd) (fun r M' N' hq => J_some hq)
    show J b h M0 N0 T n cnt f N (RX3_parseE (j + 1) 7 (nI i) (nI (o + 1)) M1) _
    rw [RX3_parseE, if_neg (by decide), if_neg (by decide), if_neg (by decide), if_neg (by decide), if_neg (by decide), if_neg (by decide), if_neg (by decide)]
    unfold fX3_parseCall
    refine J_bs c1 ?_
    have k7 : N4.1 62 32 = nI W.length := d3.2.2.2.2.2.2.2.2.2.2.1.1
    have l36 : N6.1 62 36 = nI L.length := (c3.1 _ _ (by omega)).trans q5.2.2.2.2.2.2.2.2.1.1
    have r5 : rE h f m xn an N4 (mv_si (mv_si N4 71 xn (nI 8)) 73 xn (nI W.length)) := rE_si (rE_si rE_refl (by unfold rEa; omega)) (by unfold rEa; omega)
    have r6 : rE h f m xn an N N6 := rE_trans r4 (rE_trans r5 (rS_E (m := m) (xn := xn) (an := an) (rS_tk c3)) (by omega) (by omega) (by omega)) (by omega) (by omega) (by omega)
    have w1 : N6.1 71 xn = nI 8 := by rw [c3.1 _ _ (by omega)]; simp (disch := omega) only [rd_hi, rd_mi, rd_hl, rd_ml, rd_hr, rd_mr, rd_si2, rd_sl1, rd_sl2, rd_sr1, rd_sr2]
    have w2 : N6.1 75 xn = nI (lx_st T n i) := by rw [c3.1 _ _ (by omega)]; simp (disch := omega) only [rd_hi, rd_mi, rd_hl, rd_ml, rd_hr, rd_mr, rd_si2, rd_sl1, rd_sl2, rd_sr1, rd_sr2]; exact y2
    have w3 : N6.2.1 77 xn = lx_tx T n (lx_st T n i) := (c3.2.1 _ _ (by omega)).trans y3
    have w4 : N6.1 73 xn = nI W.length := by rw [c3.1 _ _ (by omega)]; simp (disch := omega) only [rd_hi, rd_mi, rd_hl, rd_ml, rd_hr, rd_mr, rd_si2, rd_sl1, rd_sl2, rd_sr1, rd_sr2]
    rcases c4 with ⟨nb, pl, d5, d6⟩ | ⟨d4, d5, d6⟩
    · obtain ⟨N7, p7, q7, l7⟩ := rFt_push (s := 21) (w := nI xn) d6 l36 (by omega)
      obtain ⟨N8, p8, q8, l8⟩ := rFt_push (s := 1) (w := 15) q7 l7 (by omega)
      have eP : fX11_parse_26 N = fX11_parse_26 N8 := by
        refine P_go ((g_sum hr (by omega) (by omega)).trans ?_)
        obtain ⟨g1, g2, g3, _⟩ := d6
        simp only [kL] at p7 p8
        unfold fX11_onSum fX11_onAtom fX11_onAtom_181 fX11_onAtom_203
        simp (disch := omega) only [t0, u0, show lx_tk 2 = 10 from rfl, p2, key2, e2, f4, t4, show lx_tk 40 = 14 from rfl, k7, c2, g1, p7, p8, k_iT, k_iF, Bool.false_eq_true, eq_self, Nat.add_zero, k_lt', k_bs, k_T, k_F, k_inb, k_ck, k_nz, ↓kN, kL, k_lt, k_le, k_eq, kn_le, kn_lt, kn_eq, kn_le', kn_lt', kn_eq', nI_clamp, nI_add, k_sub, k_mul, k_div, rd_hi, rd_mi, rd_hl, rd_ml, rd_hr, rd_mr, rd_si2, rd_sl1, rd_sl2, rd_sr1, rd_sr2]
      refine J_step eP (J_dead ?_ (P_fault q8))
      refine cD_kindB hx.1 d5 (fun v hv => cD_ifk hv (by decide) (by decide) ?_)
      refine cD_bindR (cD_E' hx.1 d5 (by omega)) (fun r4 M5 hd => ?_)
      unfold fX3_parseCall_27
      exact cD_call hx.1 hd
    have ek2 := cO_kind hx.1 d5
    have hv' := vk_k (T := T) (n := n) (s := lx_st T n (i + 1 + 1))
    have hv2' : lx_k T n (lx_st T n (i + 1 + 1)) < 2 ^ 31 := by unfold vk at hv'; omega
    have t15 := tkA hv' (r := 15) (by omega)
    rw [kt15] at t15
    have t6 := rO_tk d6
    have f6 := d6.2.2.2.2.2.1
    refine J_bs ek2 ?_
    have hc2 : cE b f m nd M M2 := cE_trans (cE_3 d1) (cE_3 (m := m) (nd := nd) d4) (Nat.le_refl _) (Nat.le_refl _)
    by_cases h41 : lx_k T n (lx_st T n (i + 1 + 1)) = 41
    · rw [h41] at t6
      refine J_T (by rw [h41]; rfl) ?_
      obtain ⟨N7, p7, q7, s7⟩ := r_push (s := 21) (w := nI xn) d6 (by omega)
      obtain ⟨N8, p8, q8, s8⟩ := r_push (s := 1) (w := nI 15) q7 (by simp only [List.length_cons]; omega)
      have eP : fX11_parse_26 N = fX11_parse_26 N8 := by
        refine P_go ((g_sum hr (by omega) (by omega)).trans ?_)
        unfold fX11_onSum fX11_onAtom fX11_onAtom_181 fX11_onAtom_203
        simp (disch := omega) only [t0, u0, show lx_tk 2 = 10 from rfl, p2, key2, e2, f4, t4, show lx_tk 40 = 14 from rfl, k7, c2, f6, t6, show lx_tk 41 = 15 from rfl, p7, p8, k_iT, k_iF, Bool.false_eq_true, eq_self, Nat.add_zero, k_lt', k_bs, k_T, k_F, k_inb, k_ck, k_nz, ↓kN, kL, k_lt, k_le, k_eq, kn_le, kn_lt, kn_eq, kn_le', kn_lt', kn_eq', nI_clamp, nI_add, k_sub, k_mul, k_div, rd_hi, rd_mi, rd_hl, rd_ml, rd_hr, rd_mr, rd_si2, rd_sl1, rd_sl2, rd_sr1, rd_sr2]
      have s9 : rS N6 N8 := rS_trans s7 s8
      refine J_step eP ?_
      unfold fX3_parseCall_27 fX3_parseCall_30
      refine J_loop (QI := fun _ _ _ => False) (QO := EQ (lbB (20 * o + 8)) b h M0 N0 T n cnt f i m nd xn an L D W Y (o + 1) g M N) ?_ (fun nb pl s' M' hd => cD_call (x1 := s'.1) (x2 := s'.2.1) (x3 := s'.2.2.1) (x4 := s'.2.2.2.1) (x5 := s'.2.2.2.2) hx.1 hd) (fun _ _ _ z => absurd z id) (fun _ _ _ z => z)
      · show J b h M0 N0 T n cnt f N8 (gX3_parseCall_30 (fun a0 M => RX3_parseE j 0 a0 0 M) (nI i) (nI (o + 1)) (-1) 0 (-1) M2) _
        unfold gX3_parseCall_30
        refine J_T (by decide) (J_inr ?_)
        exact j_close (q := 0) (e := fun _ => 0) (g := g) (nd := nd) hx ho hL hB hkd hi1 TI_nil (fun _ => rfl) (fun z => by omega) (fun k z => by omega) (fun k z => by omega) d5 q8 ((s9.1 _ _ (by omega)).trans w1) ((s9.1 _ _ (by omega)).trans w2) ((s9.2 _ _ (by omega)).trans w3) ((s9.1 _ _ (by omega)).trans w4) gA_refl NM_nil hc2 (rE_trans r6 (rS_E (m := m) (xn := xn) (an := an) s9) (by omega) (by omega) (by omega)) (by omega) (LB_nil (H := 0)) (by unfold lbB; omega)
    · refine J_F (by rw [kM, k_eq hv2' (by omega)]; exact h41) ?_
      obtain ⟨N7, p7, q7, s7⟩ := r_push (s := 20) (w := nI xn) d6 (by omega)
      obtain ⟨N8, p8, q8, s8⟩ := r_push (s := 4) (w := nI 0) q7 (by simp only [List.length_cons]; omega)
      have eP : fX11_parse_26 N = fX11_parse_26 N8 := by
        refine P_go ((g_sum hr (by omega) (by omega)).trans ?_)
        unfold fX11_onSum fX11_onAtom fX11_onAtom_181 fX11_onAtom_203
        simp (disch := omega) only [t0, u0, show lx_tk 2 = 10 from rfl, p2, key2, e2, f4, t4, show lx_tk 40 = 14 from rfl, k7, c2, f6, t6, t15, h41, p7, p8, k_iT, k_iF, Bool.false_eq_true, eq_self, Nat.add_zero, k_lt', k_bs, k_T, k_F, k_inb, k_ck, k_nz, ↓kN, kL, k_lt, k_le, k_eq, kn_le, kn_lt, kn_eq, kn_le', kn_lt', kn_eq', nI_clamp, nI_add, k_sub, k_mul, k_div, rd_hi, rd_mi, rd_hl, rd_ml, rd_hr, rd_mr, rd_si2, rd_sl1, rd_sl2, rd_sr1, rd_sr2]
      have s9 : rS N6 N8 := rS_trans s7 s8
      refine J_step eP ?_
      refine J_bind (HE j (by omega) (i + 1 + 1) m nd (xn + 1) an _ D W Y g M2 N8 (by simp only [List.length_cons]; omega) hY (by omega) d5 q8) (fun nb pl r M' hd => by unfold fX3_parseCall_27; exact cD_call hx.1 hd) ?_
      rintro r M4 NF ⟨i4, m4, c4, xn4, an4, g4, rfl, f1, f2, f3, f4', f5, f6', f7, f8, f9, fA⟩
      have hi4 := f1.2.2.2.1
      unfold fX3_parseCall_27
      have R : ∀ c k, 71 ≤ c ∧ c ≤ 77 → k < xn + 1 → NF.1 c k = N6.1 c k := fun c k u1 u2 => (f9.1 c k (by unfold rEa; omega)).trans (s9.1 c k (by omega))
      refine j_args (x := xn) (i0 := i) (m0 := m) (nd0 := nd) (an0 := an) (g0 := g) (Ms := M) (Ns := N) hx (HE j (by omega)) (by omega) ho hL hY hB hkd hi1 _ i4 m4 xn4 an4 0 (fun _ => c4) g4 M4 NF rfl ⟨f1, f2, f5, f4', fun k hk => absurd hk (Nat.not_lt_zero _), fun k hk => ⟨f3.2.1, Nat.le_refl _⟩, ?_, ?_, ?_, ?_, f6', f7, cE_trans hc2 f8 (by omega) (by omega), ?_, ⟨by omega, by show c4 + 1 + (i + 2) ≤ nd + i4; omega, by omega, by omega, by omega, by omega, by omega⟩, fA⟩
      · rw [R _ _ (by omega) (by omega)]; exact w1
      · rw [R _ _ (by omega) (by omega)]; exact w2
      · rw [f9.2 _ _ (by unfold rEl; omega), s9.2 _ _ (by omega)]; exact w3
      · rw [R _ _ (by omega) (by omega)]; exact w4
      · exact rE_trans (rE_trans r6 (rS_E (m := m) (xn := xn) (an := an) s9) (by omega) (by omega) (by omega)) f9 (by omega) (by omega) (by omega)
  · refine J_F (by rw [kM, k_eq hv2 (by omega)]; exact h40) ?_
    obtain ⟨N5, p5, q5, s5⟩ := r_make (v := nI xn) d3 (by omega)
    have eP : fX11_parse_26 N = fX11_parse_26 N5 := by
      refine P_go ((g_sum hr (by omega) (by omega)).trans ?_)
      unfold fX11_onSum fX11_onAtom fX11_onAtom_198 fX11_onAtom_203
      simp (disch := omega) only [t0, u0, show lx_tk 2 = 10 from rfl, p2, key2, e2, f4, t4, t14, h40, p5, k_iT, k_iF, Bool.false_eq_true, eq_self, Nat.add_zero, k_lt', k_bs, k_T, k_F, k_inb, k_ck, k_nz, ↓kN, kL, k_lt, k_le, k_eq, kn_le, kn_lt, kn_eq, kn_le', kn_lt', kn_eq', nI_clamp, nI_add, k_sub, k_mul, k_div, rd_hi, rd_mi, rd_hl, rd_ml, rd_hr, rd_mr, rd_si2, rd_sl1, rd_sl2, rd_sr1, rd_sr2]
    refine J_step eP (J_getp hx d2.1.1 ?_)
    obtain ⟨M7, z1, z2, z3, z4, z5, z6, z7, z8, z9⟩ := c_node (kd := 2) (t := nI i) (a1 := -1) (a2 := -1) (a3 := -1) hb d2 (by omega)
    refine J_bs z1 (J_some ?_)
    refine EQ_leaf (t := i) (x := xn) rfl z2 q5 (by omega) (by omega) ⟨hi1, kd_lt (T := T) (by omega)⟩ z5 ((s5.1 _ _ (by omega)).trans y2) (.inr (.inr ⟨z4, (s5.1 _ _ (by omega)).trans y1, hkd, (s5.2 _ _ (by omega)).trans y3⟩)) (cE_trans (cE_3 d1) z3 (by omega) (by omega)) (rE_trans r4 (rS_E (m := m) (xn := xn) (an := an) s5) (by omega) (by omega) (by omega))
end JX
