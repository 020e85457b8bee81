section JE3
variable {b h n cnt f i m nd nb pl xn an ot x K k o : Nat} {L : List (Nat × Int32)} {D W Y : List Int32} {M M' M0 N N' N0 N1 N2 : mv_M} {T : Nat → Nat} {g : Nat → Nat → Nat}
set_option maxHeartbeats 4000000 in
theorem j_case (hx : pX b h M0 N0 T n cnt f) (HE : ∀ k, K ≤ k → Sp b h M0 N0 T n cnt f (o + 1) (RX3_parseE k 0 (nI (o + 1)) 0) [(4, nI 0)] (20 * (o + 1))) (hk : K + 1 ≤ k) (hK : 0 < K) (ho : o < 20) (hL : L.length ≤ 20 * o) (hY : Y.length ≤ 4) (hB : 1001 * h ≤ xn ∧ xn ≤ 1001 * h + i ∧ 1001 * h ≤ an ∧ an + D.length + W.length ≤ 1001 * h + i) (hc : cO b M0 T n cnt f i m nd M) (hr : rO h N0 T n f i m xn an ((4, nI 0) :: L) D W Y o N) (hkd : lx_k T n (lx_st T n i) = 306) : J b h M0 N0 T n cnt f N (RX3_parseE k 2 (nI (o + 1)) 0 M) (EQ (lbB (20 * o)) b h M0 N0 T n cnt f i m nd xn an L D W Y o g M N) := by
  have hb := hx.1.1
  have hh := hx.2.2.1
  have hi1 := hc.2.2.2.1
  have hnd := hc.2.2.2.2.2.2.2.2.1
  obtain ⟨j, rfl⟩ : ∃ j, k = j + 1 := ⟨k - 1, by omega⟩
  rw [RX3_parseE, if_neg (by decide), if_neg (by decide), if_pos rfl]
  unfold fX3_parseCase
  rw [k_lt', hc.2.1]
  obtain ⟨q0, s0⟩ := r_pop hr
  have k11 := q0.2.2.2.2.2.2.2.2.2.2.2.2
  have t0 := rO_tk q0
  obtain ⟨q1, s1⟩ := r_other (v := o + 1) q0
  obtain ⟨N2, p2, q2, s2⟩ := r_push (s := 5) (w := nI 0) q1 (by omega)
  have t2 := rO_tk q2
  have u2 := rO_ta q2
  rw [hkd] at t0 t2
  obtain ⟨N3, p3, q3, s3, x1, x2⟩ := r_node (kd := nI 4) (pl := nI (lx_st T n i)) q2 hh (by omega) (by omega)
  obtain ⟨N4, p4, q4, s4⟩ := r_push (s := 18) (w := nI xn) q3 (by simp only [List.length_cons]; omega)
  obtain ⟨N5, p5, q5, s5⟩ := r_push (s := 16) (w := nI xn) q4 (by simp only [List.length_cons]; omega)
  obtain ⟨N6, p6, q6, s6⟩ := r_push (s := 4) (w := nI 0) q5 (by simp only [List.length_cons]; omega)
  obtain ⟨N7, p7, q7, s7⟩ := r_push (s := 1) (w := nI 6) q6 (by simp only [List.length_cons]; omega)
  obtain ⟨N8, p8, q8, s8⟩ := r_push (s := 1) (w := nI 15) q7 (by simp only [List.length_cons]; omega)
  obtain ⟨N9, p9, q9, s9⟩ := r_push (s := 14) (w := nI xn) q8 (by simp only [List.length_cons]; omega)
  obtain ⟨NA, pA, qA, sA⟩ := r_push (s := 1) (w := nI 16) q9 (by simp only [List.length_cons]; omega)
  obtain ⟨NB, pB, qB, sB⟩ := r_push (s := 13) (w := nI xn) qA (by simp only [List.length_cons]; omega)
  obtain ⟨NB2, pB2, qB2, sB2⟩ := r_push (s := 1) (w := nI 14) qB (by simp only [List.length_cons]; omega)
  obtain ⟨NB3, pB3, qB3, sB3⟩ := r_push (s := 1) (w := nI 8) qB2 (by simp only [List.length_cons]; omega)
  obtain ⟨NB4, pB4, qB4, sB4⟩ := r_push (s := 15) (w := nI xn) qB3 (by simp only [List.length_cons]; omega)
  obtain ⟨NB5, pB5, qB5, sB5⟩ := r_push (s := 4) (w := nI 0) qB4 (by simp only [List.length_cons]; omega)
  obtain ⟨M1, NC, e1, e2, e3, e4⟩ := j_pass hx hc qB5 (by omega)
  have sC : rS N3 NC := rS_trans s4 (rS_trans s5 (rS_trans s6 (rS_trans s7 (rS_trans s8 (rS_trans s9 (rS_trans sA (rS_trans sB (rS_trans sB2 (rS_trans sB3 (rS_trans sB4 (rS_trans sB5 (rS_tk e3))))))))))))
  have eP : fX11_parse_26 N = fX11_parse_26 NC := by
    refine P_go ((g_E hr (by omega)).trans ?_)
    unfold fX11_onE fX11_begins fX11_begins_61
    simp (disch := omega) only [t0, show lx_tk 306 = 7 from rfl, k11, p2, t2, u2, p3, p4, p5, p6, p7, p8, p9, pA, pB, pB2, pB3, pB4, pB5, e2, k_iT, k_iF, Bool.false_eq_true, eq_self, Nat.add_zero, k_lt', k_bs, k_T, k_F, k_inb, k_ck, k_nz, ↓kN, kL, k_lt, k_le, k_eq, kn_le, kn_lt, kn_eq, kn_le', kn_lt', kn_eq', nI_clamp, nI_add, k_sub, k_mul, k_div, rd_hi, rd_mi, rd_hl, rd_ml, rd_hr, rd_mr, rd_si2, rd_sl1, rd_sl2, rd_sr1, rd_sr2]
  refine J_bs e1 (J_step eP ?_)
  rcases e4 with ⟨nb, pl, d1, d2⟩ | ⟨d1, d2, d3⟩
  · refine J_dead ?_ (P_fault d2)
    (repeat' first | exact ok_some ‹_› | refine cD_bindR (cD_take' hx.1 ‹_› (by decide) (by decide)) (fun _ _ _ => ?_) | refine cD_bindR (cD_E' hx.1 ‹_› (by omega)) (fun _ _ _ => ?_) | refine cD_bindR (cD_type' hx.1 ‹_› (by omega)) (fun _ _ _ => ?_) | refine cD_bindR (cD_sides' hx.1 ‹_› (by omega) (by omega)) (fun _ _ _ => ?_) | refine cD_bindR (cD_tType hx.1 ‹_›) (fun _ _ _ => ?_) | refine ok_pairOf (fun _ => ?_) | refine cD_getp hx.1 ‹_› ?_ | refine cD_bind (cD_node hx.1 ‹_›) (fun _ _ _ => ?_) | refine cD_bind (cD_inner hx.1 ‹_›) (fun _ _ _ => ?_) | refine cD_textOf hx.1 ‹_› (fun _ => ?_) | refine cD_has hx.1 ‹_› ?_ (fun _ => ?_) | refine cD_kindB hx.1 ‹_› (fun _ _ => ?_) | refine cD_ifk ‹_› (by decide) (by decide) ?_ | exact cD_call hx.1 ‹_› | exact ok_some (cD_si hx.1.1 ‹_› (by omega)))
  have rC : rE h f m xn an N NC := rE_trans (rS_E (rS_trans s0 (rS_trans s1 s2))) (rE_trans s3 (rS_E (xn := xn + 1) (m := m) (an := an) sC) (by omega) (by omega) (by omega)) (by omega) (by omega) (by omega)
  have y1 : NC.1 71 xn = nI 4 := (sC.1 _ _ (by omega)).trans x1
  have y2 : NC.1 75 xn = nI (lx_st T n i) := (sC.1 _ _ (by omega)).trans x2
  -- the first expression
  refine J_bind (HE j (by omega) (i + 1) m nd (xn + 1) an _ D W Y g M1 NC (by simp only [List.length_cons]; omega) hY (by omega) d2 d3) (by intros; (repeat' first | exact ok_some ‹_› | refine cD_bindR (cD_take' hx.1 ‹_› (by decide) (by decide)) (fun _ _ _ => ?_) | refine cD_bindR (cD_E' hx.1 ‹_› (by omega)) (fun _ _ _ => ?_) | refine cD_bindR (cD_type' hx.1 ‹_› (by omega)) (fun _ _ _ => ?_) | refine cD_bindR (cD_sides' hx.1 ‹_› (by omega) (by omega)) (fun _ _ _ => ?_) | refine cD_bindR (cD_tType hx.1 ‹_›) (fun _ _ _ => ?_) | refine ok_pairOf (fun _ => ?_) | refine cD_getp hx.1 ‹_› ?_ | refine cD_bind (cD_node hx.1 ‹_›) (fun _ _ _ => ?_) | refine cD_bind (cD_inner hx.1 ‹_›) (fun _ _ _ => ?_) | refine cD_textOf hx.1 ‹_› (fun _ => ?_) | refine cD_has hx.1 ‹_› ?_ (fun _ => ?_) | refine cD_kindB hx.1 ‹_› (fun _ _ => ?_) | refine cD_ifk ‹_› (by decide) (by decide) ?_ | exact cD_call hx.1 ‹_› | exact ok_some (cD_si hx.1.1 ‹_› (by omega)))) ?_
  rintro r M4 NF ⟨i4, m4, c4, xn4, an4, g4, rfl, f1, f2, f3, f4, f5, f6, f7, f8, f9, fA⟩
  have hi4 := f1.2.2.2.1
  obtain ⟨NG, h1, h2, h3, h4⟩ := r_keep (.inl ⟨rfl, rfl⟩) hh f2 (by omega) (by simp only [List.length_cons]; omega) (by omega)
  refine J_step h1 ?_
  refine J_bind (j_take (w := 8) hx f1 h2 (by omega) (by omega) (by simp only [List.length_cons]; omega)) (by intros; (repeat' first | exact ok_some ‹_› | refine cD_bindR (cD_take' hx.1 ‹_› (by decide) (by decide)) (fun _ _ _ => ?_) | refine cD_bindR (cD_E' hx.1 ‹_› (by omega)) (fun _ _ _ => ?_) | refine cD_bindR (cD_type' hx.1 ‹_› (by omega)) (fun _ _ _ => ?_) | refine cD_bindR (cD_sides' hx.1 ‹_› (by omega) (by omega)) (fun _ _ _ => ?_) | refine cD_bindR (cD_tType hx.1 ‹_›) (fun _ _ _ => ?_) | refine ok_pairOf (fun _ => ?_) | refine cD_getp hx.1 ‹_› ?_ | refine cD_bind (cD_node hx.1 ‹_›) (fun _ _ _ => ?_) | refine cD_bind (cD_inner hx.1 ‹_›) (fun _ _ _ => ?_) | refine cD_textOf hx.1 ‹_› (fun _ => ?_) | refine cD_has hx.1 ‹_› ?_ (fun _ => ?_) | refine cD_kindB hx.1 ‹_› (fun _ _ => ?_) | refine cD_ifk ‹_› (by decide) (by decide) ?_ | exact cD_call hx.1 ‹_› | exact ok_some (cD_si hx.1.1 ‹_› (by omega)))) ?_
  rintro _ M5 NH ⟨l0, l1, l2, l3⟩
  refine J_bind (j_take (w := 14) hx l1 l2 (by omega) (by omega) (by simp only [List.length_cons]; omega)) (by intros; (repeat' first | exact ok_some ‹_› | refine cD_bindR (cD_take' hx.1 ‹_› (by decide) (by decide)) (fun _ _ _ => ?_) | refine cD_bindR (cD_E' hx.1 ‹_› (by omega)) (fun _ _ _ => ?_) | refine cD_bindR (cD_type' hx.1 ‹_› (by omega)) (fun _ _ _ => ?_) | refine cD_bindR (cD_sides' hx.1 ‹_› (by omega) (by omega)) (fun _ _ _ => ?_) | refine cD_bindR (cD_tType hx.1 ‹_›) (fun _ _ _ => ?_) | refine ok_pairOf (fun _ => ?_) | refine cD_getp hx.1 ‹_› ?_ | refine cD_bind (cD_node hx.1 ‹_›) (fun _ _ _ => ?_) | refine cD_bind (cD_inner hx.1 ‹_›) (fun _ _ _ => ?_) | refine cD_textOf hx.1 ‹_› (fun _ => ?_) | refine cD_has hx.1 ‹_› ?_ (fun _ => ?_) | refine cD_kindB hx.1 ‹_› (fun _ _ => ?_) | refine cD_ifk ‹_› (by decide) (by decide) ?_ | exact cD_call hx.1 ‹_› | exact ok_some (cD_si hx.1.1 ‹_› (by omega)))) ?_
  rintro _ M6 NI ⟨o0, o1, o2, o3⟩
  -- the names
  obtain ⟨tx, ev, hv⟩ := cO_text hx.1 o1
  refine J_bs (r := tx) (M' := M6) (by rw [o1.2.1]; exact ev) ?_
  refine J_bind (j_named hx o1 o2 (by omega) (by simp only [List.length_cons]; omega)) (by intros; (repeat' first | exact ok_some ‹_› | refine cD_bindR (cD_take' hx.1 ‹_› (by decide) (by decide)) (fun _ _ _ => ?_) | refine cD_bindR (cD_E' hx.1 ‹_› (by omega)) (fun _ _ _ => ?_) | refine cD_bindR (cD_type' hx.1 ‹_› (by omega)) (fun _ _ _ => ?_) | refine cD_bindR (cD_sides' hx.1 ‹_› (by omega) (by omega)) (fun _ _ _ => ?_) | refine cD_bindR (cD_tType hx.1 ‹_›) (fun _ _ _ => ?_) | refine ok_pairOf (fun _ => ?_) | refine cD_getp hx.1 ‹_› ?_ | refine cD_bind (cD_node hx.1 ‹_›) (fun _ _ _ => ?_) | refine cD_bind (cD_inner hx.1 ‹_›) (fun _ _ _ => ?_) | refine cD_textOf hx.1 ‹_› (fun _ => ?_) | refine cD_has hx.1 ‹_› ?_ (fun _ => ?_) | refine cD_kindB hx.1 ‹_› (fun _ _ => ?_) | refine cD_ifk ‹_› (by decide) (by decide) ?_ | exact cD_call hx.1 ‹_› | exact ok_some (cD_si hx.1.1 ‹_› (by omega)))) ?_
  rintro r M7 NJ ⟨rfl, n1, n2, n3, n4, n5, n6, n7, n8, n9⟩
  rw [← hv (.inl n9)] at n7 n8
  refine J_bind (j_take (w := 16) hx n2 n3 (by omega) (by omega) (by simp only [List.length_cons]; omega)) (by intros; (repeat' first | exact ok_some ‹_› | refine cD_bindR (cD_take' hx.1 ‹_› (by decide) (by decide)) (fun _ _ _ => ?_) | refine cD_bindR (cD_E' hx.1 ‹_› (by omega)) (fun _ _ _ => ?_) | refine cD_bindR (cD_type' hx.1 ‹_› (by omega)) (fun _ _ _ => ?_) | refine cD_bindR (cD_sides' hx.1 ‹_› (by omega) (by omega)) (fun _ _ _ => ?_) | refine cD_bindR (cD_tType hx.1 ‹_›) (fun _ _ _ => ?_) | refine ok_pairOf (fun _ => ?_) | refine cD_getp hx.1 ‹_› ?_ | refine cD_bind (cD_node hx.1 ‹_›) (fun _ _ _ => ?_) | refine cD_bind (cD_inner hx.1 ‹_›) (fun _ _ _ => ?_) | refine cD_textOf hx.1 ‹_› (fun _ => ?_) | refine cD_has hx.1 ‹_› ?_ (fun _ => ?_) | refine cD_kindB hx.1 ‹_› (fun _ _ => ?_) | refine cD_ifk ‹_› (by decide) (by decide) ?_ | exact cD_call hx.1 ‹_› | exact ok_some (cD_si hx.1.1 ‹_› (by omega)))) ?_
  rintro _ M8 NK ⟨a0, a1, a2, a3⟩
  refine J_bind (j_second (m1 := m4) (t1 := tx) hx a1 a2 (by omega) (by simp only [List.length_cons]; omega) n1 ((a3.1 _ _ (by omega)).trans n4) ((a3.2 _ _ (by omega)).trans n8)) (by intros; (repeat' first | exact ok_some ‹_› | refine cD_bindR (cD_take' hx.1 ‹_› (by decide) (by decide)) (fun _ _ _ => ?_) | refine cD_bindR (cD_E' hx.1 ‹_› (by omega)) (fun _ _ _ => ?_) | refine cD_bindR (cD_type' hx.1 ‹_› (by omega)) (fun _ _ _ => ?_) | refine cD_bindR (cD_sides' hx.1 ‹_› (by omega) (by omega)) (fun _ _ _ => ?_) | refine cD_bindR (cD_tType hx.1 ‹_›) (fun _ _ _ => ?_) | refine ok_pairOf (fun _ => ?_) | refine cD_getp hx.1 ‹_› ?_ | refine cD_bind (cD_node hx.1 ‹_›) (fun _ _ _ => ?_) | refine cD_bind (cD_inner hx.1 ‹_›) (fun _ _ _ => ?_) | refine cD_textOf hx.1 ‹_› (fun _ => ?_) | refine cD_has hx.1 ‹_› ?_ (fun _ => ?_) | refine cD_kindB hx.1 ‹_› (fun _ _ => ?_) | refine cD_ifk ‹_› (by decide) (by decide) ?_ | exact cD_call hx.1 ‹_› | exact ok_some (cD_si hx.1.1 ‹_› (by omega)))) ?_
  rintro r M9 NL ⟨b1, b2, b3, b4, b5, b6⟩
  refine J_bind (j_take (w := 15) hx b2 b3 (by omega) (by omega) (by simp only [List.length_cons]; omega)) (by intros; (repeat' first | exact ok_some ‹_› | refine cD_bindR (cD_take' hx.1 ‹_› (by decide) (by decide)) (fun _ _ _ => ?_) | refine cD_bindR (cD_E' hx.1 ‹_› (by omega)) (fun _ _ _ => ?_) | refine cD_bindR (cD_type' hx.1 ‹_› (by omega)) (fun _ _ _ => ?_) | refine cD_bindR (cD_sides' hx.1 ‹_› (by omega) (by omega)) (fun _ _ _ => ?_) | refine cD_bindR (cD_tType hx.1 ‹_›) (fun _ _ _ => ?_) | refine ok_pairOf (fun _ => ?_) | refine cD_getp hx.1 ‹_› ?_ | refine cD_bind (cD_node hx.1 ‹_›) (fun _ _ _ => ?_) | refine cD_bind (cD_inner hx.1 ‹_›) (fun _ _ _ => ?_) | refine cD_textOf hx.1 ‹_› (fun _ => ?_) | refine cD_has hx.1 ‹_› ?_ (fun _ => ?_) | refine cD_kindB hx.1 ‹_› (fun _ _ => ?_) | refine cD_ifk ‹_› (by decide) (by decide) ?_ | exact cD_call hx.1 ‹_› | exact ok_some (cD_si hx.1.1 ‹_› (by omega)))) ?_
  rintro _ MA NM' ⟨j0, j1, j2, j3⟩
  refine J_bind (j_take (w := 6) hx j1 j2 (by omega) (by omega) (by simp only [List.length_cons]; omega)) (by intros; (repeat' first | exact ok_some ‹_› | refine cD_bindR (cD_take' hx.1 ‹_› (by decide) (by decide)) (fun _ _ _ => ?_) | refine cD_bindR (cD_E' hx.1 ‹_› (by omega)) (fun _ _ _ => ?_) | refine cD_bindR (cD_type' hx.1 ‹_› (by omega)) (fun _ _ _ => ?_) | refine cD_bindR (cD_sides' hx.1 ‹_› (by omega) (by omega)) (fun _ _ _ => ?_) | refine cD_bindR (cD_tType hx.1 ‹_›) (fun _ _ _ => ?_) | refine ok_pairOf (fun _ => ?_) | refine cD_getp hx.1 ‹_› ?_ | refine cD_bind (cD_node hx.1 ‹_›) (fun _ _ _ => ?_) | refine cD_bind (cD_inner hx.1 ‹_›) (fun _ _ _ => ?_) | refine cD_textOf hx.1 ‹_› (fun _ => ?_) | refine cD_has hx.1 ‹_› ?_ (fun _ => ?_) | refine cD_kindB hx.1 ‹_› (fun _ _ => ?_) | refine cD_ifk ‹_› (by decide) (by decide) ?_ | exact cD_call hx.1 ‹_› | exact ok_some (cD_si hx.1.1 ‹_› (by omega)))) ?_
  rintro _ MB NN ⟨k0, k1, k2, k3⟩
  -- the last expression
  refine J_bind (HE j (by omega) (i4 + 1 + 1 + 1 + 1 + 1 + 1 + 1) (m4 + 1 + 1) (c4 + 1) xn4 an4 _ D W Y g4 MB NN (by simp only [List.length_cons]; omega) hY (by omega) k1 k2) (by intros; (repeat' first | exact ok_some ‹_› | refine cD_bindR (cD_take' hx.1 ‹_› (by decide) (by decide)) (fun _ _ _ => ?_) | refine cD_bindR (cD_E' hx.1 ‹_› (by omega)) (fun _ _ _ => ?_) | refine cD_bindR (cD_type' hx.1 ‹_› (by omega)) (fun _ _ _ => ?_) | refine cD_bindR (cD_sides' hx.1 ‹_› (by omega) (by omega)) (fun _ _ _ => ?_) | refine cD_bindR (cD_tType hx.1 ‹_›) (fun _ _ _ => ?_) | refine ok_pairOf (fun _ => ?_) | refine cD_getp hx.1 ‹_› ?_ | refine cD_bind (cD_node hx.1 ‹_›) (fun _ _ _ => ?_) | refine cD_bind (cD_inner hx.1 ‹_›) (fun _ _ _ => ?_) | refine cD_textOf hx.1 ‹_› (fun _ => ?_) | refine cD_has hx.1 ‹_› ?_ (fun _ => ?_) | refine cD_kindB hx.1 ‹_› (fun _ _ => ?_) | refine cD_ifk ‹_› (by decide) (by decide) ?_ | exact cD_call hx.1 ‹_› | exact ok_some (cD_si hx.1.1 ‹_› (by omega)))) ?_
  rintro r MC NO ⟨i6, m6, c6, xn6, an6, g6, rfl, v1, v2, v3, v4, v5, v6, v7, v8, v9, vA⟩
  have hi6 := v1.2.2.2.1
  obtain ⟨NP, w1, w2, w3, w4⟩ := r_keep (.inr (.inl ⟨rfl, rfl⟩)) hh v2 (by omega) (by simp only [List.length_cons]; omega) (by omega)
  obtain ⟨NQ, w5, w6, w7⟩ := r_put w2 (by simp only [List.length_cons]; omega) (by omega)
  obtain ⟨NR', w8, w9, wA⟩ := r_ende w6 (by omega)
  refine J_step (w1.trans (w5.trans w8)) ?_
  refine J_getp hx v1.1.1 ?_
  obtain ⟨MD, z1, z2, z3, z4, z5, z6, z7, z8, z9⟩ := c_node (kd := 306) (t := nI i) (a1 := nI c4) (a2 := nI c6) (a3 := nI m4) hb v1 (by omega)
  refine J_bs z1 (J_some ?_)
  have wL : rS NP NR' := rS_trans w7 wA
  -- frames
  have R2 : ∀ c k, 71 ≤ c ∧ c ≤ 78 → ¬ (c = 73 ∧ k = xn) → NR'.1 c k = NO.1 c k := fun c k u1 u2 => (wL.1 c k (by omega)).trans (w4.1 c k (by omega))
  have RJ : ∀ c k, 71 ≤ c ∧ c ≤ 78 → ¬ (c = 73 ∧ k = xn) → (c ≤ 77 → k < xn4) → (c = 78 → k < an4) → NR'.1 c k = NJ.1 c k := fun c k u1 u2 u3 u4 => (R2 c k u1 (by omega)).trans ((v9.1 c k (by unfold rEa; omega)).trans ((k3.1 c k (by omega)).trans ((j3.1 c k (by omega)).trans ((b5.1 c k (by omega)).trans (a3.1 c k (by omega))))))
  have RG : ∀ c k, 71 ≤ c ∧ c ≤ 78 → ¬ ((c = 73 ∨ c = 74) ∧ k = xn) → (c ≤ 77 → k < xn4) → (c = 78 → k < an4) → NR'.1 c k = NG.1 c k := fun c k u1 u2 u3 u4 => (RJ c k u1 (by omega) u3 u4).trans ((n6.1 c k (by omega)).trans ((o3.1 c k (by omega)).trans (l3.1 c k (by omega))))
  have R1 : ∀ c k, 71 ≤ c ∧ c ≤ 78 → ¬ ((c = 73 ∨ c = 72 ∨ c = 74) ∧ k = xn) → (c ≤ 77 → k < xn4) → (c = 78 → k < an4) → NR'.1 c k = NF.1 c k := fun c k u1 u2 u3 u4 => (RG c k u1 (by omega) u3 u4).trans (h4.1 c k (by omega))
  have R0 : ∀ c k, 71 ≤ c ∧ c ≤ 78 → ¬ ((c = 73 ∨ c = 72 ∨ c = 74) ∧ k = xn) → c ≤ 77 → k < xn + 1 → NR'.1 c k = NC.1 c k := fun c k u1 u2 u3 u4 => (R1 c k u1 u2 (by omega) (by omega)).trans (f9.1 c k (by unfold rEa; omega))
  have Q2 : ∀ c k, ¬ ((c = 62 ∧ k = 7) ∨ (c = 69 ∧ 16 * (12 * h + f) + m6 ≤ k)) → NR'.2.1 c k = NO.2.1 c k := fun c k u => (wL.2 c k (by omega)).trans (w4.2 c k (by omega))
  have QL : ∀ c k, ¬ ((c = 62 ∧ k = 7) ∨ (c = 69 ∧ 16 * (12 * h + f) + m4 + 1 + 1 ≤ k)) → (c = 77 → k < xn4) → NR'.2.1 c k = NL.2.1 c k := fun c k u u2 => (Q2 c k (by omega)).trans ((v9.2 c k (by unfold rEl; omega)).trans ((k3.2 c k (by omega)).trans (j3.2 c k (by omega))))
  have QJ : ∀ c k, ¬ ((c = 62 ∧ k = 7) ∨ (c = 69 ∧ 16 * (12 * h + f) + m4 + 1 ≤ k)) → (c = 77 → k < xn4) → NR'.2.1 c k = NJ.2.1 c k := fun c k u u2 => (QL c k (by omega) (by omega)).trans ((b5.2 c k (by omega)).trans (a3.2 c k (by omega)))
  have Q1 : ∀ c k, ¬ ((c = 62 ∧ k = 7) ∨ (c = 69 ∧ 16 * (12 * h + f) + m4 ≤ k)) → (c = 77 → k < xn4) → NR'.2.1 c k = NF.2.1 c k := fun c k u u2 => (QJ c k (by omega) (by omega)).trans ((n6.2 c k (by omega)).trans ((o3.2 c k (by omega)).trans ((l3.2 c k (by omega)).trans (h4.2 c k (by omega)))))
  have C9 : cE b f (m4 + 1 + 1) (c4 + 1) M9 MD := cE_trans (cE_3 j0) (cE_trans (cE_3 k0) (cE_trans v8 z3 (by omega) (by omega)) (Nat.le_refl _) (Nat.le_refl _)) (Nat.le_refl _) (Nat.le_refl _)
  have C7 : cE b f (m4 + 1) (c4 + 1) M7 MD := cE_trans (cE_3 a0) (cE_trans b4 C9 (by omega) (by omega)) (Nat.le_refl _) (Nat.le_refl _)
  have C4 : cE b f m4 (c4 + 1) M4 MD := cE_trans (cE_3 l0) (cE_trans (cE_3 o0) (cE_trans n5 C7 (by omega) (by omega)) (Nat.le_refl _) (Nat.le_refl _)) (Nat.le_refl _) (Nat.le_refl _)
  have gn : ∀ r k, (r ≠ 2 ∨ (k ≠ m4 ∧ k ≠ m4 + 1)) → gB (gB g6 m4 (c6 + 1)) (m4 + 1) (c6 + 1) r k = g6 r k := fun r k u => (gB_ne (by omega)).trans (gB_ne (by omega))
  have S1 : TI b T n (gB (gB g6 m4 (c6 + 1)) (m4 + 1) (c6 + 1)) nd (c4 + 1) (xn + 1) xn4 m m4 an6 MD NR' := TI_mono (TI_congr f5 (fun c k u1 u2 u3 u4 _ => C4.1 c k (by unfold cEa; omega)) (fun c k u1 u2 u3 u4 => R1 c k (by omega) (by omega) (by omega) (by omega)) (fun k u1 u2 => Q1 77 k (by omega) (by omega)) (fun k u => R1 78 k (by omega) (by omega) (by omega) (by omega)) (fun k u1 u2 => ⟨(gn _ _ (by omega)).trans (v6.1 k u2).1, (gn _ _ (by omega)).trans (v6.1 k u2).2⟩) (fun k u1 u2 => (gn _ _ (by omega)).trans (v6.2 k (by omega)))) (Nat.le_refl _) (Nat.le_refl _) (by omega) (Nat.le_refl _) (Nat.le_refl _)
  have S2 : TI b T n (gB (gB g6 m4 (c6 + 1)) (m4 + 1) (c6 + 1)) (c4 + 1) (c6 + 1) xn4 xn6 m4 m6 an6 MD NR' := TI_mono (TI_congr v5 (fun c k u1 u2 u3 u4 _ => z3.1 c k (by unfold cEa; omega)) (fun c k u1 u2 u3 u4 => R2 c k (by omega) (by omega)) (fun k u1 u2 => Q2 77 k (by omega)) (fun k u => R2 78 k (by omega) (by omega)) (fun k u1 u2 => ⟨gn _ _ (by omega), gn _ _ (by omega)⟩) (fun k u1 u2 => gn _ _ (by omega))) (by omega) (Nat.le_refl _) (Nat.le_refl _) (Nat.le_refl _) (Nat.le_refl _)
  have S := TI_app S1 S2 (by omega) (by omega) (by omega) (by omega) (by omega)
  have ge4 := (gn 0 c4 (by omega)).trans (v6.1 c4 (by omega)).1
  refine EQ_two (x := xn) (t := i) (c1 := c4) (gz := gB (gB g6 m4 (c6 + 1)) (m4 + 1) (c6 + 1)) rfl z2 w9 (by omega) (TI_mono S (by omega) (Nat.le_refl _) (Nat.le_refl _) (by omega) (Nat.le_refl _)) (fun c u1 u2 => by have := (S c u1 u2).1; omega) (by omega) (((gn _ _ (by omega)).trans (v6.1 c4 (by omega)).2).trans f4) ((gn _ _ (by omega)).trans v4) ⟨hi1, kd_lt (T := T) (by omega)⟩ z5 ?_ z6 z7 ?_ ?_ (.inr (.inr (.inr ⟨z4, ?_, m4, by omega, by omega, z8, ?_, ?_, gB_2⟩))) ?_ ?_ ?_ ?_ (LB_app (LB_congr fA (fun k _ z => (gn _ _ (by omega)).trans (v6.1 k z).2)) (LB_congr vA (fun k _ z => gn _ _ (by omega))) (fun k z1 z2 => (S2 k z1 z2).2.2.2.1)) (by unfold lbB; omega)
  · rw [R0 75 xn (by omega) (by omega) (by omega) (by omega)]; exact y2
  · rw [RG 72 xn (by omega) (by omega) (by omega) (by omega), h3, ge4]
  · rw [wL.1 _ _ (by omega), w3, gn 0 c6 (by omega)]
  · rw [R0 71 xn (by omega) (by omega) (by omega) (by omega)]; exact y1
  · rw [RJ 74 xn (by omega) (by omega) (by omega) (by omega)]; exact n4
  · rw [gB_ne (by omega), gB_2]
  · exact gA_trans f6 (gA_trans (gA_mono v6 (Nat.le_refl _) (show m4 ≤ m4 + 1 + 1 by omega)) ⟨fun k _ => ⟨gn _ _ (by omega), gn _ _ (by omega)⟩, fun k u => gn _ _ (by omega)⟩ (Nat.le_refl _) (Nat.le_refl _)) (by omega) (by omega)
  · refine NM_app (m1 := m4) (fun k u1 u2 => ?_) (NM_app (m1 := m4 + 1) (NM_one ?_) (NM_app (m1 := m4 + 1 + 1) (NM_one ?_) (fun k u1 u2 => ?_)))
    · rw [C4.2 _ _ (by omega), Q1 69 _ (by omega) (by omega)]; exact f7 k u1 u2
    · rw [C7.2 _ _ (by omega), QJ 69 _ (by omega) (by omega), n7, n8]
    · rw [C9.2 _ _ (by omega), QL 69 _ (by omega) (by omega), b6]
    · rw [z3.2 _ _ (by omega), Q2 69 _ (by omega)]; exact v7 k u1 u2
  · exact cE_trans (cE_3 d1) (cE_trans f8 C4 (by omega) (by omega)) (by omega) (by omega)
  · refine rE_trans rC ⟨fun c k u => ?_, fun c k u => ?_⟩ (Nat.le_refl _) (Nat.le_refl _) (Nat.le_refl _)
    · have u' := u
      unfold rEa at u'
      rw [wL.1 c k (by omega), w4.1 c k (by omega), v9.1 c k (by unfold rEa; omega), k3.1 c k (by omega), j3.1 c k (by omega), b5.1 c k (by omega), a3.1 c k (by omega), n6.1 c k (by omega), o3.1 c k (by omega), l3.1 c k (by omega), h4.1 c k (by omega), f9.1 c k (by unfold rEa; omega)]
    · have u' := u
      unfold rEl at u'
      rw [wL.2 c k (by omega), w4.2 c k (by omega), v9.2 c k (by unfold rEl; omega), k3.2 c k (by omega), j3.2 c k (by omega), b5.2 c k (by omega), a3.2 c k (by omega), n6.2 c k (by omega), o3.2 c k (by omega), l3.2 c k (by omega), h4.2 c k (by omega), f9.2 c k (by unfold rEl; omega)]
end JE3
