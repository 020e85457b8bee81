section JB
variable {b h n cnt f i m nd nb pl xn an ot x K k o t q : Nat} {L : List (Nat × Int32)} {D W Y : List Int32} {M M' M0 N N' N0 N1 N2 : mv_M} {T : Nat → Nat} {g : Nat → Nat → Nat}
/-- brackets without a comma -/
theorem r_cpl {w : Int32} (hr : rO h N0 T n f i m xn an ((22, w) :: L) D W Y ot N) (hl : L.length < 2999) (hk : lx_k T n (lx_st T n i) ≠ 44) : ∃ N', fX11_parse_26 N = fX11_parse_26 N' ∧ rO h N0 T n f i m xn an ((1, nI 15) :: L) D W Y ot N' ∧ rS N N' := by
  have hv := vk_k (T := T) (n := n) (s := lx_st T n i)
  have t16 := tkA hv (r := 16) (by omega)
  rw [kt16] at t16
  obtain ⟨q0, s0⟩ := r_pop hr
  have et := rO_tk q0
  obtain ⟨N4, p4, q4, s4⟩ := r_push (s := 1) (w := nI 15) q0 (by omega)
  refine ⟨N4, P_go ((g_rest hr (by omega) (by omega)).trans ?_), q4, rS_trans s0 s4⟩
  unfold fX11_onRest fX11_onCouple
  simp (disch := omega) only [et, t16, hk, p4, k_iT, k_iF, Bool.false_eq_true, eq_self, Nat.add_zero, k_lt', k_bs, k_T, k_F, k_inb, k_ck, k_nz, ↓kN, kL, k_lt, k_le, k_eq, kn_le, kn_lt, kn_eq, kn_le', kn_lt', kn_eq', nI_clamp, nI_add, k_sub, k_mul, k_div, rd_hi, rd_mi, rd_hl, rd_ml, rd_hr, rd_mr, rd_si2, rd_sl1, rd_sl2, rd_sr1, rd_sr2]
/-- with a comma: a pair -/
theorem r_cpl2 {w : Int32} {v : Nat} (hh : h ≤ 1) (hr : rO h N0 T n f i m xn an ((22, w) :: L) (nI v :: D) W Y ot N) (hl : L.length + 8 < 3000) (hd : D.length < 1100) (hxn : 1001 * h ≤ xn ∧ xn < 1001 * h + 1001) (hk : lx_k T n (lx_st T n i) = 44) : ∃ N', rO h N0 T n f i m (xn + 1) an ((4, nI 0) :: (16, nI xn) :: (1, nI 15) :: (18, nI xn) :: L) D W Y ot N' ∧ rE h f m xn an N N' ∧ N'.1 71 xn = nI 9 ∧ N'.1 75 xn = w ∧ N'.1 72 xn = nI v ∧ ∀ N'', fX11_pass N' = some ((), N'') → fX11_parse_26 N = fX11_parse_26 N'' := by
  obtain ⟨q0, s0⟩ := r_pop hr
  have et := rO_tk q0
  rw [hk] at et
  obtain ⟨N2, p2, q2, s2, x1, x2⟩ := r_node (kd := nI 9) (pl := w) q0 hh (by omega) (by omega)
  obtain ⟨N3, p3, q3, s3⟩ := r_last q2 hd
  have q4 := rO_si (c := 72) (k := xn) (v := nI v) q3 hh (by omega)
  obtain ⟨N5, p5, q5, s5⟩ := r_push (s := 18) (w := nI xn) q4 (by omega)
  obtain ⟨N6, p6, q6, s6⟩ := r_push (s := 1) (w := nI 15) q5 (by simp only [List.length_cons]; omega)
  obtain ⟨N7, p7, q7, s7⟩ := r_push (s := 16) (w := nI xn) q6 (by simp only [List.length_cons]; omega)
  obtain ⟨N8, p8, q8, s8⟩ := r_push (s := 4) (w := nI 0) q7 (by simp only [List.length_cons]; omega)
  have s9 : rS (mv_si N3 72 xn (nI v)) N8 := rS_trans s5 (rS_trans s6 (rS_trans s7 s8))
  refine ⟨N8, q8, ?_, ?_, ?_, ?_, fun N'' e => P_go ((g_rest hr (by omega) (by omega)).trans ?_)⟩
  · exact rE_trans (rS_E s0) (rE_trans s2 (rE_trans (rE_si (rS_E (m := m) (xn := xn) (an := an) s3) (by unfold rEa; omega)) (rS_E (m := m) (xn := xn) (an := an) s9) (by omega) (by omega) (by omega)) (by omega) (by omega) (by omega)) (by omega) (by omega) (by omega)
  · rw [s9.1 _ _ (by omega)]; simp (disch := omega) only [rd_hi, rd_mi, rd_hl, rd_ml, rd_hr, rd_mr, rd_si2, rd_sl1, rd_sl2, rd_sr1, rd_sr2]; rw [s3.1 _ _ (by omega)]; exact x1
  · rw [s9.1 _ _ (by omega)]; simp (disch := omega) only [rd_hi, rd_mi, rd_hl, rd_ml, rd_hr, rd_mr, rd_si2, rd_sl1, rd_sl2, rd_sr1, rd_sr2]; rw [s3.1 _ _ (by omega)]; exact x2
  · rw [s9.1 _ _ (by omega)]; simp (disch := omega) only [rd_hi, rd_mi, rd_hl, rd_ml, rd_hr, rd_mr, rd_si2, rd_sl1, rd_sl2, rd_sr1, rd_sr2]
  · unfold fX11_onRest fX11_onCouple
    simp (disch := omega) only [et, show lx_tk 44 = 16 from rfl, p2, p3, p5, p6, p7, p8, e, k_iT, k_iF, Bool.false_eq_true, eq_self, Nat.add_zero, k_lt', k_bs, k_T, k_F, k_inb, k_ck, k_nz, ↓kN, kL, k_lt, k_le, k_eq, kn_le, kn_lt, kn_eq, kn_le', kn_lt', kn_eq', nI_clamp, nI_add, k_sub, k_mul, k_div, rd_hi, rd_mi, rd_hl, rd_ml, rd_hr, rd_mr, rd_si2, rd_sl1, rd_sl2, rd_sr1, rd_sr2]
set_option maxHeartbeats 4000000 in
theorem j_brk (hx : pX b h M0 N0 T n cnt f) (HE : ∀ k, K ≤ k → Sp b h M0 N0 T n cnt f (o + 1) (RX3_parseE k 0 (nI (o + 1)) 0) [(4, nI 0)] (20 * (o + 1))) (hk : K + 2 ≤ k) (hK : 0 < K) (ho : o < 20) (hL : L.length ≤ 20 * o + 8) (hY : Y.length ≤ 4) (hB : 1001 * h ≤ xn ∧ xn ≤ 1001 * h + i ∧ 1001 * h ≤ an ∧ an + D.length + W.length ≤ 1001 * h + i) (hc : cO b M0 T n cnt f i m nd M) (hr : rO h N0 T n f i m xn an ((10, nI 0) :: L) D W Y (o + 1) N) (hkd : lx_k T n (lx_st T n i) = 40) : J b h M0 N0 T n cnt f N (RX3_parseE k 5 (nI (o + 1)) 0 M) (EQ (lbB (20 * o + 8)) b h M0 N0 T n cnt f i m nd xn an L D W Y (o + 1) g M N) := by
  have hb := hx.1.1
  have hh := hx.2.2.1
  have hi1 := hc.2.2.2.1
  have hnd := hc.2.2.2.2.2.2.2.2.1
  have ek := cO_kind hx.1 hc
  rw [hkd] at ek
  obtain ⟨j, rfl⟩ : ∃ j, k = j + 1 + 1 := ⟨k - 2, by omega⟩
  rw [RX3_parseE, if_neg (by decide), if_neg (by decide), if_neg (by decide), if_neg (by decide), if_neg (by decide), if_pos rfl]
  unfold fX3_parseAtom
  rw [k_lt', hc.2.1]
  refine J_bs ek (J_F (by decide) (J_F (by decide) (J_T rfl ?_)))
  obtain ⟨q0, s0⟩ := r_pop hr
  have t0 := rO_tk q0
  have u0 := rO_ta q0
  rw [hkd] at t0
  obtain ⟨N2, p2, q2, s2⟩ := r_push (s := 22) (w := nI (lx_st T n i)) q0 (by omega)
  obtain ⟨N3, p3, q3, s3⟩ := r_push (s := 4) (w := nI 0) q2 (by simp only [List.length_cons]; omega)
  obtain ⟨M1, N4, e1, e2, e3, e4⟩ := j_pass hx hc q3 (by omega)
  have eP : fX11_parse_26 N = fX11_parse_26 N4 := by
    refine P_go ((g_sum hr (by omega) (by omega)).trans ?_)
    unfold fX11_onSum fX11_onAtom
    simp (disch := omega) only [t0, u0, show lx_tk 40 = 14 from rfl, p2, p3, e2, k_iT, k_iF, Bool.false_eq_true, eq_self, Nat.add_zero, k_lt', k_bs, k_T, k_F, k_inb, k_ck, k_nz, ↓kN, kL, k_lt, k_le, k_eq, kn_le, kn_lt, kn_eq, kn_le', kn_lt', kn_eq', nI_clamp, nI_add, k_sub, k_mul, k_div, rd_hi, rd_mi, rd_hl, rd_ml, rd_hr, rd_mr, rd_si2, rd_sl1, rd_sl2, rd_sr1, rd_sr2]
  refine J_bs e1 (J_step eP ?_)
  refine J_bind (Q := EQ (lbB (20 * o + 8)) b h M0 N0 T n cnt f i m nd xn an L D W Y (o + 1) g M N) ?_ (fun nb pl r M' hd => ok_some hd) (fun r M' N' hq => J_some hq)
  show J b h M0 N0 T n cnt f N4 (RX3_parseE (j + 1) 6 (nI i) (nI (o + 1)) M1) _
  rw [RX3_parseE, if_neg (by decide), if_neg (by decide), if_neg (by decide), if_neg (by decide), if_neg (by decide), if_neg (by decide), if_pos rfl]
  unfold fX3_parseInBrackets
  have hdead : ∀ (nb pl : Nat) (r1 : Int32) (M2 : mv_M), cD b M0 T n cnt f nb pl M2 → mv_ok (mv_bind (fX3_kind M2) fun r3 M4 => if r3 = 44 then mv_bind (fX3_pass M4) fun _ M5 => mv_bind ((fun a0 M => RX3_parseE j 0 a0 0 M) (nI (o + 1)) M5) fun r6 M7 => mv_bind (fX3_take 41 M7) fun _ M8 => mv_getp (M8.2.2 3 2) fun b9 => mv_bind (fX4_addNode b9 6 (nI i) r1 r6 (-1) M8) fun r10 M11 => some (r10, M11) else mv_bind (fX3_take 41 M4) fun _ M12 => some (r1, M12)) (fun _ M'' => cD b M0 T n cnt f nb pl M'') := by
    intro nb pl r1 M2 hd
    refine cD_kindB hx.1 hd (fun v hv => cD_ifk hv (by decide) (by decide) ?_)
    (have hx1 := hx.1; have hx2 := hx.1.1; (repeat' first | with_reducible exact ok_some ‹_› | with_reducible refine cD_bindR (cD_take' hx1 ‹_› (by decide) (by decide)) (fun _ _ _ => ?_) | with_reducible refine cD_bindR (cD_E' hx1 ‹_› (by omega)) (fun _ _ _ => ?_) | with_reducible refine cD_bindR (cD_type' hx1 ‹_› (by omega)) (fun _ _ _ => ?_) | with_reducible refine cD_bindR (cD_sides' hx1 ‹_› (by omega) (by omega)) (fun _ _ _ => ?_) | with_reducible refine cD_bindR (cD_tType hx1 ‹_›) (fun _ _ _ => ?_) | with_reducible refine ok_pairOf (fun _ => ?_) | with_reducible refine cD_getp hx1 ‹_› ?_ | with_reducible refine cD_bind (cD_node hx1 ‹_›) (fun _ _ _ => ?_) | with_reducible refine cD_bind (cD_inner hx1 ‹_›) (fun _ _ _ => ?_) | with_reducible refine cD_textOf hx1 ‹_› (fun _ => ?_) | with_reducible refine cD_has hx1 ‹_› ?_ (fun _ => ?_) | with_reducible refine cD_kindB hx1 ‹_› (fun _ _ => ?_) | with_reducible refine cD_ifk ‹_› (by decide) (by decide) ?_ | with_reducible exact cD_call hx1 ‹_› | with_reducible exact ok_some (cD_si hx2 ‹_› (by omega))))
  have r4 : rS N N4 := rS_trans s0 (rS_trans s2 (rS_trans s3 (rS_tk e3)))
  rcases e4 with ⟨nb, pl, d1, d2⟩ | ⟨d1, d2, d3⟩
  · exact J_dead (cD_bindR (cD_E' hx.1 d1 (by omega)) (fun r1 M2 hd => hdead nb pl r1 M2 hd)) (P_fault d2)
  refine J_bind (HE j (by omega) (i + 1) m nd xn an _ D W Y g M1 N4 (by simp only [List.length_cons]; omega) hY (by omega) d2 d3) (fun nb pl r1 M2 hd => hdead nb pl r1 M2 hd) ?_
  rintro r M4 NF ⟨i4, m4, c4, xn4, an4, g4, rfl, f1, f2, f3, f4, f5, f6, f7, f8, f9, fA⟩
  have hi4 := f1.2.2.2.1
  have ek4 := cO_kind hx.1 f1
  have hv := vk_k (T := T) (n := n) (s := lx_st T n i4)
  have hv2 : lx_k T n (lx_st T n i4) < 2 ^ 31 := by unfold vk at hv; omega
  refine J_bs ek4 ?_
  have cc1 : cE b f m nd M M1 := cE_3 d1
  by_cases h44 : lx_k T n (lx_st T n i4) = 44
  · refine J_T (by rw [h44]; rfl) ?_
    obtain ⟨N5, a1, a2, a3, a4, a5, a6⟩ := r_cpl2 hh f2 (by omega) (by omega) (by omega) h44
    obtain ⟨M5, N6, b1, b2, b3, b4⟩ := j_pass hx f1 a1 (by omega)
    refine J_bs b1 (J_step (a6 _ b2) ?_)
    rcases b4 with ⟨nb, pl, d5, d6⟩ | ⟨d4, d5, d6⟩
    · refine J_dead ?_ (P_fault d6)
      refine cD_bindR (cD_E' hx.1 d5 (by omega)) (fun r1 M2 hd => ?_)
      (have hx1 := hx.1; have hx2 := hx.1.1; (repeat' first | with_reducible exact ok_some ‹_› | with_reducible refine cD_bindR (cD_take' hx1 ‹_› (by decide) (by decide)) (fun _ _ _ => ?_) | with_reducible refine cD_bindR (cD_E' hx1 ‹_› (by omega)) (fun _ _ _ => ?_) | with_reducible refine cD_bindR (cD_type' hx1 ‹_› (by omega)) (fun _ _ _ => ?_) | with_reducible refine cD_bindR (cD_sides' hx1 ‹_› (by omega) (by omega)) (fun _ _ _ => ?_) | with_reducible refine cD_bindR (cD_tType hx1 ‹_›) (fun _ _ _ => ?_) | with_reducible refine ok_pairOf (fun _ => ?_) | with_reducible refine cD_getp hx1 ‹_› ?_ | with_reducible refine cD_bind (cD_node hx1 ‹_›) (fun _ _ _ => ?_) | with_reducible refine cD_bind (cD_inner hx1 ‹_›) (fun _ _ _ => ?_) | with_reducible refine cD_textOf hx1 ‹_› (fun _ => ?_) | with_reducible refine cD_has hx1 ‹_› ?_ (fun _ => ?_) | with_reducible refine cD_kindB hx1 ‹_› (fun _ _ => ?_) | with_reducible refine cD_ifk ‹_› (by decide) (by decide) ?_ | with_reducible exact cD_call hx1 ‹_› | with_reducible exact ok_some (cD_si hx2 ‹_› (by omega))))
    refine J_bind (HE j (by omega) (i4 + 1) m4 (c4 + 1) (xn4 + 1) an4 _ D W Y g4 M5 N6 (by simp only [List.length_cons]; omega) hY (by omega) d5 d6) (by intros; (have hx1 := hx.1; have hx2 := hx.1.1; (repeat' first | with_reducible exact ok_some ‹_› | with_reducible refine cD_bindR (cD_take' hx1 ‹_› (by decide) (by decide)) (fun _ _ _ => ?_) | with_reducible refine cD_bindR (cD_E' hx1 ‹_› (by omega)) (fun _ _ _ => ?_) | with_reducible refine cD_bindR (cD_type' hx1 ‹_› (by omega)) (fun _ _ _ => ?_) | with_reducible refine cD_bindR (cD_sides' hx1 ‹_› (by omega) (by omega)) (fun _ _ _ => ?_) | with_reducible refine cD_bindR (cD_tType hx1 ‹_›) (fun _ _ _ => ?_) | with_reducible refine ok_pairOf (fun _ => ?_) | with_reducible refine cD_getp hx1 ‹_› ?_ | with_reducible refine cD_bind (cD_node hx1 ‹_›) (fun _ _ _ => ?_) | with_reducible refine cD_bind (cD_inner hx1 ‹_›) (fun _ _ _ => ?_) | with_reducible refine cD_textOf hx1 ‹_› (fun _ => ?_) | with_reducible refine cD_has hx1 ‹_› ?_ (fun _ => ?_) | with_reducible refine cD_kindB hx1 ‹_› (fun _ _ => ?_) | with_reducible refine cD_ifk ‹_› (by decide) (by decide) ?_ | with_reducible exact cD_call hx1 ‹_› | with_reducible exact ok_some (cD_si hx2 ‹_› (by omega))))) ?_
    rintro r M6 NH ⟨i6, m6, c6, xn6, an6, g6, rfl, v1, v2, v3, v4, v5, v6, v7, v8, v9, vA⟩
    have hi6 := v1.2.2.2.1
    obtain ⟨NI, w1, w2, w3, w4⟩ := r_keep (.inr (.inl ⟨rfl, rfl⟩)) hh v2 (by omega) (by simp only [List.length_cons]; omega) (by omega)
    refine J_step w1 ?_
    refine J_bind (j_take (w := 15) hx v1 w2 (by omega) (by omega) (by simp only [List.length_cons]; omega)) (by intros; (have hx1 := hx.1; have hx2 := hx.1.1; (repeat' first | with_reducible exact ok_some ‹_› | with_reducible refine cD_bindR (cD_take' hx1 ‹_› (by decide) (by decide)) (fun _ _ _ => ?_) | with_reducible refine cD_bindR (cD_E' hx1 ‹_› (by omega)) (fun _ _ _ => ?_) | with_reducible refine cD_bindR (cD_type' hx1 ‹_› (by omega)) (fun _ _ _ => ?_) | with_reducible refine cD_bindR (cD_sides' hx1 ‹_› (by omega) (by omega)) (fun _ _ _ => ?_) | with_reducible refine cD_bindR (cD_tType hx1 ‹_›) (fun _ _ _ => ?_) | with_reducible refine ok_pairOf (fun _ => ?_) | with_reducible refine cD_getp hx1 ‹_› ?_ | with_reducible refine cD_bind (cD_node hx1 ‹_›) (fun _ _ _ => ?_) | with_reducible refine cD_bind (cD_inner hx1 ‹_›) (fun _ _ _ => ?_) | with_reducible refine cD_textOf hx1 ‹_› (fun _ => ?_) | with_reducible refine cD_has hx1 ‹_› ?_ (fun _ => ?_) | with_reducible refine cD_kindB hx1 ‹_› (fun _ _ => ?_) | with_reducible refine cD_ifk ‹_› (by decide) (by decide) ?_ | with_reducible exact cD_call hx1 ‹_› | with_reducible exact ok_some (cD_si hx2 ‹_› (by omega))))) ?_
    rintro _ M7 NJ ⟨o0, o1, o2, o3⟩
    obtain ⟨NK, w5, w6, w7⟩ := r_put o2 (by omega) (by omega)
    refine J_step w5 (J_getp hx o1.1.1 ?_)
    obtain ⟨M8, z1, z2, z3, z4, z5, z6, z7, z8, z9⟩ := c_node (kd := 6) (t := nI i) (a1 := nI c4) (a2 := nI c6) (a3 := -1) hb o1 (by omega)
    refine J_bs z1 (J_some ?_)
    have wL : rS NI NK := rS_trans o3 w7
    have R2 : ∀ c k, 71 ≤ c ∧ c ≤ 78 → ¬ (c = 73 ∧ k = xn4) → NK.1 c k = NH.1 c k := fun c k u1 u2 => (wL.1 c k (by omega)).trans (w4.1 c k (by omega))
    have R5 : ∀ c k, 71 ≤ c ∧ c ≤ 78 → ¬ (c = 73 ∧ k = xn4) → (c ≤ 77 → k < xn4 + 1) → (c = 78 → k < an4) → NK.1 c k = N5.1 c k := fun c k u1 u2 u3 u4 => (R2 c k u1 u2).trans ((v9.1 c k (by unfold rEa; omega)).trans (b3.1 c k (by omega)))
    have R1 : ∀ c k, 71 ≤ c ∧ c ≤ 78 → (c ≤ 77 → k < xn4) → (c = 78 → k < an4) → NK.1 c k = NF.1 c k := fun c k u1 u3 u4 => (R5 c k u1 (by omega) (by omega) u4).trans (a2.1 c k (by unfold rEa; omega))
    have Q2 : ∀ c k, ¬ ((c = 62 ∧ k = 7) ∨ (c = 69 ∧ 16 * (12 * h + f) + m6 ≤ k)) → NK.2.1 c k = NH.2.1 c k := fun c k u => (wL.2 c k (by omega)).trans (w4.2 c k (by omega))
    have Q1 : ∀ c k, ¬ ((c = 62 ∧ k = 7) ∨ (c = 69 ∧ 16 * (12 * h + f) + m4 ≤ k)) → (c = 77 → k < xn4) → NK.2.1 c k = NF.2.1 c k := fun c k u u2 => (Q2 c k (by omega)).trans ((v9.2 c k (by unfold rEl; omega)).trans ((b3.2.1 c k (by omega)).trans (a2.2 c k (by unfold rEl; omega))))
    have C6 : cE b f m6 (c6 + 1) M6 M8 := cE_trans (cE_3 o0) z3 (Nat.le_refl _) (Nat.le_refl _)
    have C4 : cE b f m4 (c4 + 1) M4 M8 := cE_trans (cE_3 d4) (cE_trans v8 C6 (by omega) (by omega)) (by omega) (by omega)
    have S1 : TI b T n g6 nd (c4 + 1) xn xn4 m m4 an6 M8 NK := TI_mono (TI_congr f5 (fun c k u1 u2 u3 u4 _ => C4.1 c k (by unfold cEa; omega)) (fun c k u1 u2 u3 u4 => R1 c k (by omega) (by omega) (by omega)) (fun k u1 u2 => Q1 77 k (by omega) (by omega)) (fun k u => R1 78 k (by omega) (by omega) (by omega)) (fun k u1 u2 => v6.1 k u2) (fun k u1 u2 => v6.2 k u2)) (Nat.le_refl _) (Nat.le_refl _) (by omega) (Nat.le_refl _) (Nat.le_refl _)
    have S2 : TI b T n g6 (c4 + 1) (c6 + 1) (xn4 + 1) xn6 m4 m6 an6 M8 NK := TI_congr v5 (fun c k u1 u2 u3 u4 _ => C6.1 c k (by unfold cEa; omega)) (fun c k u1 u2 u3 u4 => R2 c k (by omega) (by omega)) (fun k u1 u2 => Q2 77 k (by omega)) (fun k u => R2 78 k (by omega) (by omega)) (fun k u1 u2 => ⟨rfl, rfl⟩) (fun k u1 u2 => rfl)
    have S := TI_app S1 (TI_mono S2 (Nat.le_refl _) (Nat.le_refl _) (Nat.le_refl _) (show xn4 ≤ xn4 + 1 by omega) (Nat.le_refl _)) (by omega) (by omega) (by omega) (by omega) (by omega)
    refine EQ_two (x := xn4) (t := i) (c1 := c4) (gz := g6) rfl z2 w6 (by omega) S (fun c u1 u2 => ?_) (by omega) ((v6.1 c4 (by omega)).2.trans f4) v4 ⟨hi1, kd_lt (T := T) (by omega)⟩ z5 ?_ z6 z7 ?_ ?_ (.inr (.inl ⟨z4, ?_⟩)) ?_ ?_ ?_ ?_ (LB_app (LB_congr fA (fun k _ z => (v6.1 k z).2)) vA (fun k z1 z2 => (S2 k z1 z2).2.2.2.1)) (by unfold lbB; omega)
    · by_cases hcc : c < c4 + 1
      · have := (S1 c u1 hcc).2.1; omega
      · have := (S2 c (by omega) u2).1; omega
    · rw [R5 75 xn4 (by omega) (by omega) (by omega) (by omega)]; exact a4
    · rw [R5 72 xn4 (by omega) (by omega) (by omega) (by omega), a5, (v6.1 c4 (by omega)).1]
    · rw [wL.1 _ _ (by omega)]; exact w3
    · rw [R5 71 xn4 (by omega) (by omega) (by omega) (by omega)]; exact a3
    · exact gA_trans f6 v6 (by omega) (by omega)
    · refine NM_app (m1 := m4) (fun k u1 u2 => ?_) (fun k u1 u2 => ?_)
      · rw [C4.2 _ _ (by omega), Q1 69 _ (by omega) (by omega)]; exact f7 k u1 u2
      · rw [C6.2 _ _ (by omega), Q2 69 _ (by omega)]; exact v7 k u1 u2
    · exact cE_trans cc1 (cE_trans f8 C4 (by omega) (by omega)) (by omega) (by omega)
    · refine rE_trans (rE_trans (rS_E (m := m) (xn := xn) (an := an) r4) f9 (by omega) (by omega) (by omega)) (m1 := m4) (xn1 := xn4) (an1 := an4) ⟨fun c k u => ?_, fun c k u => ?_⟩ (by omega) (by omega) (by omega)
      · have u' := u
        unfold rEa at u'
        rw [wL.1 c k (by omega), w4.1 c k (by omega), v9.1 c k (by unfold rEa; omega), b3.1 c k (by omega), a2.1 c k u]
      · have u' := u
        unfold rEl at u'
        rw [wL.2 c k (by omega), w4.2 c k (by omega), v9.2 c k (by unfold rEl; omega), b3.2.1 c k (by omega), a2.2 c k u]
  · refine J_F (by rw [kM, k_eq hv2 (by omega)]; exact h44) ?_
    obtain ⟨N5, a1, a2, a3⟩ := r_cpl f2 (by omega) h44
    refine J_step a1 ?_
    refine J_bind (j_take (w := 15) hx f1 a2 (by omega) (by omega) (by omega)) (by intros; (have hx1 := hx.1; have hx2 := hx.1.1; (repeat' first | with_reducible exact ok_some ‹_› | with_reducible refine cD_bindR (cD_take' hx1 ‹_› (by decide) (by decide)) (fun _ _ _ => ?_) | with_reducible refine cD_bindR (cD_E' hx1 ‹_› (by omega)) (fun _ _ _ => ?_) | with_reducible refine cD_bindR (cD_type' hx1 ‹_› (by omega)) (fun _ _ _ => ?_) | with_reducible refine cD_bindR (cD_sides' hx1 ‹_› (by omega) (by omega)) (fun _ _ _ => ?_) | with_reducible refine cD_bindR (cD_tType hx1 ‹_›) (fun _ _ _ => ?_) | with_reducible refine ok_pairOf (fun _ => ?_) | with_reducible refine cD_getp hx1 ‹_› ?_ | with_reducible refine cD_bind (cD_node hx1 ‹_›) (fun _ _ _ => ?_) | with_reducible refine cD_bind (cD_inner hx1 ‹_›) (fun _ _ _ => ?_) | with_reducible refine cD_textOf hx1 ‹_› (fun _ => ?_) | with_reducible refine cD_has hx1 ‹_› ?_ (fun _ => ?_) | with_reducible refine cD_kindB hx1 ‹_› (fun _ _ => ?_) | with_reducible refine cD_ifk ‹_› (by decide) (by decide) ?_ | with_reducible exact cD_call hx1 ‹_› | with_reducible exact ok_some (cD_si hx2 ‹_› (by omega))))) ?_
    rintro _ M7 NJ ⟨o0, o1, o2, o3⟩
    have s7 : rS NF NJ := rS_trans a3 o3
    have C7 : cE b f m4 (c4 + 1) M4 M7 := cE_3 o0
    refine J_some ⟨i4 + 1, m4, c4, xn4, an4, g4, rfl, o1, o2, by omega, f4, TI_congr f5 (fun c k u1 u2 u3 u4 _ => C7.1 c k (by unfold cEa; omega)) (fun c k u1 u2 u3 u4 => s7.1 c k (by omega)) (fun k u1 u2 => s7.2 77 k (by omega)) (fun k u => s7.1 78 k (by omega)) (fun k u1 u2 => ⟨rfl, rfl⟩) (fun k u1 u2 => rfl), f6, fun k u1 u2 => ?_, cE_trans cc1 (cE_trans f8 C7 (by omega) (by omega)) (by omega) (by omega), rE_trans (rS_E (m := m) (xn := xn) (an := an) r4) (rE_trans f9 (rS_E (m := m) (xn := xn) (an := an) s7) (by omega) (by omega) (by omega)) (by omega) (by omega) (by omega), LB_mono fA (by unfold lbB; omega)⟩
    rw [C7.2 _ _ (by omega), s7.2 _ _ (by omega)]
    exact f7 k u1 u2
end JB
