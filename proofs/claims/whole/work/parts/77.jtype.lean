section JT
variable {b h n cnt f i m nd nb pl xn an ot x : Nat} {L : List (Nat × Int32)} {D W Y : List Int32} {M M' M0 N N' N0 : mv_M} {T : Nat → Nat}
theorem rFt_push {s w : Int32} {l : Nat} (a : rFt h f N0 nb pl N) (e : N.1 62 36 = nI l) (hl : l < 3000) : ∃ N', fX11_push s w N = some ((), N') ∧ rFt h f N0 nb pl N' ∧ N'.1 62 36 = nI (l + 1) := by
  obtain ⟨a1, a2, a3, a4, a5, a6⟩ := a
  refine ⟨mv_si (mv_si (mv_si N 81 l s) 82 l w) 62 36 (nI (l + 1)), ?_, ⟨by simp (disch := omega) only [rd_hi, rd_mi, rd_hl, rd_ml, rd_hr, rd_mr, rd_si2, rd_sl1, rd_sl2, rd_sr1, rd_sr2]; exact a1, a2, a3, by simp (disch := omega) only [rd_hi, rd_mi, rd_hl, rd_ml, rd_hr, rd_mr, rd_si2, rd_sl1, rd_sl2, rd_sr1, rd_sr2]; exact a4, rW_si (rW_si (rW_si a5 (by unfold rWa; omega)) (by unfold rWa; omega)) (by unfold rWa; omega), by simp (disch := omega) only [rd_hi, rd_mi, rd_hl, rd_ml, rd_hr, rd_mr, rd_si2, rd_sl1, rd_sl2, rd_sr1, rd_sr2]; exact a6⟩, by simp (disch := omega) only [rd_hi, rd_mi, rd_hl, rd_ml, rd_hr, rd_mr, rd_si2, rd_sl1, rd_sl2, rd_sr1, rd_sr2]⟩
  unfold fX11_push
  simp (disch := omega) only [e, k_iT, k_iF, Bool.false_eq_true, eq_self, Nat.add_zero, k_lt', k_bs, k_T, k_F, k_inb, k_ck, k_nz, ↓kN, kL, k_lt, k_le, k_eq, kn_le, kn_lt, kn_eq, kn_le', kn_lt', kn_eq', nI_clamp, nI_add, k_sub, k_mul, k_div, rd_hi, rd_mi, rd_hl, rd_ml, rd_hr, rd_mr, rd_si2, rd_sl1, rd_sl2, rd_sr1, rd_sr2]
theorem r_typed {y1 y2 : Nat} {w : Int32} (hr : rO h N0 T n f i m xn an L D W (nI y2 :: nI y1 :: Y) ot N) (h1 : y1 ≤ 1) (h2 : y2 ≤ 1) (hY : Y.length + 2 ≤ 16) : ∃ N', fX11_onType (nI 3) w N = some ((), N') ∧ rO h N0 T n f i m xn an L D W (nI (1 + 2 * y1 + y2) :: Y) ot N' ∧ rS N N' := by
  obtain ⟨k1, k2, _, _, _, ⟨k9, k10⟩, k11⟩ := hr.2.2.2.2.2.2
  rw [List.length_cons, List.length_cons] at k9
  obtain ⟨l2, l1, _⟩ := k10
  rw [List.length_cons] at l2
  obtain ⟨q1, q2⟩ := r_untype hr
  obtain ⟨q3, q4⟩ := r_untype q1
  obtain ⟨q5, q6⟩ := r_ty (v := nI (1 + 2 * y1 + y2)) q3
  refine ⟨_, ?_, q5, rS_trans q2 (rS_trans q4 q6)⟩
  have e : Y.length + 1 + 1 - 2 = Y.length := by omega
  unfold fX11_onType fX11_pairOf fX11_pairOf_10
  simp (disch := omega) only [k9, e, l1, l2, si_si, k_iT, k_iF, Bool.false_eq_true, eq_self, Nat.add_zero, k_lt', k_bs, k_T, k_F, k_inb, k_ck, k_nz, ↓kN, kL, k_lt, k_le, k_eq, kn_le, kn_lt, kn_eq, kn_le', kn_lt', kn_eq', nI_clamp, nI_add, k_sub, k_mul, k_div, rd_hi, rd_mi, rd_hl, rd_ml, rd_hr, rd_mr, rd_si2, rd_sl1, rd_sl2, rd_sr1, rd_sr2]
theorem j_num {d : Nat} (hx : pX b h M0 N0 T n cnt f) (hc : cO b M0 T n cnt f i m nd M) (hr : rO h N0 T n f i m xn an ((2, nI d) :: L) D W Y ot N) (h40 : lx_k T n (lx_st T n i) ≠ 40) (hl : L.length < 3000) (hY : Y.length < 16) : J b h M0 N0 T n cnt f N (fX3_take 300 M) (fun _ M' N' => cO b M0 T n cnt f (i + 1) m nd M' ∧ rO h N0 T n f (i + 1) m xn an L D W (nI 0 :: Y) ot N' ∧ cE b f m nd M M' ∧ rS N N') := by
  have ek := cO_kind hx.1 hc
  have hv := vk_k (T := T) (n := n) (s := lx_st T n i)
  have hv2 : lx_k T n (lx_st T n i) < 2 ^ 31 := by unfold vk at hv; omega
  obtain ⟨hr1, hs1⟩ := r_pop hr
  have et := rO_tk hr1
  have et2 := rO_ta hr1
  have hg := g_type hr (by omega) hl
  have k9 := hr1.2.2.2.2.2.2.2.2.2.2.2.1.1
  have t1 := tkA hv (r := 1) (by omega)
  have t14 := tkA hv (r := 14) (by omega)
  rw [kt1] at t1
  rw [kt14] at t14
  unfold fX3_take
  refine J_bs ek ?_
  by_cases h300 : lx_k T n (lx_st T n i) = 300
  · obtain ⟨q1, q2⟩ := r_ty (v := nI 0) hr1
    obtain ⟨M', N', e1, e2, e3, e4⟩ := j_pass hx hc q1 (by omega)
    have eP : fX11_parse_26 N = fX11_parse_26 N' := by
      refine P_go (hg.trans ?_)
      unfold fX11_onType
      rw [h300] at et
      simp (disch := omega) only [et, show lx_tk 300 = 1 from rfl, k9, e2, k_iT, k_iF, Bool.false_eq_true, eq_self, Nat.add_zero, k_lt', k_bs, k_T, k_F, k_inb, k_ck, k_nz, ↓kN, kL, k_lt, k_le, k_eq, kn_le, kn_lt, kn_eq, kn_le', kn_lt', kn_eq', nI_clamp, nI_add, k_sub, k_mul, k_div, rd_hi, rd_mi, rd_hl, rd_ml, rd_hr, rd_mr, rd_si2, rd_sl1, rd_sl2, rd_sr1, rd_sr2]
    refine J_T (by rw [h300]; rfl) (J_bs e1 (J_step eP ?_))
    rcases e4 with ⟨nb, pl, d1, d2⟩ | ⟨d1, d2, d3⟩
    · exact J_dead (ok_some d1) (P_fault d2)
    · refine J_some ⟨d2, d3, ?_, rS_trans hs1 (rS_trans q2 (rS_tk e3))⟩
      rw [d1]
      exact cE_si cE_refl (by unfold cEa; omega)
  · refine J_F (by rw [kM, k_eq hv2 (by omega)]; exact h300) ?_
    obtain ⟨M', e1, e2⟩ := cO_stop (v := 2) hx.1 hc (by omega) (by omega)
    obtain ⟨N', f1, f2, f3⟩ := r_stop (v := 2) hr1 (by omega) (by omega)
    have eP : fX11_parse_26 N = fX11_parse_26 N' := by
      refine P_go (hg.trans ?_)
      unfold fX11_onType
      simp (disch := omega) only [et, et2, h40, h300, t1, t14, f1, k_iT, k_iF, Bool.false_eq_true, eq_self, Nat.add_zero, k_lt', k_bs, k_T, k_F, k_inb, k_ck, k_nz, ↓kN, kL, k_lt, k_le, k_eq, kn_le, kn_lt, kn_eq, kn_le', kn_lt', kn_eq', nI_clamp, nI_add, k_sub, k_mul, k_div, rd_hi, rd_mi, rd_hl, rd_ml, rd_hr, rd_mr, rd_si2, rd_sl1, rd_sl2, rd_sr1, rd_sr2]
    exact J_bs e1 (J_step eP (J_dead (ok_some e2) (P_fault f2)))
theorem j_type (hx : pX b h M0 N0 T n cnt f) : ∀ (r d k i : Nat) (L : List (Nat × Int32)) (Y : List Int32) (M N : mv_M), d + r = 2 → r < k → L.length + 10 * r < 2990 → Y.length + r ≤ 10 → cO b M0 T n cnt f i m nd M → rO h N0 T n f i m xn an ((2, nI d) :: L) D W Y ot N → J b h M0 N0 T n cnt f N (RX3_parseType k 0 (nI d) M) (fun t M' N' => ∃ i' y, t = nI y ∧ y ≤ 4 ∧ (d = 1 → y ≤ 1) ∧ (d = 2 → y = 0) ∧ i < i' ∧ cO b M0 T n cnt f i' m nd M' ∧ rO h N0 T n f i' m xn an L D W (nI y :: Y) ot N' ∧ cE b f m nd M M' ∧ rS N N') := by
  intro r
  induction r with
  | zero =>
    intro d k i L Y M N hd hk hl hY hc hr
    obtain ⟨k, rfl⟩ : ∃ j, k = j + 1 := ⟨k - 1, by omega⟩
    obtain rfl : d = 2 := by omega
    have ek := cO_kind hx.1 hc
    have hv := vk_k (T := T) (n := n) (s := lx_st T n i)
    have hv2 : lx_k T n (lx_st T n i) < 2 ^ 31 := by unfold vk at hv; omega
    obtain ⟨hr1, hs1⟩ := r_pop hr
    have et := rO_tk hr1
    have et2 := rO_ta hr1
    have hg := g_type hr (by omega) (by omega)
    rw [RX3_parseType]
    unfold fX3_parseType
    refine J_bs ek ?_
    have t1 := tkA hv (r := 1) (by omega)
    have t14 := tkA hv (r := 14) (by omega)
    rw [kt1] at t1
    rw [kt14] at t14
    by_cases h40 : lx_k T n (lx_st T n i) = 40
    · refine J_T (by rw [h40]; rfl) (J_F (by decide) ?_)
      obtain ⟨M', e1, e2⟩ := cO_stop (v := 6) hx.1 hc (by omega) (by omega)
      obtain ⟨N', f1, f2, f3⟩ := r_stop (v := 6) hr1 (by omega) (by omega)
      have eP : fX11_parse_26 N = fX11_parse_26 N' := by
        refine P_go (hg.trans ?_)
        unfold fX11_onType
        rw [h40] at et
        simp (disch := omega) only [et, et2, show lx_tk 40 = 14 from rfl, f1, k_iT, k_iF, Bool.false_eq_true, eq_self, Nat.add_zero, k_lt', k_bs, k_T, k_F, k_inb, k_ck, k_nz, ↓kN, kL, k_lt, k_le, k_eq, kn_le, kn_lt, kn_eq, kn_le', kn_lt', kn_eq', nI_clamp, nI_add, k_sub, k_mul, k_div, rd_hi, rd_mi, rd_hl, rd_ml, rd_hr, rd_mr, rd_si2, rd_sl1, rd_sl2, rd_sr1, rd_sr2]
      exact J_bs e1 (J_step eP (J_dead (ok_some e2) (P_fault f2)))
    · refine J_F (by rw [kM, k_eq hv2 (by omega)]; exact h40) ?_
      refine J_bind (j_num hx hc hr h40 (by omega) (by omega)) (by intros; (repeat' first | exact ok_some ‹_› | refine cD_bindR (cD_take' hx.1 ‹_› (by decide) (by decide)) (fun _ _ _ => ?_) | refine cD_bindR (cD_E' hx.1 ‹_› (by omega)) (fun _ _ _ => ?_) | refine cD_bindR (cD_type' hx.1 ‹_› (by omega)) (fun _ _ _ => ?_) | refine cD_bindR (cD_sides' hx.1 ‹_› (by omega) (by omega)) (fun _ _ _ => ?_) | refine cD_bindR (cD_tType hx.1 ‹_›) (fun _ _ _ => ?_) | refine ok_pairOf (fun _ => ?_) | refine cD_getp hx.1 ‹_› ?_ | refine cD_bind (cD_node hx.1 ‹_›) (fun _ _ _ => ?_) | refine cD_bind (cD_inner hx.1 ‹_›) (fun _ _ _ => ?_) | refine cD_textOf hx.1 ‹_› (fun _ => ?_) | refine cD_has hx.1 ‹_› ?_ (fun _ => ?_) | refine cD_kindB hx.1 ‹_› (fun _ _ => ?_) | refine cD_ifk ‹_› (by decide) (by decide) ?_ | exact cD_call hx.1 ‹_› | exact ok_some (cD_si hx.1.1 ‹_› (by omega)))) (fun _ M1 N1 q => J_some ?_)
      obtain ⟨q1, q2, q3, q4⟩ := q
      exact ⟨i + 1, 0, rfl, by omega, by omega, by omega, by omega, q1, q2, q3, q4⟩
  | succ r ih =>
    intro d k i L Y M N hd hk hl hY hc hr
    obtain ⟨k, rfl⟩ : ∃ j, k = j + 1 := ⟨k - 1, by omega⟩
    have ek := cO_kind hx.1 hc
    have hv := vk_k (T := T) (n := n) (s := lx_st T n i)
    have hv2 : lx_k T n (lx_st T n i) < 2 ^ 31 := by unfold vk at hv; omega
    obtain ⟨hr1, hs1⟩ := r_pop hr
    have et := rO_tk hr1
    have et2 := rO_ta hr1
    have hg := g_type hr (by omega) (by omega)
    have hk3 := hr1.2.2.2.2.2.2.2.2.1.1
    rw [RX3_parseType]
    unfold fX3_parseType
    refine J_bs ek ?_
    have t1 := tkA hv (r := 1) (by omega)
    have t14 := tkA hv (r := 14) (by omega)
    rw [kt1] at t1
    rw [kt14] at t14
    by_cases h40 : lx_k T n (lx_st T n i) = 40
    · refine J_T (by rw [h40]; rfl) (J_T (by rw [kM, k_lt (by omega) (by omega)]; omega) ?_)
      obtain ⟨M1, N1, e1, e2, e3, e4⟩ := j_pass hx hc hr1 (by omega)
      refine J_bs e1 ?_
      rcases e4 with ⟨nb, pl, d1, d2⟩ | ⟨d1, d2, d3⟩
      · have l1 : N1.1 62 36 = nI L.length := (e3.1 _ _ (by omega)).trans hk3
        obtain ⟨N2, p2, q2, l2⟩ := rFt_push (s := 3) (w := 0) d2 l1 (by omega)
        obtain ⟨N3, p3, q3, l3⟩ := rFt_push (s := 1) (w := 15) q2 l2 (by omega)
        obtain ⟨N4, p4, q4, l4⟩ := rFt_push (s := 2) (w := nI d + 1) q3 l3 (by omega)
        obtain ⟨N5, p5, q5, l5⟩ := rFt_push (s := 1) (w := 16) q4 l4 (by omega)
        obtain ⟨N6, p6, q6, l6⟩ := rFt_push (s := 2) (w := nI d + 1) q5 l5 (by omega)
        have eP : fX11_parse_26 N = fX11_parse_26 N6 := by
          refine P_go (hg.trans ?_)
          simp only [kL, nI_add] at p2 p3 p4 p5 p6
          unfold fX11_onType
          rw [h40] at et
          simp (disch := omega) only [et, et2, show lx_tk 40 = 14 from rfl, e2, p2, p3, p4, p5, p6, k_iT, k_iF, Bool.false_eq_true, eq_self, Nat.add_zero, k_lt', k_bs, k_T, k_F, k_inb, k_ck, k_nz, ↓kN, kL, k_lt, k_le, k_eq, kn_le, kn_lt, kn_eq, kn_le', kn_lt', kn_eq', nI_clamp, nI_add, k_sub, k_mul, k_div, rd_hi, rd_mi, rd_hl, rd_ml, rd_hr, rd_mr, rd_si2, rd_sl1, rd_sl2, rd_sr1, rd_sr2]
        refine J_step eP (J_dead ?_ (P_fault q6))
        (repeat' first | exact ok_some ‹_› | refine cD_bindR (cD_take' hx.1 ‹_› (by decide) (by decide)) (fun _ _ _ => ?_) | refine cD_bindR (cD_E' hx.1 ‹_› (by omega)) (fun _ _ _ => ?_) | refine cD_bindR (cD_type' hx.1 ‹_› (by omega)) (fun _ _ _ => ?_) | refine cD_bindR (cD_sides' hx.1 ‹_› (by omega) (by omega)) (fun _ _ _ => ?_) | refine cD_bindR (cD_tType hx.1 ‹_›) (fun _ _ _ => ?_) | refine ok_pairOf (fun _ => ?_) | refine cD_getp hx.1 ‹_› ?_ | refine cD_bind (cD_node hx.1 ‹_›) (fun _ _ _ => ?_) | refine cD_bind (cD_inner hx.1 ‹_›) (fun _ _ _ => ?_) | refine cD_textOf hx.1 ‹_› (fun _ => ?_) | refine cD_has hx.1 ‹_› ?_ (fun _ => ?_) | refine cD_kindB hx.1 ‹_› (fun _ _ => ?_) | refine cD_ifk ‹_› (by decide) (by decide) ?_ | exact cD_call hx.1 ‹_› | exact ok_some (cD_si hx.1.1 ‹_› (by omega)))
      · obtain ⟨N2, p2, q2, l2⟩ := r_push (s := 3) (w := 0) d3 (by omega)
        obtain ⟨N3, p3, q3, l3⟩ := r_push (s := 1) (w := nI 15) q2 (by simp only [List.length_cons]; omega)
        obtain ⟨N4, p4, q4, l4⟩ := r_push (s := 2) (w := nI (d + 1)) q3 (by simp only [List.length_cons]; omega)
        obtain ⟨N5, p5, q5, l5⟩ := r_push (s := 1) (w := nI 16) q4 (by simp only [List.length_cons]; omega)
        obtain ⟨N6, p6, q6, l6⟩ := r_push (s := 2) (w := nI (d + 1)) q5 (by simp only [List.length_cons]; omega)
        have eP : fX11_parse_26 N = fX11_parse_26 N6 := by
          refine P_go (hg.trans ?_)
          simp only [kL] at p2
          unfold fX11_onType
          rw [h40] at et
          simp (disch := omega) only [et, et2, show lx_tk 40 = 14 from rfl, e2, p2, p3, p4, p5, p6, k_iT, k_iF, Bool.false_eq_true, eq_self, Nat.add_zero, k_lt', k_bs, k_T, k_F, k_inb, k_ck, k_nz, ↓kN, kL, k_lt, k_le, k_eq, kn_le, kn_lt, kn_eq, kn_le', kn_lt', kn_eq', nI_clamp, nI_add, k_sub, k_mul, k_div, rd_hi, rd_mi, rd_hl, rd_ml, rd_hr, rd_mr, rd_si2, rd_sl1, rd_sl2, rd_sr1, rd_sr2]
        refine J_step eP ?_
        rw [kM, nI_add]
        have z6 : rS N N6 := rS_trans hs1 (rS_trans (rS_tk e3) (rS_trans l2 (rS_trans l3 (rS_trans l4 (rS_trans l5 l6)))))
        have c1 : cE b f m nd M M1 := by rw [d1]; exact cE_si cE_refl (by unfold cEa; omega)
        refine J_bind (ih (d + 1) k (i + 1) _ Y M1 N6 (by omega) (by omega) (by simp only [List.length_cons]; omega) (by omega) d2 q6) (by intros; (repeat' first | exact ok_some ‹_› | refine cD_bindR (cD_take' hx.1 ‹_› (by decide) (by decide)) (fun _ _ _ => ?_) | refine cD_bindR (cD_E' hx.1 ‹_› (by omega)) (fun _ _ _ => ?_) | refine cD_bindR (cD_type' hx.1 ‹_› (by omega)) (fun _ _ _ => ?_) | refine cD_bindR (cD_sides' hx.1 ‹_› (by omega) (by omega)) (fun _ _ _ => ?_) | refine cD_bindR (cD_tType hx.1 ‹_›) (fun _ _ _ => ?_) | refine ok_pairOf (fun _ => ?_) | refine cD_getp hx.1 ‹_› ?_ | refine cD_bind (cD_node hx.1 ‹_›) (fun _ _ _ => ?_) | refine cD_bind (cD_inner hx.1 ‹_›) (fun _ _ _ => ?_) | refine cD_textOf hx.1 ‹_› (fun _ => ?_) | refine cD_has hx.1 ‹_› ?_ (fun _ => ?_) | refine cD_kindB hx.1 ‹_› (fun _ _ => ?_) | refine cD_ifk ‹_› (by decide) (by decide) ?_ | exact cD_call hx.1 ‹_› | exact ok_some (cD_si hx.1.1 ‹_› (by omega)))) ?_
        rintro r1 M2 N7 ⟨i2, y1, rfl, a1, a2, a2', a3, a4, a5, a6, a7⟩
        refine J_bind (j_take (w := 16) hx a4 a5 (by omega) (by omega) (by simp only [List.length_cons]; omega)) (by intros; (repeat' first | exact ok_some ‹_› | refine cD_bindR (cD_take' hx.1 ‹_› (by decide) (by decide)) (fun _ _ _ => ?_) | refine cD_bindR (cD_E' hx.1 ‹_› (by omega)) (fun _ _ _ => ?_) | refine cD_bindR (cD_type' hx.1 ‹_› (by omega)) (fun _ _ _ => ?_) | refine cD_bindR (cD_sides' hx.1 ‹_› (by omega) (by omega)) (fun _ _ _ => ?_) | refine cD_bindR (cD_tType hx.1 ‹_›) (fun _ _ _ => ?_) | refine ok_pairOf (fun _ => ?_) | refine cD_getp hx.1 ‹_› ?_ | refine cD_bind (cD_node hx.1 ‹_›) (fun _ _ _ => ?_) | refine cD_bind (cD_inner hx.1 ‹_›) (fun _ _ _ => ?_) | refine cD_textOf hx.1 ‹_› (fun _ => ?_) | refine cD_has hx.1 ‹_› ?_ (fun _ => ?_) | refine cD_kindB hx.1 ‹_› (fun _ _ => ?_) | refine cD_ifk ‹_› (by decide) (by decide) ?_ | exact cD_call hx.1 ‹_› | exact ok_some (cD_si hx.1.1 ‹_› (by omega)))) ?_
        rintro _ M3 N8 ⟨b0, b1, b2, b3⟩
        refine J_bind (ih (d + 1) k (i2 + 1) _ _ M3 N8 (by omega) (by omega) (by simp only [List.length_cons]; omega) (by simp only [List.length_cons]; omega) b1 b2) (by intros; (repeat' first | exact ok_some ‹_› | refine cD_bindR (cD_take' hx.1 ‹_› (by decide) (by decide)) (fun _ _ _ => ?_) | refine cD_bindR (cD_E' hx.1 ‹_› (by omega)) (fun _ _ _ => ?_) | refine cD_bindR (cD_type' hx.1 ‹_› (by omega)) (fun _ _ _ => ?_) | refine cD_bindR (cD_sides' hx.1 ‹_› (by omega) (by omega)) (fun _ _ _ => ?_) | refine cD_bindR (cD_tType hx.1 ‹_›) (fun _ _ _ => ?_) | refine ok_pairOf (fun _ => ?_) | refine cD_getp hx.1 ‹_› ?_ | refine cD_bind (cD_node hx.1 ‹_›) (fun _ _ _ => ?_) | refine cD_bind (cD_inner hx.1 ‹_›) (fun _ _ _ => ?_) | refine cD_textOf hx.1 ‹_› (fun _ => ?_) | refine cD_has hx.1 ‹_› ?_ (fun _ => ?_) | refine cD_kindB hx.1 ‹_› (fun _ _ => ?_) | refine cD_ifk ‹_› (by decide) (by decide) ?_ | exact cD_call hx.1 ‹_› | exact ok_some (cD_si hx.1.1 ‹_› (by omega)))) ?_
        rintro r2 M4 N9 ⟨i3, y2, rfl, c1', c2, c2', c3, c4, c5, c6, c7⟩
        refine J_bind (j_take (w := 15) hx c4 c5 (by omega) (by omega) (by simp only [List.length_cons]; omega)) (by intros; (repeat' first | exact ok_some ‹_› | refine cD_bindR (cD_take' hx.1 ‹_› (by decide) (by decide)) (fun _ _ _ => ?_) | refine cD_bindR (cD_E' hx.1 ‹_› (by omega)) (fun _ _ _ => ?_) | refine cD_bindR (cD_type' hx.1 ‹_› (by omega)) (fun _ _ _ => ?_) | refine cD_bindR (cD_sides' hx.1 ‹_› (by omega) (by omega)) (fun _ _ _ => ?_) | refine cD_bindR (cD_tType hx.1 ‹_›) (fun _ _ _ => ?_) | refine ok_pairOf (fun _ => ?_) | refine cD_getp hx.1 ‹_› ?_ | refine cD_bind (cD_node hx.1 ‹_›) (fun _ _ _ => ?_) | refine cD_bind (cD_inner hx.1 ‹_›) (fun _ _ _ => ?_) | refine cD_textOf hx.1 ‹_› (fun _ => ?_) | refine cD_has hx.1 ‹_› ?_ (fun _ => ?_) | refine cD_kindB hx.1 ‹_› (fun _ _ => ?_) | refine cD_ifk ‹_› (by decide) (by decide) ?_ | exact cD_call hx.1 ‹_› | exact ok_some (cD_si hx.1.1 ‹_› (by omega)))) ?_
        rintro _ M5 NA ⟨g0, g1, g2, g3⟩
        obtain ⟨hr9, hs9⟩ := r_pop g2
        have y1' : y1 ≤ 1 ∧ (d = 1 → y1 = 0) := ⟨by omega, fun z => a2' (by omega)⟩
        have y2' : y2 ≤ 1 ∧ (d = 1 → y2 = 0) := ⟨by omega, fun z => c2' (by omega)⟩
        obtain ⟨NB, u1, u2, u3⟩ := r_typed (w := nI 0) hr9 y1'.1 y2'.1 (by omega)
        have hgA := g_type g2 (by omega) (by omega)
        have ePA : fX11_parse_26 NA = fX11_parse_26 NB := P_go (hgA.trans (by rw [show (0 : Int32) = nI 0 from rfl, u1, k_bs]))
        refine J_step ePA ?_
        refine J_bs (r := nI (1 + 2 * y1 + y2)) (M' := M5) ?_ (J_some ⟨i3 + 1, 1 + 2 * y1 + y2, rfl, by omega, fun z => by have := y1'.2 z; have := y2'.2 z; omega, by omega, by omega, g1, u2, ?_, ?_⟩)
        · unfold fX6_pairOf fX6_pairOf_10
          simp (disch := omega) only [k_iT, k_iF, Bool.false_eq_true, eq_self, Nat.add_zero, k_lt', k_bs, k_T, k_F, k_inb, k_ck, k_nz, ↓kN, kL, k_lt, k_le, k_eq, kn_le, kn_lt, kn_eq, kn_le', kn_lt', kn_eq', nI_clamp, nI_add, k_sub, k_mul, k_div, rd_hi, rd_mi, rd_hl, rd_ml, rd_hr, rd_mr, rd_si2, rd_sl1, rd_sl2, rd_sr1, rd_sr2]
        · have x1 : cE b f m nd M2 M3 := by rw [b0]; exact cE_si cE_refl (by unfold cEa; omega)
          have x2 : cE b f m nd M4 M5 := by rw [g0]; exact cE_si cE_refl (by unfold cEa; omega)
          have rr := Nat.le_refl
          exact cE_trans c1 (cE_trans a6 (cE_trans x1 (cE_trans c6 x2 (rr _) (rr _)) (rr _) (rr _)) (rr _) (rr _)) (rr _) (rr _)
        · exact rS_trans z6 (rS_trans a7 (rS_trans b3 (rS_trans c7 (rS_trans g3 (rS_trans hs9 u3)))))
    · refine J_F (by rw [kM, k_eq hv2 (by omega)]; exact h40) ?_
      refine J_bind (j_num hx hc hr h40 (by omega) (by omega)) (by intros; (repeat' first | exact ok_some ‹_› | refine cD_bindR (cD_take' hx.1 ‹_› (by decide) (by decide)) (fun _ _ _ => ?_) | refine cD_bindR (cD_E' hx.1 ‹_› (by omega)) (fun _ _ _ => ?_) | refine cD_bindR (cD_type' hx.1 ‹_› (by omega)) (fun _ _ _ => ?_) | refine cD_bindR (cD_sides' hx.1 ‹_› (by omega) (by omega)) (fun _ _ _ => ?_) | refine cD_bindR (cD_tType hx.1 ‹_›) (fun _ _ _ => ?_) | refine ok_pairOf (fun _ => ?_) | refine cD_getp hx.1 ‹_› ?_ | refine cD_bind (cD_node hx.1 ‹_›) (fun _ _ _ => ?_) | refine cD_bind (cD_inner hx.1 ‹_›) (fun _ _ _ => ?_) | refine cD_textOf hx.1 ‹_› (fun _ => ?_) | refine cD_has hx.1 ‹_› ?_ (fun _ => ?_) | refine cD_kindB hx.1 ‹_› (fun _ _ => ?_) | refine cD_ifk ‹_› (by decide) (by decide) ?_ | exact cD_call hx.1 ‹_› | exact ok_some (cD_si hx.1.1 ‹_› (by omega)))) (fun _ M1 N1 q => J_some ?_)
      obtain ⟨q1, q2, q3, q4⟩ := q
      exact ⟨i + 1, 0, rfl, by omega, by omega, by omega, by omega, q1, q2, q3, q4⟩
end JT
