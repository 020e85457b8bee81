section JE2
variable {b h n cnt f i m nd nb pl xn an ot x K k o : Nat} {L : List (Nat × Int32)} {D W Y : List Int32} {M M' M0 N N' N0 N1 N2 : mv_M} {T : Nat → Nat} {g : Nat → Nat → Nat}
set_option maxHeartbeats 4000000 in
theorem j_if (hx : pX b h M0 N0 T n cnt f) (HE : ∀ k, K ≤ k → Sp b h M0 N0 T n cnt f (o + 1) (RX3_parseE k 0 (nI (o + 1)) 0) [(4, nI 0)] (20 * (o + 1))) (hk : K + 1 ≤ k) (hK : 0 < K) (ho : o < 20) (hL : L.length ≤ 20 * o) (hY : Y.length ≤ 4) (hB : 1001 * h ≤ xn ∧ xn ≤ 1001 * h + i ∧ 1001 * h ≤ an ∧ an + D.length + W.length ≤ 1001 * h + i) (hc : cO b M0 T n cnt f i m nd M) (hr : rO h N0 T n f i m xn an ((4, nI 0) :: L) D W Y o N) (hkd : lx_k T n (lx_st T n i) = 301) : J b h M0 N0 T n cnt f N (RX3_parseE k 3 (nI (o + 1)) 0 M) (EQ (lbB (20 * o)) b h M0 N0 T n cnt f i m nd xn an L D W Y o g M N) := by
  have hb := hx.1.1
  have hh := hx.2.2.1
  have hi1 := hc.2.2.2.1
  have hnd := hc.2.2.2.2.2.2.2.2.1
  obtain ⟨j, rfl⟩ : ∃ j, k = j + 1 := ⟨k - 1, by omega⟩
  rw [RX3_parseE, if_neg (by decide), if_neg (by decide), if_neg (by decide), if_pos rfl]
  unfold fX3_parseIf
  rw [k_lt', hc.2.1]
  obtain ⟨q0, s0⟩ := r_pop hr
  have k11 := q0.2.2.2.2.2.2.2.2.2.2.2.2
  have t0 := rO_tk q0
  obtain ⟨q1, s1⟩ := r_other (v := o + 1) q0
  obtain ⟨N2, p2, q2, s2⟩ := r_push (s := 5) (w := nI 0) q1 (by omega)
  have t2 := rO_tk q2
  have u2 := rO_ta q2
  rw [hkd] at t0 t2
  obtain ⟨N3, p3, q3, s3, x1, x2⟩ := r_node (kd := nI 2) (pl := nI (lx_st T n i)) q2 hh (by omega) (by omega)
  obtain ⟨N4, p4, q4, s4⟩ := r_push (s := 18) (w := nI xn) q3 (by simp only [List.length_cons]; omega)
  obtain ⟨N5, p5, q5, s5⟩ := r_push (s := 17) (w := nI xn) q4 (by simp only [List.length_cons]; omega)
  obtain ⟨N6, p6, q6, s6⟩ := r_push (s := 4) (w := nI 0) q5 (by simp only [List.length_cons]; omega)
  obtain ⟨N7, p7, q7, s7⟩ := r_push (s := 1) (w := nI 4) q6 (by simp only [List.length_cons]; omega)
  obtain ⟨N8, p8, q8, s8⟩ := r_push (s := 16) (w := nI xn) q7 (by simp only [List.length_cons]; omega)
  obtain ⟨N9, p9, q9, s9⟩ := r_push (s := 4) (w := nI 0) q8 (by simp only [List.length_cons]; omega)
  obtain ⟨NA, pA, qA, sA⟩ := r_push (s := 1) (w := nI 3) q9 (by simp only [List.length_cons]; omega)
  obtain ⟨NB, pB, qB, sB⟩ := r_push (s := 15) (w := nI xn) qA (by simp only [List.length_cons]; omega)
  obtain ⟨NB2, pB2, qB2, sB2⟩ := r_push (s := 4) (w := nI 0) qB (by simp only [List.length_cons]; omega)
  obtain ⟨M1, NC, e1, e2, e3, e4⟩ := j_pass hx hc qB2 (by omega)
  have sC : rS N3 NC := rS_trans s4 (rS_trans s5 (rS_trans s6 (rS_trans s7 (rS_trans s8 (rS_trans s9 (rS_trans sA (rS_trans sB (rS_trans sB2 (rS_tk e3)))))))))
  have eP : fX11_parse_26 N = fX11_parse_26 NC := by
    refine P_go ((g_E hr (by omega)).trans ?_)
    unfold fX11_onE fX11_begins fX11_begins_61
    simp (disch := omega) only [t0, show lx_tk 301 = 2 from rfl, k11, p2, t2, u2, p3, p4, p5, p6, p7, p8, p9, pA, pB, pB2, e2, k_iT, k_iF, Bool.false_eq_true, eq_self, Nat.add_zero, k_lt', k_bs, k_T, k_F, k_inb, k_ck, k_nz, ↓kN, kL, k_lt, k_le, k_eq, kn_le, kn_lt, kn_eq, kn_le', kn_lt', kn_eq', nI_clamp, nI_add, k_sub, k_mul, k_div, rd_hi, rd_mi, rd_hl, rd_ml, rd_hr, rd_mr, rd_si2, rd_sl1, rd_sl2, rd_sr1, rd_sr2]
  refine J_bs e1 (J_step eP ?_)
  rcases e4 with ⟨nb, pl, d1, d2⟩ | ⟨d1, d2, d3⟩
  · refine J_dead ?_ (P_fault d2)
    (repeat' first | exact ok_some ‹_› | refine cD_bindR (cD_take' hx.1 ‹_› (by decide) (by decide)) (fun _ _ _ => ?_) | refine cD_bindR (cD_E' hx.1 ‹_› (by omega)) (fun _ _ _ => ?_) | refine cD_bindR (cD_type' hx.1 ‹_› (by omega)) (fun _ _ _ => ?_) | refine cD_bindR (cD_sides' hx.1 ‹_› (by omega) (by omega)) (fun _ _ _ => ?_) | refine cD_bindR (cD_tType hx.1 ‹_›) (fun _ _ _ => ?_) | refine ok_pairOf (fun _ => ?_) | refine cD_getp hx.1 ‹_› ?_ | refine cD_bind (cD_node hx.1 ‹_›) (fun _ _ _ => ?_) | refine cD_bind (cD_inner hx.1 ‹_›) (fun _ _ _ => ?_) | refine cD_textOf hx.1 ‹_› (fun _ => ?_) | refine cD_has hx.1 ‹_› ?_ (fun _ => ?_) | refine cD_kindB hx.1 ‹_› (fun _ _ => ?_) | refine cD_ifk ‹_› (by decide) (by decide) ?_ | exact cD_call hx.1 ‹_› | exact ok_some (cD_si hx.1.1 ‹_› (by omega)))
  have rC : rE h f m xn an N NC := rE_trans (rS_E (rS_trans s0 (rS_trans s1 s2))) (rE_trans s3 (rS_E (xn := xn + 1) (m := m) (an := an) sC) (by omega) (by omega) (by omega)) (by omega) (by omega) (by omega)
  have y1 : NC.1 71 xn = nI 2 := (sC.1 _ _ (by omega)).trans x1
  have y2 : NC.1 75 xn = nI (lx_st T n i) := (sC.1 _ _ (by omega)).trans x2
  -- the first expression
  refine J_bind (HE j (by omega) (i + 1) m nd (xn + 1) an _ D W Y g M1 NC (by simp only [List.length_cons]; omega) hY (by omega) d2 d3) (by intros; (repeat' first | exact ok_some ‹_› | refine cD_bindR (cD_take' hx.1 ‹_› (by decide) (by decide)) (fun _ _ _ => ?_) | refine cD_bindR (cD_E' hx.1 ‹_› (by omega)) (fun _ _ _ => ?_) | refine cD_bindR (cD_type' hx.1 ‹_› (by omega)) (fun _ _ _ => ?_) | refine cD_bindR (cD_sides' hx.1 ‹_› (by omega) (by omega)) (fun _ _ _ => ?_) | refine cD_bindR (cD_tType hx.1 ‹_›) (fun _ _ _ => ?_) | refine ok_pairOf (fun _ => ?_) | refine cD_getp hx.1 ‹_› ?_ | refine cD_bind (cD_node hx.1 ‹_›) (fun _ _ _ => ?_) | refine cD_bind (cD_inner hx.1 ‹_›) (fun _ _ _ => ?_) | refine cD_textOf hx.1 ‹_› (fun _ => ?_) | refine cD_has hx.1 ‹_› ?_ (fun _ => ?_) | refine cD_kindB hx.1 ‹_› (fun _ _ => ?_) | refine cD_ifk ‹_› (by decide) (by decide) ?_ | exact cD_call hx.1 ‹_› | exact ok_some (cD_si hx.1.1 ‹_› (by omega)))) ?_
  rintro r M4 NF ⟨i4, m4, c4, xn4, an4, g4, rfl, f1, f2, f3, f4, f5, f6, f7, f8, f9, fA⟩
  have hi4 := f1.2.2.2.1
  obtain ⟨NG, h1, h2, h3, h4⟩ := r_keep (.inl ⟨rfl, rfl⟩) hh f2 (by omega) (by simp only [List.length_cons]; omega) (by omega)
  refine J_step h1 ?_
  refine J_bind (j_take (w := 3) hx f1 h2 (by omega) (by omega) (by simp only [List.length_cons]; omega)) (by intros; (repeat' first | exact ok_some ‹_› | refine cD_bindR (cD_take' hx.1 ‹_› (by decide) (by decide)) (fun _ _ _ => ?_) | refine cD_bindR (cD_E' hx.1 ‹_› (by omega)) (fun _ _ _ => ?_) | refine cD_bindR (cD_type' hx.1 ‹_› (by omega)) (fun _ _ _ => ?_) | refine cD_bindR (cD_sides' hx.1 ‹_› (by omega) (by omega)) (fun _ _ _ => ?_) | refine cD_bindR (cD_tType hx.1 ‹_›) (fun _ _ _ => ?_) | refine ok_pairOf (fun _ => ?_) | refine cD_getp hx.1 ‹_› ?_ | refine cD_bind (cD_node hx.1 ‹_›) (fun _ _ _ => ?_) | refine cD_bind (cD_inner hx.1 ‹_›) (fun _ _ _ => ?_) | refine cD_textOf hx.1 ‹_› (fun _ => ?_) | refine cD_has hx.1 ‹_› ?_ (fun _ => ?_) | refine cD_kindB hx.1 ‹_› (fun _ _ => ?_) | refine cD_ifk ‹_› (by decide) (by decide) ?_ | exact cD_call hx.1 ‹_› | exact ok_some (cD_si hx.1.1 ‹_› (by omega)))) ?_
  rintro _ M5 NH ⟨l0, l1, l2, l3⟩
  -- the second expression
  refine J_bind (HE j (by omega) (i4 + 1) m4 (c4 + 1) xn4 an4 _ D W Y g4 M5 NH (by simp only [List.length_cons]; omega) hY (by omega) l1 l2) (by intros; (repeat' first | exact ok_some ‹_› | refine cD_bindR (cD_take' hx.1 ‹_› (by decide) (by decide)) (fun _ _ _ => ?_) | refine cD_bindR (cD_E' hx.1 ‹_› (by omega)) (fun _ _ _ => ?_) | refine cD_bindR (cD_type' hx.1 ‹_› (by omega)) (fun _ _ _ => ?_) | refine cD_bindR (cD_sides' hx.1 ‹_› (by omega) (by omega)) (fun _ _ _ => ?_) | refine cD_bindR (cD_tType hx.1 ‹_›) (fun _ _ _ => ?_) | refine ok_pairOf (fun _ => ?_) | refine cD_getp hx.1 ‹_› ?_ | refine cD_bind (cD_node hx.1 ‹_›) (fun _ _ _ => ?_) | refine cD_bind (cD_inner hx.1 ‹_›) (fun _ _ _ => ?_) | refine cD_textOf hx.1 ‹_› (fun _ => ?_) | refine cD_has hx.1 ‹_› ?_ (fun _ => ?_) | refine cD_kindB hx.1 ‹_› (fun _ _ => ?_) | refine cD_ifk ‹_› (by decide) (by decide) ?_ | exact cD_call hx.1 ‹_› | exact ok_some (cD_si hx.1.1 ‹_› (by omega)))) ?_
  rintro r M6 NI ⟨i6, m6, c6, xn6, an6, g6, rfl, v1, v2, v3, v4, v5, v6, v7, v8, v9, vA⟩
  have hi6 := v1.2.2.2.1
  obtain ⟨NJ, w1, w2, w3, w4⟩ := r_keep (.inr (.inl ⟨rfl, rfl⟩)) hh v2 (by omega) (by simp only [List.length_cons]; omega) (by omega)
  refine J_step w1 ?_
  refine J_bind (j_take (w := 4) hx v1 w2 (by omega) (by omega) (by simp only [List.length_cons]; omega)) (by intros; (repeat' first | exact ok_some ‹_› | refine cD_bindR (cD_take' hx.1 ‹_› (by decide) (by decide)) (fun _ _ _ => ?_) | refine cD_bindR (cD_E' hx.1 ‹_› (by omega)) (fun _ _ _ => ?_) | refine cD_bindR (cD_type' hx.1 ‹_› (by omega)) (fun _ _ _ => ?_) | refine cD_bindR (cD_sides' hx.1 ‹_› (by omega) (by omega)) (fun _ _ _ => ?_) | refine cD_bindR (cD_tType hx.1 ‹_›) (fun _ _ _ => ?_) | refine ok_pairOf (fun _ => ?_) | refine cD_getp hx.1 ‹_› ?_ | refine cD_bind (cD_node hx.1 ‹_›) (fun _ _ _ => ?_) | refine cD_bind (cD_inner hx.1 ‹_›) (fun _ _ _ => ?_) | refine cD_textOf hx.1 ‹_› (fun _ => ?_) | refine cD_has hx.1 ‹_› ?_ (fun _ => ?_) | refine cD_kindB hx.1 ‹_› (fun _ _ => ?_) | refine cD_ifk ‹_› (by decide) (by decide) ?_ | exact cD_call hx.1 ‹_› | exact ok_some (cD_si hx.1.1 ‹_› (by omega)))) ?_
  rintro _ M7 NK ⟨o0, o1, o2, o3⟩
  -- the third expression
  refine J_bind (HE j (by omega) (i6 + 1) m6 (c6 + 1) xn6 an6 _ D W Y g6 M7 NK (by simp only [List.length_cons]; omega) hY (by omega) o1 o2) (by intros; (repeat' first | exact ok_some ‹_› | refine cD_bindR (cD_take' hx.1 ‹_› (by decide) (by decide)) (fun _ _ _ => ?_) | refine cD_bindR (cD_E' hx.1 ‹_› (by omega)) (fun _ _ _ => ?_) | refine cD_bindR (cD_type' hx.1 ‹_› (by omega)) (fun _ _ _ => ?_) | refine cD_bindR (cD_sides' hx.1 ‹_› (by omega) (by omega)) (fun _ _ _ => ?_) | refine cD_bindR (cD_tType hx.1 ‹_›) (fun _ _ _ => ?_) | refine ok_pairOf (fun _ => ?_) | refine cD_getp hx.1 ‹_› ?_ | refine cD_bind (cD_node hx.1 ‹_›) (fun _ _ _ => ?_) | refine cD_bind (cD_inner hx.1 ‹_›) (fun _ _ _ => ?_) | refine cD_textOf hx.1 ‹_› (fun _ => ?_) | refine cD_has hx.1 ‹_› ?_ (fun _ => ?_) | refine cD_kindB hx.1 ‹_› (fun _ _ => ?_) | refine cD_ifk ‹_› (by decide) (by decide) ?_ | exact cD_call hx.1 ‹_› | exact ok_some (cD_si hx.1.1 ‹_› (by omega)))) ?_
  rintro r M8 NL ⟨i8, m8, c8, xn8, an8, g8, rfl, a1, a2, a3, a4, a5, a6, a7, a8, a9, aA⟩
  have hi8 := a1.2.2.2.1
  obtain ⟨NM', b1, b2, b3, b4⟩ := r_keep (.inr (.inr ⟨rfl, rfl⟩)) hh a2 (by omega) (by simp only [List.length_cons]; omega) (by omega)
  obtain ⟨NN, b5, b6, b7⟩ := r_put b2 (by simp only [List.length_cons]; omega) (by omega)
  obtain ⟨NO, b8, b9, bA⟩ := r_ende b6 (by omega)
  refine J_step (b1.trans (b5.trans b8)) ?_
  refine J_getp hx a1.1.1 ?_
  obtain ⟨M9, z1, z2, z3, z4, z5, z6, z7, z8, z9⟩ := c_node (kd := 301) (t := nI i) (a1 := nI c4) (a2 := nI c6) (a3 := nI c8) hb a1 (by omega)
  refine J_bs z1 (J_some ?_)
  have wL : rS NM' NO := rS_trans b7 bA
  -- frames
  have R3 : ∀ c k, 71 ≤ c ∧ c ≤ 78 → ¬ (c = 74 ∧ k = xn) → NO.1 c k = NL.1 c k := fun c k u1 u2 => (wL.1 c k (by omega)).trans (b4.1 c k (by omega))
  have RJ : ∀ c k, 71 ≤ c ∧ c ≤ 78 → ¬ (c = 74 ∧ k = xn) → (c ≤ 77 → k < xn6) → (c = 78 → k < an6) → NO.1 c k = NJ.1 c k := fun c k u1 u2 u3 u4 => (R3 c k u1 (by omega)).trans ((a9.1 c k (by unfold rEa; omega)).trans (o3.1 c k (by omega)))
  have R2 : ∀ c k, 71 ≤ c ∧ c ≤ 78 → ¬ ((c = 73 ∨ c = 74) ∧ k = xn) → (c ≤ 77 → k < xn6) → (c = 78 → k < an6) → NO.1 c k = NI.1 c k := fun c k u1 u2 u3 u4 => (RJ c k u1 (by omega) u3 u4).trans (w4.1 c k (by omega))
  have RG : ∀ c k, 71 ≤ c ∧ c ≤ 78 → ¬ ((c = 73 ∨ c = 74) ∧ k = xn) → (c ≤ 77 → k < xn4) → (c = 78 → k < an4) → NO.1 c k = NG.1 c k := fun c k u1 u2 u3 u4 => (R2 c k u1 u2 (by omega) (by omega)).trans ((v9.1 c k (by unfold rEa; omega)).trans (l3.1 c k (by omega)))
  have R1 : ∀ c k, 71 ≤ c ∧ c ≤ 78 → ¬ ((c = 73 ∨ c = 72 ∨ c = 74) ∧ k = xn) → (c ≤ 77 → k < xn4) → (c = 78 → k < an4) → NO.1 c k = NF.1 c k := fun c k u1 u2 u3 u4 => (RG c k u1 (by omega) u3 u4).trans (h4.1 c k (by omega))
  have R0 : ∀ c k, 71 ≤ c ∧ c ≤ 78 → ¬ ((c = 73 ∨ c = 72 ∨ c = 74) ∧ k = xn) → c ≤ 77 → k < xn + 1 → NO.1 c k = NC.1 c k := fun c k u1 u2 u3 u4 => (R1 c k u1 u2 (by omega) (by omega)).trans (f9.1 c k (by unfold rEa; omega))
  have Q3 : ∀ c k, ¬ ((c = 62 ∧ k = 7) ∨ (c = 69 ∧ 16 * (12 * h + f) + m8 ≤ k)) → NO.2.1 c k = NL.2.1 c k := fun c k u => (wL.2 c k (by omega)).trans (b4.2 c k (by omega))
  have Q2 : ∀ c k, ¬ ((c = 62 ∧ k = 7) ∨ (c = 69 ∧ 16 * (12 * h + f) + m6 ≤ k)) → (c = 77 → k < xn6) → NO.2.1 c k = NI.2.1 c k := fun c k u u2 => (Q3 c k (by omega)).trans ((a9.2 c k (by unfold rEl; omega)).trans ((o3.2 c k (by omega)).trans (w4.2 c k (by omega))))
  have Q1 : ∀ c k, ¬ ((c = 62 ∧ k = 7) ∨ (c = 69 ∧ 16 * (12 * h + f) + m4 ≤ k)) → (c = 77 → k < xn4) → NO.2.1 c k = NF.2.1 c k := fun c k u u2 => (Q2 c k (by omega) (by omega)).trans ((v9.2 c k (by unfold rEl; omega)).trans ((l3.2 c k (by omega)).trans (h4.2 c k (by omega))))
  have C6 : cE b f m6 (c6 + 1) M6 M9 := cE_trans (cE_3 o0) (cE_trans a8 z3 (by omega) (by omega)) (by omega) (by omega)
  have C4 : cE b f m4 (c4 + 1) M4 M9 := cE_trans (cE_3 l0) (cE_trans v8 C6 (by omega) (by omega)) (by omega) (by omega)
  have S1 : TI b T n g8 nd (c4 + 1) (xn + 1) xn4 m m4 an8 M9 NO := TI_mono (TI_congr f5 (fun c k u1 u2 u3 u4 _ => C4.1 c k (by unfold cEa; omega)) (fun c k u1 u2 u3 u4 => R1 c k (by omega) (by omega) (by omega) (by omega)) (fun k u1 u2 => Q1 77 k (by omega) (by omega)) (fun k u => R1 78 k (by omega) (by omega) (by omega) (by omega)) (fun k u1 u2 => ⟨(a6.1 k (by omega)).1.trans (v6.1 k u2).1, (a6.1 k (by omega)).2.trans (v6.1 k u2).2⟩) (fun k u1 u2 => (a6.2 k (by omega)).trans (v6.2 k u2))) (Nat.le_refl _) (Nat.le_refl _) (by omega) (Nat.le_refl _) (Nat.le_refl _)
  have S2 : TI b T n g8 (c4 + 1) (c6 + 1) xn4 xn6 m4 m6 an8 M9 NO := TI_mono (TI_congr v5 (fun c k u1 u2 u3 u4 _ => C6.1 c k (by unfold cEa; omega)) (fun c k u1 u2 u3 u4 => R2 c k (by omega) (by omega) (by omega) (by omega)) (fun k u1 u2 => Q2 77 k (by omega) (by omega)) (fun k u => R2 78 k (by omega) (by omega) (by omega) (by omega)) (fun k u1 u2 => a6.1 k u2) (fun k u1 u2 => a6.2 k u2)) (Nat.le_refl _) (Nat.le_refl _) (by omega) (Nat.le_refl _) (Nat.le_refl _)
  have S3 : TI b T n g8 (c6 + 1) (c8 + 1) xn6 xn8 m6 m8 an8 M9 NO := TI_congr a5 (fun c k u1 u2 u3 u4 _ => z3.1 c k (by unfold cEa; omega)) (fun c k u1 u2 u3 u4 => R3 c k (by omega) (by omega)) (fun k u1 u2 => Q3 77 k (by omega)) (fun k u => R3 78 k (by omega) (by omega)) (fun k u1 u2 => ⟨rfl, rfl⟩) (fun k u1 u2 => rfl)
  have S := TI_app (TI_app S1 S2 (by omega) (by omega) (by omega) (by omega) (by omega)) S3 (by omega) (by omega) (by omega) (by omega) (by omega)
  have gx4 := (a6.1 c4 (by omega)).1.trans (v6.1 c4 (by omega)).1
  have gy4 := (a6.1 c4 (by omega)).2.trans (v6.1 c4 (by omega)).2
  have gx6 := a6.1 c6 (by omega)
  refine EQ_three (x := xn) (t := i) (c1 := c4) (c2 := c6) (gz := g8) rfl z2 b9 (by omega) (TI_mono S (by omega) (Nat.le_refl _) (Nat.le_refl _) (by omega) (Nat.le_refl _)) (fun c u1 u2 => by have := (S c u1 u2).1; omega) (by omega) (gy4.trans f4) (gx6.2.trans v4) a4 ⟨hi1, kd_lt (T := T) (by omega)⟩ z5 ?_ z4 ?_ z6 z7 z8 ?_ ?_ ?_ ?_ ?_ ?_ ?_ (LB_app (LB_app (LB_congr fA (fun k _ z => (a6.1 k (by omega)).2.trans (v6.1 k z).2)) (LB_congr vA (fun k _ z => (a6.1 k z).2)) (fun k z1 z2 => (S2 k z1 z2).2.2.2.1)) aA (fun k z1 z2 => (S3 k z1 z2).2.2.2.1)) (by unfold lbB; omega)
  · rw [R0 75 xn (by omega) (by omega) (by omega) (by omega)]; exact y2
  · rw [R0 71 xn (by omega) (by omega) (by omega) (by omega)]; exact y1
  · rw [RG 72 xn (by omega) (by omega) (by omega) (by omega), h3, gx4]
  · rw [RJ 73 xn (by omega) (by omega) (by omega) (by omega), w3, gx6.1]
  · rw [wL.1 _ _ (by omega), b3]
  · exact gA_trans f6 (gA_trans v6 a6 (by omega) (by omega)) (by omega) (by omega)
  · refine NM_app (m1 := m4) (fun k u1 u2 => ?_) (NM_app (m1 := m6) (fun k u1 u2 => ?_) (fun k u1 u2 => ?_))
    · rw [C4.2 _ _ (by omega), Q1 69 _ (by omega) (by omega)]; exact f7 k u1 u2
    · rw [C6.2 _ _ (by omega), Q2 69 _ (by omega) (by omega)]; exact v7 k u1 u2
    · rw [z3.2 _ _ (by omega), Q3 69 _ (by omega)]; exact a7 k u1 u2
  · exact cE_trans (cE_3 d1) (cE_trans f8 C4 (by omega) (by omega)) (by omega) (by omega)
  · refine rE_trans rC ⟨fun c k u => ?_, fun c k u => ?_⟩ (Nat.le_refl _) (Nat.le_refl _) (Nat.le_refl _)
    · have u' := u
      unfold rEa at u'
      rw [wL.1 c k (by omega), b4.1 c k (by omega), a9.1 c k (by unfold rEa; omega), o3.1 c k (by omega), w4.1 c k (by omega), v9.1 c k (by unfold rEa; omega), l3.1 c k (by omega), h4.1 c k (by omega), f9.1 c k (by unfold rEa; omega)]
    · have u' := u
      unfold rEl at u'
      rw [wL.2 c k (by omega), b4.2 c k (by omega), a9.2 c k (by unfold rEl; omega), o3.2 c k (by omega), w4.2 c k (by omega), v9.2 c k (by unfold rEl; omega), l3.2 c k (by omega), h4.2 c k (by omega), f9.2 c k (by unfold rEl; omega)]
end JE2
