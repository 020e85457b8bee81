def sS (t : Nat) : Nat := if t = 1 then 6 else if t = 2 then 8 else 10
def sK (t : Nat) : Nat := if t = 0 then 11 else if t = 1 then 7 else 9
def jnK (t v : Nat) : Prop := (t = 0 ∧ (v = 4 ∨ v = 60)) ∨ (t = 1 ∧ (v = 43 ∨ v = 45)) ∨ (t = 2 ∧ v = 42)
section JS
variable {b h n cnt f i m nd nb pl xn an ot x K k o t : Nat} {L : List (Nat × Int32)} {D W Y : List Int32} {M M' M0 N N' N0 N1 N2 : mv_M} {T : Nat → Nat} {g : Nat → Nat → Nat}
theorem EQ_pop {H H' s : Nat} {w r : Int32} (hH : H' ≤ H) (a : EQ H' b h M0 N0 T n cnt f i m nd xn an ((s, w) :: L) D W Y ot g M N r M' N') : EQ H b h M0 N0 T n cnt f i m nd xn an L D W Y ot g M N r M' (mv_si N' 62 36 (nI L.length)) := by
  obtain ⟨i4, m4, c4, xn4, an4, g4, rfl, f1, f2, f3, f4, f5, f6, f7, f8, f9, fA⟩ := a
  refine ⟨i4, m4, c4, xn4, an4, g4, rfl, f1, (r_pop f2).1, f3, f4, TI_congr f5 (fun _ _ _ _ _ _ _ => rfl) (fun c k _ _ _ _ => by simp (disch := omega) only [rd_hi, rd_mi, rd_hl, rd_ml, rd_hr, rd_mr, rd_si2, rd_sl1, rd_sl2, rd_sr1, rd_sr2]) (fun _ _ _ => rfl) (fun _ _ => by simp (disch := omega) only [rd_hi, rd_mi, rd_hl, rd_ml, rd_hr, rd_mr, rd_si2, rd_sl1, rd_sl2, rd_sr1, rd_sr2]) (fun _ _ _ => ⟨rfl, rfl⟩) (fun _ _ _ => rfl), f6, f7, f8, rE_si f9 (by unfold rEa; omega), LB_mono fA hH⟩
theorem c_joins (hx : cX b M0 T n cnt) (hc : cO b M0 T n cnt f i m nd M) (ht : t ≤ 2) : (jnK t (lx_k T n (lx_st T n i)) → fX3_joinsAt (nI t) M = some (nI 1, M)) ∧ (¬ jnK t (lx_k T n (lx_st T n i)) → fX3_joinsAt (nI t) M = some (nI 0, M)) := by
  have ek := cO_kind hx hc
  have hv1 := vk_k (T := T) (n := n) (s := lx_st T n i)
  generalize lx_k T n (lx_st T n i) = v at ek hv1
  have hv2 : v < 2 ^ 31 := by unfold vk at hv1; omega
  clear hv1
  unfold fX3_joinsAt jnK
  have h3 : t = 0 ∨ t = 1 ∨ t = 2 := by omega
  have h6 : v = 4 ∨ v = 42 ∨ v = 43 ∨ v = 45 ∨ v = 60 ∨ (v ≠ 4 ∧ v ≠ 42 ∧ v ≠ 43 ∧ v ≠ 45 ∧ v ≠ 60) := by omega
  constructor
  · intro hj
    rcases hj with ⟨rfl, rfl | rfl⟩ | ⟨rfl, rfl | rfl⟩ | ⟨rfl, rfl⟩ <;> simp (disch := omega) only [ek, k_iT, k_iF, Bool.false_eq_true, eq_self, Nat.add_zero, k_lt', k_bs, k_T, k_F, k_inb, k_ck, k_nz, ↓kN, kL, k_lt, k_le, k_eq, kn_le, kn_lt, kn_eq, kn_le', kn_lt', kn_eq', nI_clamp, nI_add, k_sub, k_mul, k_div, rd_hi, rd_mi, rd_hl, rd_ml, rd_hr, rd_mr, rd_si2, rd_sl1, rd_sl2, rd_sr1, rd_sr2]
  · intro hj
    rcases h6 with rfl | rfl | rfl | rfl | rfl | ⟨g1, g2, g3, g4, g5⟩ <;> rcases h3 with rfl | rfl | rfl <;> first | omega | simp (disch := omega) only [ek, k_iT, k_iF, Bool.false_eq_true, eq_self, Nat.add_zero, k_lt', k_bs, k_T, k_F, k_inb, k_ck, k_nz, ↓kN, kL, k_lt, k_le, k_eq, kn_le, kn_lt, kn_eq, kn_le', kn_lt', kn_eq', nI_clamp, nI_add, k_sub, k_mul, k_div, rd_hi, rd_mi, rd_hl, rd_ml, rd_hr, rd_mr, rd_si2, rd_sl1, rd_sl2, rd_sr1, rd_sr2]
/-- the sign does not stand there -/
theorem r_noj {w : Int32} (hr : rO h N0 T n f i m xn an ((sK t, w) :: L) D W Y ot N) (ht : t ≤ 2) (hl : L.length < 3000) (hj : ¬ jnK t (lx_k T n (lx_st T n i))) : fX11_parse_26 N = fX11_parse_26 (mv_si N 62 36 (nI L.length)) := by
  have hv := vk_k (T := T) (n := n) (s := lx_st T n i)
  have hs : 5 ≤ sK t ∧ sK t ≤ 12 := by unfold sK; split <;> (try split) <;> omega
  refine P_go ((g_sum hr hs hl).trans ?_)
  have et := rO_tk (r_pop hr).1
  have t22 := tkA hv (r := 22) (by omega)
  have t12 := tkA hv (r := 12) (by omega)
  have t19 := tkA hv (r := 19) (by omega)
  have t20 := tkA hv (r := 20) (by omega)
  have t21 := tkA hv (r := 21) (by omega)
  rw [kt22] at t22; rw [kt12] at t12; rw [kt19] at t19; rw [kt20] at t20; rw [kt21] at t21
  unfold jnK at hj
  have h3 : t = 0 ∨ t = 1 ∨ t = 2 := by omega
  unfold fX11_onSum
  rcases h3 with rfl | rfl | rfl
  · simp (disch := omega) only [show sK 0 = 11 from rfl, et, t22, t12, k_iT, k_iF, Bool.false_eq_true, eq_self, Nat.add_zero, k_lt', k_bs, k_T, k_F, k_inb, k_ck, k_nz, ↓kN, kL, k_lt, k_le, k_eq, kn_le, kn_lt, kn_eq, kn_le', kn_lt', kn_eq', nI_clamp, nI_add, k_sub, k_mul, k_div, rd_hi, rd_mi, rd_hl, rd_ml, rd_hr, rd_mr, rd_si2, rd_sl1, rd_sl2, rd_sr1, rd_sr2]
  · simp (disch := omega) only [show sK 1 = 7 from rfl, et, t19, t20, k_iT, k_iF, Bool.false_eq_true, eq_self, Nat.add_zero, k_lt', k_bs, k_T, k_F, k_inb, k_ck, k_nz, ↓kN, kL, k_lt, k_le, k_eq, kn_le, kn_lt, kn_eq, kn_le', kn_lt', kn_eq', nI_clamp, nI_add, k_sub, k_mul, k_div, rd_hi, rd_mi, rd_hl, rd_ml, rd_hr, rd_mr, rd_si2, rd_sl1, rd_sl2, rd_sr1, rd_sr2]
  · simp (disch := omega) only [show sK 2 = 9 from rfl, et, t21, k_iT, k_iF, Bool.false_eq_true, eq_self, Nat.add_zero, k_lt', k_bs, k_T, k_F, k_inb, k_ck, k_nz, ↓kN, kL, k_lt, k_le, k_eq, kn_le, kn_lt, kn_eq, kn_le', kn_lt', kn_eq', nI_clamp, nI_add, k_sub, k_mul, k_div, rd_hi, rd_mi, rd_hl, rd_ml, rd_hr, rd_mr, rd_si2, rd_sl1, rd_sl2, rd_sr1, rd_sr2]
/-- it does: two symbols more, and the token is passed -/
theorem r_yesj {w : Int32} (hr : rO h N0 T n f i m xn an ((sK t, w) :: L) D W Y ot N) (ht : t ≤ 2) (hl : L.length + 5 < 3000) (hj : jnK t (lx_k T n (lx_st T n i))) : ∃ N', rO h N0 T n f i m xn an ((sS (t + 1), nI 0) :: (12, nI (lx_tk (lx_k T n (lx_st T n i)))) :: L) D W Y ot N' ∧ rS N N' ∧ ∀ N'', fX11_pass N' = some ((), N'') → fX11_parse_26 N = fX11_parse_26 N'' := by
  have hv := vk_k (T := T) (n := n) (s := lx_st T n i)
  have hs : 5 ≤ sK t ∧ sK t ≤ 12 := by unfold sK; split <;> (try split) <;> omega
  obtain ⟨q0, s0⟩ := r_pop hr
  obtain ⟨N2, p2, q2, s2⟩ := r_push (s := 12) (w := nI (lx_tk (lx_k T n (lx_st T n i)))) q0 (by omega)
  obtain ⟨N3, p3, q3, s3⟩ := r_push (s := sS (t + 1)) (w := nI 0) q2 (by simp only [List.length_cons]; omega)
  refine ⟨N3, q3, rS_trans s0 (rS_trans s2 s3), fun N'' e => P_go ((g_sum hr hs (by omega)).trans ?_)⟩
  have et := rO_tk q0
  have t22 := tkA hv (r := 22) (by omega)
  have t12 := tkA hv (r := 12) (by omega)
  have t19 := tkA hv (r := 19) (by omega)
  have t20 := tkA hv (r := 20) (by omega)
  have t21 := tkA hv (r := 21) (by omega)
  rw [kt22] at t22; rw [kt12] at t12; rw [kt19] at t19; rw [kt20] at t20; rw [kt21] at t21
  unfold jnK at hj
  unfold fX11_onSum fX11_onSum_205 fX11_onSum_242
  generalize lx_k T n (lx_st T n i) = v at *
  rcases hj with ⟨rfl, rfl | rfl⟩ | ⟨rfl, rfl | rfl⟩ | ⟨rfl, rfl⟩
  · rw [show sS (0 + 1) = 6 from rfl] at p3
    simp (disch := omega) only [show sK 0 = 11 from rfl, et, t22, t12, p2, p3, e, k_iT, k_iF, Bool.false_eq_true, eq_self, Nat.add_zero, k_lt', k_bs, k_T, k_F, k_inb, k_ck, k_nz, ↓kN, kL, k_lt, k_le, k_eq, kn_le, kn_lt, kn_eq, kn_le', kn_lt', kn_eq', nI_clamp, nI_add, k_sub, k_mul, k_div, rd_hi, rd_mi, rd_hl, rd_ml, rd_hr, rd_mr, rd_si2, rd_sl1, rd_sl2, rd_sr1, rd_sr2]
  · rw [show sS (0 + 1) = 6 from rfl] at p3
    simp (disch := omega) only [show sK 0 = 11 from rfl, et, t22, t12, p2, p3, e, k_iT, k_iF, Bool.false_eq_true, eq_self, Nat.add_zero, k_lt', k_bs, k_T, k_F, k_inb, k_ck, k_nz, ↓kN, kL, k_lt, k_le, k_eq, kn_le, kn_lt, kn_eq, kn_le', kn_lt', kn_eq', nI_clamp, nI_add, k_sub, k_mul, k_div, rd_hi, rd_mi, rd_hl, rd_ml, rd_hr, rd_mr, rd_si2, rd_sl1, rd_sl2, rd_sr1, rd_sr2]
  · rw [show sS (1 + 1) = 8 from rfl] at p3
    simp (disch := omega) only [show sK 1 = 7 from rfl, et, t19, t20, p2, p3, e, k_iT, k_iF, Bool.false_eq_true, eq_self, Nat.add_zero, k_lt', k_bs, k_T, k_F, k_inb, k_ck, k_nz, ↓kN, kL, k_lt, k_le, k_eq, kn_le, kn_lt, kn_eq, kn_le', kn_lt', kn_eq', nI_clamp, nI_add, k_sub, k_mul, k_div, rd_hi, rd_mi, rd_hl, rd_ml, rd_hr, rd_mr, rd_si2, rd_sl1, rd_sl2, rd_sr1, rd_sr2]
  · rw [show sS (1 + 1) = 8 from rfl] at p3
    simp (disch := omega) only [show sK 1 = 7 from rfl, et, t19, t20, p2, p3, e, k_iT, k_iF, Bool.false_eq_true, eq_self, Nat.add_zero, k_lt', k_bs, k_T, k_F, k_inb, k_ck, k_nz, ↓kN, kL, k_lt, k_le, k_eq, kn_le, kn_lt, kn_eq, kn_le', kn_lt', kn_eq', nI_clamp, nI_add, k_sub, k_mul, k_div, rd_hi, rd_mi, rd_hl, rd_ml, rd_hr, rd_mr, rd_si2, rd_sl1, rd_sl2, rd_sr1, rd_sr2]
  · rw [show sS (2 + 1) = 10 from rfl] at p3
    simp (disch := omega) only [show sK 2 = 9 from rfl, et, t21, p2, p3, e, k_iT, k_iF, Bool.false_eq_true, eq_self, Nat.add_zero, k_lt', k_bs, k_T, k_F, k_inb, k_ck, k_nz, ↓kN, kL, k_lt, k_le, k_eq, kn_le, kn_lt, kn_eq, kn_le', kn_lt', kn_eq', nI_clamp, nI_add, k_sub, k_mul, k_div, rd_hi, rd_mi, rd_hl, rd_ml, rd_hr, rd_mr, rd_si2, rd_sl1, rd_sl2, rd_sr1, rd_sr2]
theorem r_side {s x1 x2 : Nat} (hh : h ≤ 1) (hr : rO h N0 T n f i m xn an ((12, nI s) :: L) (nI x2 :: nI x1 :: D) W Y ot N) (hl : L.length < 3000) (hd : D.length + 1 < 1100) (h1 : x1 < 2002) (hxn : 1001 * h ≤ xn ∧ xn < 1001 * h + 1001) : ∃ N', fX11_parse_26 N = fX11_parse_26 N' ∧ rO h N0 T n f i m (xn + 1) an L (nI xn :: D) W Y ot N' ∧ rE h f m xn an N N' ∧ N'.1 71 xn = nI 1 ∧ N'.1 75 xn = N.1 75 x1 ∧ N'.1 72 xn = nI x1 ∧ N'.1 73 xn = nI x2 ∧ N'.1 74 xn = nI s := by
  obtain ⟨q0, s0⟩ := r_pop hr
  obtain ⟨N2, p2, q2, s2⟩ := r_last q0 (by simp only [List.length_cons]; omega)
  obtain ⟨N3, p3, q3, s3⟩ := r_last q2 (by omega)
  obtain ⟨N4, p4, q4, s4, y1, y2⟩ := r_node (kd := nI 1) (pl := N3.1 75 x1) q3 hh (by omega) (by omega)
  have q5 := rO_si (c := 74) (k := xn) (v := nI s) (rO_si (c := 73) (k := xn) (v := nI x2) (rO_si (c := 72) (k := xn) (v := nI x1) q4 hh (by omega)) hh (by omega)) hh (by omega)
  obtain ⟨N6, p6, q6, s6⟩ := r_make (v := nI xn) q5 (by omega)
  refine ⟨N6, P_go ((g_sum hr (by omega) hl).trans ?_), q6, ?_, ?_, ?_, ?_, ?_, ?_⟩
  · unfold fX11_onSum
    simp (disch := omega) only [p2, p3, p4, p6, k_iT, k_iF, Bool.false_eq_true, eq_self, Nat.add_zero, k_lt', k_bs, k_T, k_F, k_inb, k_ck, k_nz, ↓kN, kL, k_lt, k_le, k_eq, kn_le, kn_lt, kn_eq, kn_le', kn_lt', kn_eq', nI_clamp, nI_add, k_sub, k_mul, k_div, rd_hi, rd_mi, rd_hl, rd_ml, rd_hr, rd_mr, rd_si2, rd_sl1, rd_sl2, rd_sr1, rd_sr2]
  · refine rE_trans (rS_E (rS_trans s0 (rS_trans s2 s3))) (rE_trans (rE_si (rE_si (rE_si s4 (by unfold rEa; omega)) (by unfold rEa; omega)) (by unfold rEa; omega)) (rS_E (m := m) (xn := xn) (an := an) s6) (by omega) (by omega) (by omega)) (by omega) (by omega) (by omega)
  · rw [s6.1 _ _ (by omega)]; simp (disch := omega) only [rd_hi, rd_mi, rd_hl, rd_ml, rd_hr, rd_mr, rd_si2, rd_sl1, rd_sl2, rd_sr1, rd_sr2]; exact y1
  · rw [s6.1 _ _ (by omega)]; simp (disch := omega) only [rd_hi, rd_mi, rd_hl, rd_ml, rd_hr, rd_mr, rd_si2, rd_sl1, rd_sl2, rd_sr1, rd_sr2]; rw [y2, s3.1 _ _ (by omega), s2.1 _ _ (by omega)]; simp (disch := omega) only [rd_hi, rd_mi, rd_hl, rd_ml, rd_hr, rd_mr, rd_si2, rd_sl1, rd_sl2, rd_sr1, rd_sr2]
  · rw [s6.1 _ _ (by omega)]; simp (disch := omega) only [rd_hi, rd_mi, rd_hl, rd_ml, rd_hr, rd_mr, rd_si2, rd_sl1, rd_sl2, rd_sr1, rd_sr2]
  · rw [s6.1 _ _ (by omega)]; simp (disch := omega) only [rd_hi, rd_mi, rd_hl, rd_ml, rd_hr, rd_mr, rd_si2, rd_sl1, rd_sl2, rd_sr1, rd_sr2]
  · rw [s6.1 _ _ (by omega)]; simp (disch := omega) only [rd_hi, rd_mi, rd_hl, rd_ml, rd_hr, rd_mr, rd_si2, rd_sl1, rd_sl2, rd_sr1, rd_sr2]
theorem cD_srest {ra : Int32 → mv_M → Option (Int32 × mv_M)} {rs : Int32 → Int32 → mv_M → Option (Int32 × mv_M)} {r1 r5 r8 : Int32} (hx : cX b M0 T n cnt) (hd : cD b M0 T n cnt f nb pl M) : mv_ok (mv_getp (M.2.2 3 2) fun b10 => mv_bind (fX4_hasNode b10 r1 M) fun r11 M12 => if r11 = 0 then fX3_parseSides_74 ra rs r1 r5 r8 (-1) M12 else mv_getp (M12.2.2 3 2) fun b13 => mv_chk (mv_inb r1 1000) <| fX3_parseSides_74 ra rs r1 r5 r8 (M12.1 (b13 + 14) r1.toNatClampNeg) M12) (fun _ M'' => cD b M0 T n cnt f nb pl M'') := by
  have key : ∀ s0 : Int32, mv_ok (fX3_parseSides_74 ra rs r1 r5 r8 s0 M) (fun _ M'' => cD b M0 T n cnt f nb pl M'') := by
    intro s0
    unfold fX3_parseSides_74
    exact cD_getp hx hd (cD_bind (cD_node hx hd) (fun _ _ h2 => ok_some h2))
  exact cD_getp hx hd (cD_has (A := fun M12 => fX3_parseSides_74 ra rs r1 r5 r8 (-1) M12) (B := fun b13 M12 => fX3_parseSides_74 ra rs r1 r5 r8 (M12.1 (b13 + 14) r1.toNatClampNeg) M12) hx hd (key _) (fun _ => key _))
set_option maxHeartbeats 4000000 in
theorem j_side (hx : pX b h M0 N0 T n cnt f) (ht : t ≤ 2) (HE : ∀ k, K ≤ k → Sp b h M0 N0 T n cnt f (o + 1) (RX3_parseE k 4 (nI (o + 1)) (nI (t + 1))) [(sS (t + 1), nI 0)] (20 * o + 4 + 2 * t)) (hk : K + 1 ≤ k) (hK : 5 ≤ K + t + 1) (ho : o < 20) (hL : L.length ≤ 20 * o + 2 + 2 * t) (hY : Y.length ≤ 4) (hB : 1001 * h ≤ xn ∧ xn ≤ 1001 * h + i ∧ 1001 * h ≤ an ∧ an + D.length + W.length ≤ 1001 * h + i) (hc : cO b M0 T n cnt f i m nd M) (hr : rO h N0 T n f i m xn an ((sS (t + 1), nI 0) :: (sK t, nI 0) :: L) D W Y (o + 1) N) : J b h M0 N0 T n cnt f N (RX3_parseE k 4 (nI (o + 1)) (nI t) M) (EQ (lbB (20 * o + 2 + 2 * t)) b h M0 N0 T n cnt f i m nd xn an L D W Y (o + 1) g M N) := by
  have hb := hx.1.1
  have hh := hx.2.2.1
  have hnd := hc.2.2.2.2.2.2.2.2.1
  obtain ⟨j, rfl⟩ : ∃ j, k = j + 1 := ⟨k - 1, by omega⟩
  rw [RX3_parseE, if_neg (by decide), if_neg (by decide), if_neg (by decide), if_neg (by decide), if_pos rfl]
  unfold fX3_parseSides
  refine J_T (by rw [kM, k_lt (by omega) (by omega)]; omega) ?_
  rw [nI_1]
  have hjD : ∀ (nb pl : Nat) (r : Int32) (M' : mv_M), cD b M0 T n cnt f nb pl M' → ∀ (A : Int32 → mv_M → Option (Int32 × mv_M)), mv_ok (mv_bind (fX3_joinsAt (nI t) M') fun r3 M4 => if r3 = 0 then some (r, M4) else A r3 M4) (fun _ M'' => cD b M0 T n cnt f nb pl M'') := by
    intro nb pl r M' hd A
    rw [cD_joins hx.1 hd, k_bs]
    exact ok_T (c := nI 0 = 0) rfl (ok_some hd)
  refine J_bind (HE j (by omega) i m nd xn an _ D W Y g M N (by simp only [List.length_cons]; omega) hY hB hc hr) (fun nb pl r M' hd => hjD nb pl r M' hd _) ?_
  intro r M4 NF hq
  obtain ⟨i4, m4, c4, xn4, an4, g4, rfl, f1, f2, f3, f4, f5, f6, f7, f8, f9, fA⟩ := id hq
  have hi4 := f1.2.2.2.1
  by_cases hj : jnK t (lx_k T n (lx_st T n i4))
  · refine J_bs ((c_joins hx.1 f1 ht).1 hj) (J_F (by decide) ?_)
    refine J_bs (cO_kind hx.1 f1) ?_
    obtain ⟨N2, a1, a2, a3⟩ := r_yesj f2 ht (by omega) hj
    obtain ⟨M5, NG, e1, e2, e3, e4⟩ := j_pass hx f1 a1 (by unfold jnK at hj; omega)
    refine J_bs e1 (J_step (a3 _ e2) ?_)
    rcases e4 with ⟨nb, pl, d1, d2⟩ | ⟨d1, d2, d3⟩
    · exact J_dead (cD_bindR (cD_sides' hx.1 d1 (by omega) (by omega)) (fun _ _ h9 => cD_srest hx.1 h9)) (P_fault d2)
    refine J_bind (HE j (by omega) (i4 + 1) m4 (c4 + 1) xn4 an4 _ _ W Y g4 M5 NG (by simp only [List.length_cons]; omega) hY (by simp only [List.length_cons]; omega) d2 d3) (fun nb pl r M' h9 => cD_srest hx.1 h9) ?_
    rintro r M6 NH ⟨i6, m6, c6, xn6, an6, g6, rfl, v1, v2, v3, v4, v5, v6, v7, v8, v9, vA⟩
    have hi6 := v1.2.2.2.1
    have l4 := f5 c4 (by omega) (by omega)
    have hg0 : g6 0 c4 = g4 0 c4 := (v6.1 c4 (by omega)).1
    obtain ⟨NJ, w1, w2, w3, w4, w5, w6, w7, w8⟩ := r_side hh v2 (by omega) (by omega) (by omega) (by omega)
    refine J_step w1 ?_
    obtain ⟨t4, t5, t6, t7, t8⟩ := l4.2.2.2.2.2
    have cc : M6.1 (b + 14) c4 = nI t4 := by
      rw [v8.1 _ _ (by unfold cEa; omega), (cE_3 (b := b) (f := f) (m := m4) (nd := c4 + 1) d1).1 _ _ (by unfold cEa; omega)]
      exact t6
    have n75 : NH.1 75 (g4 0 c4) = nI (lx_st T n t4) := by
      rw [v9.1 _ _ (by unfold rEa; omega), e3.1 _ _ (by omega), a2.1 _ _ (by omega)]
      exact t7
    have hnode : fX4_hasNode b (nI c4) M6 = some (1, M6) := by
      have := v1.2.2.2.2.2.2.2.1
      unfold fX4_hasNode
      simp (disch := omega) only [this, k_iT, k_iF, Bool.false_eq_true, eq_self, Nat.add_zero, k_lt', k_bs, k_T, k_F, k_inb, k_ck, k_nz, ↓kN, kL, k_lt, k_le, k_eq, kn_le, kn_lt, kn_eq, kn_le', kn_lt', kn_eq', nI_clamp, nI_add, k_sub, k_mul, k_div, rd_hi, rd_mi, rd_hl, rd_ml, rd_hr, rd_mr, rd_si2, rd_sl1, rd_sl2, rd_sr1, rd_sr2]
    refine J_getp hx v1.1.1 ?_
    refine J_bs hnode (J_F (by decide) (J_getp hx v1.1.1 ?_))
    rw [k_inb (by omega) (by omega), k_ck, nI_clamp (by omega), cc]
    unfold fX3_parseSides_74
    refine J_getp hx v1.1.1 ?_
    obtain ⟨M7, z1, z2, z3, z4, z5, z6, z7, z8, z9⟩ := c_node (kd := nI (lx_k T n (lx_st T n i4))) (t := nI t4) (a1 := nI c4) (a2 := nI c6) (a3 := -1) hb v1 (by omega)
    refine J_bs z1 (J_some ?_)
    -- frames
    have R2 : ∀ c k, 71 ≤ c ∧ c ≤ 78 → (c ≤ 77 → k < xn6) → (c = 78 → k < an6) → NJ.1 c k = NH.1 c k := fun c k u1 u2 u3 => w3.1 c k (by unfold rEa; omega)
    have R1 : ∀ c k, 71 ≤ c ∧ c ≤ 78 → (c ≤ 77 → k < xn4) → (c = 78 → k < an4) → NJ.1 c k = NF.1 c k := fun c k u1 u2 u3 => (R2 c k u1 (by omega) (by omega)).trans ((v9.1 c k (by unfold rEa; omega)).trans ((e3.1 c k (by omega)).trans (a2.1 c k (by omega))))
    have Q2 : ∀ c k, ¬ ((c = 62 ∧ k = 7) ∨ (c = 69 ∧ 16 * (12 * h + f) + m6 ≤ k)) → (c = 77 → k < xn6) → NJ.2.1 c k = NH.2.1 c k := fun c k u u2 => w3.2 c k (by unfold rEl; omega)
    have Q1 : ∀ c k, ¬ ((c = 62 ∧ k = 7) ∨ (c = 69 ∧ 16 * (12 * h + f) + m4 ≤ k)) → (c = 77 → k < xn4) → NJ.2.1 c k = NF.2.1 c k := fun c k u u2 => (Q2 c k (by omega) (by omega)).trans ((v9.2 c k (by unfold rEl; omega)).trans ((e3.2.1 c k (by omega)).trans (a2.2 c k (by omega))))
    have C4 : cE b f m4 (c4 + 1) M4 M7 := cE_trans (cE_3 d1) (cE_trans v8 z3 (by omega) (by omega)) (by omega) (by omega)
    have S1 : TI b T n g6 nd (c4 + 1) xn xn4 m m4 an6 M7 NJ := TI_mono (TI_congr f5 (fun c k u1 u2 u3 u4 _ => C4.1 c k (by unfold cEa; omega)) (fun c k u1 u2 u3 u4 => R1 c k (by omega) (by omega) (by omega)) (fun k u1 u2 => Q1 77 k (by omega) (by omega)) (fun k u => R1 78 k (by omega) (by omega) (by omega)) (fun k u1 u2 => v6.1 k u2) (fun k u1 u2 => v6.2 k u2)) (Nat.le_refl _) (Nat.le_refl _) (by omega) (Nat.le_refl _) (Nat.le_refl _)
    have S2 : TI b T n g6 (c4 + 1) (c6 + 1) xn4 xn6 m4 m6 an6 M7 NJ := TI_congr v5 (fun c k u1 u2 u3 u4 _ => z3.1 c k (by unfold cEa; omega)) (fun c k u1 u2 u3 u4 => R2 c k (by omega) (by omega) (by omega)) (fun k u1 u2 => Q2 77 k (by omega) (by omega)) (fun k u => R2 78 k (by omega) (by omega) (by omega)) (fun k u1 u2 => ⟨rfl, rfl⟩) (fun k u1 u2 => rfl)
    have S := TI_app S1 S2 (by omega) (by omega) (by omega) (by omega) (by omega)
    refine EQ_two (x := xn6) (t := t4) (c1 := c4) (gz := g6) rfl z2 w2 (by omega) (TI_mono S (by omega) (Nat.le_refl _) (Nat.le_refl _) (by omega) (by omega)) (fun c u1 u2 => by have := (S c u1 u2).2.1; omega) (by omega) ((v6.1 c4 (by omega)).2.trans f4) v4 t5 z5 ?_ z6 z7 ?_ w7 (.inl ⟨_, ?_, z4, w4, w8⟩) ?_ ?_ ?_ ?_ (LB_app (LB_congr fA (fun k _ z => (v6.1 k z).2)) vA (fun k z1 z2 => (S2 k z1 z2).2.2.2.1)) (by unfold lbB; omega)
    · rw [w5, n75]
    · rw [w6, hg0]
    · unfold jnK at hj; omega
    · exact gA_trans f6 v6 (by omega) (by omega)
    · refine NM_app (m1 := m4) (fun k u1 u2 => ?_) (fun k u1 u2 => ?_)
      · rw [C4.2 _ _ (by omega), Q1 69 _ (by omega) (by omega)]; exact f7 k u1 u2
      · rw [z3.2 _ _ (by omega), Q2 69 _ (by omega) (by omega)]; exact v7 k u1 u2
    · exact cE_trans f8 C4 (by omega) (by omega)
    · refine rE_trans (m1 := m4) (xn1 := xn4) (an1 := an4) f9 ⟨fun c k u => ?_, fun c k u => ?_⟩ (by omega) (by omega) (by omega)
      · have u' := u
        unfold rEa at u'
        rw [w3.1 c k (by unfold rEa; omega), v9.1 c k (by unfold rEa; omega), e3.1 c k (by omega), a2.1 c k (by omega)]
      · have u' := u
        unfold rEl at u'
        rw [w3.2 c k (by unfold rEl; omega), v9.2 c k (by unfold rEl; omega), e3.2.1 c k (by omega), a2.2 c k (by omega)]
  · refine J_bs ((c_joins hx.1 f1 ht).2 hj) (J_T rfl ?_)
    exact J_step (r_noj f2 ht (by omega) hj) (J_some (EQ_pop (by unfold lbB; omega) hq))
end JS
