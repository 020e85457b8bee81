def bgK (v : Nat) : Prop := v = 2 ∨ v = 3 ∨ v = 40 ∨ v = 301 ∨ v = 304 ∨ v = 306 ∨ v = 308
section JZ
variable {b h n cnt f i m nd nb pl xn an ot x K k o t q : Nat} {L : List (Nat × Int32)} {D W Y : List Int32} {M M' M0 N N' N0 N1 N2 : mv_M} {T : Nat → Nat} {g : Nat → Nat → Nat}
theorem c_begin (hx : cX b M0 T n cnt) (hc : cO b M0 T n cnt f i m nd M) : (bgK (lx_k T n (lx_st T n i)) → fX3_canBeginE M = some (nI 1, M)) ∧ (¬ bgK (lx_k T n (lx_st T n i)) → fX3_canBeginE M = some (nI 0, M)) := by
  have ek := cO_kind hx hc
  have hv1 := vk_k (T := T) (n := n) (s := lx_st T n i)
  generalize lx_k T n (lx_st T n i) = v at ek hv1
  have hv2 : v < 2 ^ 31 := by unfold vk at hv1; omega
  clear hv1
  unfold fX3_canBeginE bgK
  constructor
  · intro hj
    rcases hj with rfl | rfl | rfl | rfl | rfl | rfl | rfl <;> simp (disch := omega) only [ek, k_iT, k_iF, Bool.false_eq_true, eq_self, Nat.add_zero, k_lt', k_bs, k_T, k_F, k_inb, k_ck, k_nz, ↓kN, kL, k_lt, k_le, k_eq, kn_le, kn_lt, kn_eq, kn_le', kn_lt', kn_eq', nI_clamp, nI_add, k_sub, k_mul, k_div, rd_hi, rd_mi, rd_hl, rd_ml, rd_hr, rd_mr, rd_si2, rd_sl1, rd_sl2, rd_sr1, rd_sr2]
  · intro hj
    simp (disch := omega) only [ek, k_iT, k_iF, Bool.false_eq_true, eq_self, Nat.add_zero, k_lt', k_bs, k_T, k_F, k_inb, k_ck, k_nz, ↓kN, kL, k_lt, k_le, k_eq, kn_le, kn_lt, kn_eq, kn_le', kn_lt', kn_eq', nI_clamp, nI_add, k_sub, k_mul, k_div, rd_hi, rd_mi, rd_hl, rd_ml, rd_hr, rd_mr, rd_si2, rd_sl1, rd_sl2, rd_sr1, rd_sr2]
theorem r_begin (hr : rO h N0 T n f i m xn an L D W Y ot N) : (bgK (lx_k T n (lx_st T n i)) → fX11_begins N = some (nI 1, N)) ∧ (¬ bgK (lx_k T n (lx_st T n i)) → fX11_begins N = some (nI 0, N)) := by
  have hv := vk_k (T := T) (n := n) (s := lx_st T n i)
  have et := rO_tk hr
  generalize lx_k T n (lx_st T n i) = v at et hv
  have t5 := tkA hv (r := 5) (by omega)
  have t7 := tkA hv (r := 7) (by omega)
  have t2 := tkA hv (r := 2) (by omega)
  have t11 := tkA hv (r := 11) (by omega)
  have t9 := tkA hv (r := 9) (by omega)
  have t10 := tkA hv (r := 10) (by omega)
  have t14 := tkA hv (r := 14) (by omega)
  rw [kt5] at t5; rw [kt7] at t7; rw [kt2] at t2; rw [kt11] at t11; rw [kt9] at t9; rw [kt10] at t10; rw [kt14] at t14
  clear hv
  unfold fX11_begins fX11_begins_61 bgK
  constructor
  · intro hj
    rcases hj with rfl | rfl | rfl | rfl | rfl | rfl | rfl <;> simp (disch := omega) only [et, t5, t7, t2, t11, t9, t10, t14, k_iT, k_iF, Bool.false_eq_true, eq_self, Nat.add_zero, k_lt', k_bs, k_T, k_F, k_inb, k_ck, k_nz, ↓kN, kL, k_lt, k_le, k_eq, kn_le, kn_lt, kn_eq, kn_le', kn_lt', kn_eq', nI_clamp, nI_add, k_sub, k_mul, k_div, rd_hi, rd_mi, rd_hl, rd_ml, rd_hr, rd_mr, rd_si2, rd_sl1, rd_sl2, rd_sr1, rd_sr2]
  · intro hj
    simp (disch := omega) only [et, t5, t7, t2, t11, t9, t10, t14, k_iT, k_iF, Bool.false_eq_true, eq_self, Nat.add_zero, k_lt', k_bs, k_T, k_F, k_inb, k_ck, k_nz, ↓kN, kL, k_lt, k_le, k_eq, kn_le, kn_lt, kn_eq, kn_le', kn_lt', kn_eq', nI_clamp, nI_add, k_sub, k_mul, k_div, rd_hi, rd_mi, rd_hl, rd_ml, rd_hr, rd_mr, rd_si2, rd_sl1, rd_sl2, rd_sr1, rd_sr2]
theorem EQ_ende {H : Nat} {r : Int32} (hl : L.length < 3000) (a : EQ H b h M0 N0 T n cnt f i m nd xn an ((5, nI 0) :: L) D W Y (ot + 1) g M N1 r M' N') (e : rS N N1) : ∃ N'', fX11_parse_26 N' = fX11_parse_26 N'' ∧ EQ H b h M0 N0 T n cnt f i m nd xn an L D W Y ot g M N r M' N'' := by
  obtain ⟨i4, m4, c4, xn4, an4, g4, rfl, f1, f2, f3, f4, f5, f6, f7, f8, f9, fA⟩ := a
  obtain ⟨N2, e1, e2, e3⟩ := r_ende f2 hl
  refine ⟨N2, e1, i4, m4, c4, xn4, an4, g4, rfl, f1, e2, f3, f4, TI_congr f5 (fun _ _ _ _ _ _ _ => rfl) (fun c k _ _ _ _ => e3.1 c k (by omega)) (fun k _ _ => e3.2 _ _ (by omega)) (fun _ _ => e3.1 _ _ (by omega)) (fun _ _ _ => ⟨rfl, rfl⟩) (fun _ _ _ => rfl), f6, fun k u1 u2 => (f7 k u1 u2).trans (e3.2 _ _ (by omega)).symm, f8, rE_trans (rS_E (m := m) (xn := xn) (an := an) e) (rE_trans f9 (rS_E (m := m) (xn := xn) (an := an) e3) (by omega) (by omega) (by omega)) (by omega) (by omega) (by omega), fA⟩
theorem Sp_atom (hx : pX b h M0 N0 T n cnt f) (HE : ∀ k, K ≤ k → Sp b h M0 N0 T n cnt f (o + 1) (RX3_parseE k 0 (nI (o + 1)) 0) [(4, nI 0)] (20 * (o + 1))) (hk : K + 2 ≤ k) (hK : 0 < K) (ho : o < 20) : Sp b h M0 N0 T n cnt f (o + 1) (RX3_parseE k 5 (nI (o + 1)) 0) [(10, nI 0)] (20 * o + 8) := by
  intro i m nd xn an L D W Y g M N hL hY hB hc hr
  have hr' : rO h N0 T n f i m xn an ((10, nI 0) :: L) D W Y (o + 1) N := hr
  by_cases h2 : lx_k T n (lx_st T n i) = 2
  · exact j_ident hx HE hk hK ho hL hY hB hc hr' h2
  by_cases h3 : lx_k T n (lx_st T n i) = 3
  · exact j_number hx (by omega) ho hL hB hc hr' h3
  by_cases h40 : lx_k T n (lx_st T n i) = 40
  · exact j_brk hx HE hk hK ho hL hY hB hc hr' h40
  by_cases h308 : lx_k T n (lx_st T n i) = 308
  · exact j_fail hx (by omega) ho hL hY hB hc hr' h308
  have ek := cO_kind hx.1 hc
  have hv := vk_k (T := T) (n := n) (s := lx_st T n i)
  have hv2 : lx_k T n (lx_st T n i) < 2 ^ 31 := by unfold vk at hv; omega
  obtain ⟨j, rfl⟩ : ∃ j, k = j + 1 := ⟨k - 1, by omega⟩
  rw [RX3_parseE, if_neg (by decide), if_neg (by decide), if_neg (by decide), if_neg (by decide), if_neg (by decide), if_pos rfl]
  unfold fX3_parseAtom
  rw [k_lt', hc.2.1]
  refine J_bs ek ?_
  refine J_F (by rw [kM, k_eq hv2 (by omega)]; exact h2) (J_F (by rw [kM, k_eq hv2 (by omega)]; exact h3) (J_F (by rw [kM, k_eq hv2 (by omega)]; exact h40) (J_F (by rw [kM, k_eq hv2 (by omega)]; exact h308) ?_)))
  obtain ⟨q0, s0⟩ := r_pop hr'
  obtain ⟨M1, e1, e2⟩ := cO_stop (v := 2) hx.1 hc (by omega) (by omega)
  obtain ⟨N1, f1, f2, f3⟩ := r_stop (v := 2) q0 (by omega) (by omega)
  have et := rO_tk q0
  have et2 := rO_ta q0
  have t11 := tkA hv (r := 11) (by omega)
  have t9 := tkA hv (r := 9) (by omega)
  have t10 := tkA hv (r := 10) (by omega)
  have t14 := tkA hv (r := 14) (by omega)
  rw [kt11] at t11; rw [kt9] at t9; rw [kt10] at t10; rw [kt14] at t14
  have eP : fX11_parse_26 N = fX11_parse_26 N1 := by
    refine P_go ((g_sum hr' (by omega) (by omega)).trans ?_)
    unfold fX11_onSum fX11_onAtom
    simp (disch := omega) only [et, et2, t11, t9, t10, t14, h2, h3, h40, h308, f1, k_iT, k_iF, Bool.false_eq_true, eq_self, Nat.add_zero, k_lt', k_bs, k_T, k_F, k_inb, k_ck, k_nz, ↓kN, kL, k_lt, k_le, k_eq, kn_le, kn_lt, kn_eq, kn_le', kn_lt', kn_eq', nI_clamp, nI_add, k_sub, k_mul, k_div, rd_hi, rd_mi, rd_hl, rd_ml, rd_hr, rd_mr, rd_si2, rd_sl1, rd_sl2, rd_sr1, rd_sr2]
  exact J_bs e1 (J_step eP (J_dead (ok_some e2) (P_fault f2)))
theorem Sp_3 (hx : pX b h M0 N0 T n cnt f) (HE : ∀ k, K ≤ k → Sp b h M0 N0 T n cnt f (o + 1) (RX3_parseE k 0 (nI (o + 1)) 0) [(4, nI 0)] (20 * (o + 1))) (hk : K + 3 ≤ k) (hK : 0 < K) (ho : o < 20) : Sp b h M0 N0 T n cnt f (o + 1) (RX3_parseE k 4 (nI (o + 1)) (nI 3)) [(sS 3, nI 0)] (20 * o + 8) := by
  intro i m nd xn an L D W Y g M N hL hY hB hc hr
  obtain ⟨j, rfl⟩ : ∃ j, k = j + 1 := ⟨k - 1, by omega⟩
  rw [RX3_parseE, if_neg (by decide), if_neg (by decide), if_neg (by decide), if_neg (by decide), if_pos rfl]
  unfold fX3_parseSides
  refine J_F (by decide) ?_
  exact J_bind (Sp_atom hx HE (k := j) (by omega) hK ho i m nd xn an L D W Y g M N hL hY hB hc hr) (fun nb pl r M' hd => ok_some hd) (fun r M' N' hq => J_some hq)
theorem r_exp (hr : rO h N0 T n f i m xn an ((sS t, nI 0) :: L) D W Y ot N) (ht : t = 1 ∨ t = 2) (hl : L.length + 3 < 3000) : ∃ N', fX11_parse_26 N = fX11_parse_26 N' ∧ rO h N0 T n f i m xn an ((sS (t + 1), nI 0) :: (sK t, nI 0) :: L) D W Y ot N' ∧ rS N N' := by
  have hs : 5 ≤ sS t ∧ sS t ≤ 12 := by unfold sS; split <;> (try split) <;> omega
  obtain ⟨q0, s0⟩ := r_pop hr
  obtain ⟨N2, p2, q2, s2⟩ := r_push (s := sK t) (w := nI 0) q0 (by omega)
  obtain ⟨N3, p3, q3, s3⟩ := r_push (s := sS (t + 1)) (w := nI 0) q2 (by simp only [List.length_cons]; omega)
  refine ⟨N3, P_go ((g_sum hr hs (by omega)).trans ?_), q3, rS_trans s0 (rS_trans s2 s3)⟩
  unfold fX11_onSum
  rcases ht with rfl | rfl
  · rw [show sK 1 = 7 from rfl] at p2
    rw [show sS (1 + 1) = 8 from rfl] at p3
    simp (disch := omega) only [show sS 1 = 6 from rfl, p2, p3, k_iT, k_iF, Bool.false_eq_true, eq_self, Nat.add_zero, k_lt', k_bs, k_T, k_F, k_inb, k_ck, k_nz, ↓kN, kL, k_lt, k_le, k_eq, kn_le, kn_lt, kn_eq, kn_le', kn_lt', kn_eq', nI_clamp, nI_add, k_sub, k_mul, k_div, rd_hi, rd_mi, rd_hl, rd_ml, rd_hr, rd_mr, rd_si2, rd_sl1, rd_sl2, rd_sr1, rd_sr2]
  · rw [show sK 2 = 9 from rfl] at p2
    rw [show sS (2 + 1) = 10 from rfl] at p3
    simp (disch := omega) only [show sS 2 = 8 from rfl, p2, p3, k_iT, k_iF, Bool.false_eq_true, eq_self, Nat.add_zero, k_lt', k_bs, k_T, k_F, k_inb, k_ck, k_nz, ↓kN, kL, k_lt, k_le, k_eq, kn_le, kn_lt, kn_eq, kn_le', kn_lt', kn_eq', nI_clamp, nI_add, k_sub, k_mul, k_div, rd_hi, rd_mi, rd_hl, rd_ml, rd_hr, rd_mr, rd_si2, rd_sl1, rd_sl2, rd_sr1, rd_sr2]
/-- another memory before, alike but for stacks -/
theorem EQ_bef {H : Nat} {r : Int32} (a : EQ H b h M0 N0 T n cnt f i m nd xn an L D W Y ot g M N1 r M' N') (e : rS N N1) : EQ H b h M0 N0 T n cnt f i m nd xn an L D W Y ot g M N r M' N' := by
  obtain ⟨i4, m4, c4, xn4, an4, g4, rfl, f1, f2, f3, f4, f5, f6, f7, f8, f9, fA⟩ := a
  exact ⟨i4, m4, c4, xn4, an4, g4, rfl, f1, f2, f3, f4, f5, f6, f7, f8, rE_trans (rS_E (m := m) (xn := xn) (an := an) e) f9 (by omega) (by omega) (by omega), fA⟩
theorem Sp_12 (hx : pX b h M0 N0 T n cnt f) (ht : t = 1 ∨ t = 2) (HE : ∀ k, K ≤ k → Sp b h M0 N0 T n cnt f (o + 1) (RX3_parseE k 4 (nI (o + 1)) (nI (t + 1))) [(sS (t + 1), nI 0)] (20 * o + 4 + 2 * t)) (hk : K + 1 ≤ k) (hK : 5 ≤ K + t + 1) (ho : o < 20) : Sp b h M0 N0 T n cnt f (o + 1) (RX3_parseE k 4 (nI (o + 1)) (nI t)) [(sS t, nI 0)] (20 * o + 2 + 2 * t) := by
  intro i m nd xn an L D W Y g M N hL hY hB hc hr
  have hr' : rO h N0 T n f i m xn an ((sS t, nI 0) :: L) D W Y (o + 1) N := hr
  obtain ⟨N1, e1, e2, e3⟩ := r_exp hr' ht (by omega)
  exact J_step e1 (J_mono (j_side (g := g) hx (by omega) HE hk hK ho hL hY hB hc e2) (fun r M' N' hq => EQ_bef hq e3))
theorem j_stop {v : Nat} (hx : pX b h M0 N0 T n cnt f) (hc : cO b M0 T n cnt f i m nd M) (hr : rO h N0 T n f i m xn an ((4, nI 0) :: L) D W Y ot N) (hl : L.length < 3000) (ho : ot ≤ 20) (hv : (¬ bgK (lx_k T n (lx_st T n i)) ∧ v = 2) ∨ (bgK (lx_k T n (lx_st T n i)) ∧ ot = 20 ∧ v = 6)) {F : mv_M → Option (Int32 × mv_M)} {Q : Int32 → mv_M → mv_M → Prop} : J b h M0 N0 T n cnt f N (mv_bind (fX3_stop (nI v) M) fun _ M18 => some ((-1 : Int32), M18)) Q := by
  obtain ⟨q0, s0⟩ := r_pop hr
  have k11 := q0.2.2.2.2.2.2.2.2.2.2.2.2
  have et2 := rO_ta q0
  obtain ⟨M1, e1, e2⟩ := cO_stop (v := v) hx.1 hc (by omega) (by omega)
  obtain ⟨N1, f1, f2, f3⟩ := r_stop (v := v) q0 (by omega) (by omega)
  have eP : fX11_parse_26 N = fX11_parse_26 N1 := by
    refine P_go ((g_E hr hl).trans ?_)
    unfold fX11_onE
    rcases hv with ⟨g1, rfl⟩ | ⟨g1, rfl, rfl⟩
    · have bb := (r_begin q0).2 g1
      simp (disch := omega) only [bb, et2, f1, k_iT, k_iF, Bool.false_eq_true, eq_self, Nat.add_zero, k_lt', k_bs, k_T, k_F, k_inb, k_ck, k_nz, ↓kN, kL, k_lt, k_le, k_eq, kn_le, kn_lt, kn_eq, kn_le', kn_lt', kn_eq', nI_clamp, nI_add, k_sub, k_mul, k_div, rd_hi, rd_mi, rd_hl, rd_ml, rd_hr, rd_mr, rd_si2, rd_sl1, rd_sl2, rd_sr1, rd_sr2]
    · have bb := (r_begin q0).1 g1
      simp (disch := omega) only [bb, et2, k11, f1, k_iT, k_iF, Bool.false_eq_true, eq_self, Nat.add_zero, k_lt', k_bs, k_T, k_F, k_inb, k_ck, k_nz, ↓kN, kL, k_lt, k_le, k_eq, kn_le, kn_lt, kn_eq, kn_le', kn_lt', kn_eq', nI_clamp, nI_add, k_sub, k_mul, k_div, rd_hi, rd_mi, rd_hl, rd_ml, rd_hr, rd_mr, rd_si2, rd_sl1, rd_sl2, rd_sr1, rd_sr2]
  exact J_bs e1 (J_step eP (J_dead (ok_some e2) (P_fault f2)))
theorem Sp_E (hx : pX b h M0 N0 T n cnt f) : ∀ r o, o + r = 20 → ∀ k, 7 * r + 1 ≤ k → Sp b h M0 N0 T n cnt f o (RX3_parseE k 0 (nI o) 0) [(4, nI 0)] (20 * o) := by
  intro r
  induction r with
  | zero =>
    intro o ho k hk i m nd xn an L D W Y g M N hL hY hB hc hr
    have hr' : rO h N0 T n f i m xn an ((4, nI 0) :: L) D W Y o N := hr
    obtain rfl : o = 20 := by omega
    obtain ⟨j, rfl⟩ : ∃ j, k = j + 1 := ⟨k - 1, by omega⟩
    rw [RX3_parseE, if_pos rfl]
    unfold fX3_parseE
    refine J_T (by decide) ?_
    unfold fX3_parseE_13 fX3_parseE_27
    by_cases hbg : bgK (lx_k T n (lx_st T n i))
    · refine J_bs ((c_begin hx.1 hc).1 hbg) (J_F (by decide) ?_)
      exact j_stop (v := 6) hx hc hr' (by omega) (by omega) (.inr ⟨hbg, rfl, rfl⟩) (F := fun _ => none)
    · refine J_bs ((c_begin hx.1 hc).2 hbg) (J_T rfl ?_)
      exact j_stop (v := 2) hx hc hr' (by omega) (by omega) (.inl ⟨hbg, rfl⟩) (F := fun _ => none)
  | succ r ih =>
    intro o ho k hk i m nd xn an L D W Y g M N hL hY hB hc hr
    have hr' : rO h N0 T n f i m xn an ((4, nI 0) :: L) D W Y o N := hr
    have HE : ∀ k, 7 * r + 1 ≤ k → Sp b h M0 N0 T n cnt f (o + 1) (RX3_parseE k 0 (nI (o + 1)) 0) [(4, nI 0)] (20 * (o + 1)) := ih (o + 1) (by omega)
    have ek := cO_kind hx.1 hc
    have hv := vk_k (T := T) (n := n) (s := lx_st T n i)
    have hv2 : lx_k T n (lx_st T n i) < 2 ^ 31 := by unfold vk at hv; omega
    obtain ⟨j, rfl⟩ : ∃ j, k = j + 1 := ⟨k - 1, by omega⟩
    rw [RX3_parseE, if_pos rfl]
    unfold fX3_parseE
    refine J_F (by rw [kM, k_le (by omega) (by omega)]; omega) ?_
    by_cases hbg : bgK (lx_k T n (lx_st T n i))
    · refine J_bs ((c_begin hx.1 hc).1 hbg) (J_F (by decide) (J_bs ek ?_))
      have e1 : nI o + 1 = nI (o + 1) := nI_1 o
      rw [e1]
      by_cases h301 : lx_k T n (lx_st T n i) = 301
      · refine J_T (by rw [h301]; rfl) ?_
        exact J_bind (j_if (g := g) hx HE (k := j) (by omega) (by omega) (by omega) hL hY hB hc hr' h301) (fun nb pl r M' hd => ok_some hd) (fun r M' N' hq => J_some hq)
      refine J_F (by rw [kM, k_eq hv2 (by omega)]; exact h301) ?_
      by_cases h304 : lx_k T n (lx_st T n i) = 304
      · refine J_T (by rw [h304]; rfl) ?_
        exact J_bind (j_let (g := g) hx HE (k := j) (by omega) (by omega) (by omega) hL hY hB hc hr' h304) (fun nb pl r M' hd => ok_some hd) (fun r M' N' hq => J_some hq)
      refine J_F (by rw [kM, k_eq hv2 (by omega)]; exact h304) ?_
      by_cases h306 : lx_k T n (lx_st T n i) = 306
      · refine J_T (by rw [h306]; rfl) ?_
        exact J_bind (j_case (g := g) hx HE (k := j) (by omega) (by omega) (by omega) hL hY hB hc hr' h306) (fun nb pl r M' hd => ok_some hd) (fun r M' N' hq => J_some hq)
      refine J_F (by rw [kM, k_eq hv2 (by omega)]; exact h306) ?_
      -- sides
      obtain ⟨q0, s0⟩ := r_pop hr'
      have k11 := q0.2.2.2.2.2.2.2.2.2.2.2.2
      have bb := (r_begin q0).1 hbg
      obtain ⟨q1, s1⟩ := r_other (v := o + 1) q0
      obtain ⟨N2, p2, q2, s2⟩ := r_push (s := 5) (w := nI 0) q1 (by omega)
      have t2 := rO_tk q2
      obtain ⟨N3, p3, q3, s3⟩ := r_push (s := 11) (w := nI 0) q2 (by simp only [List.length_cons]; omega)
      obtain ⟨N4, p4, q4, s4⟩ := r_push (s := 6) (w := nI 0) q3 (by simp only [List.length_cons]; omega)
      have t5 := tkA hv (r := 5) (by omega)
      have t7 := tkA hv (r := 7) (by omega)
      have t2' := tkA hv (r := 2) (by omega)
      rw [kt5] at t5; rw [kt7] at t7; rw [kt2] at t2'
      have eP : fX11_parse_26 N = fX11_parse_26 N4 := by
        refine P_go ((g_E hr' (by omega)).trans ?_)
        unfold fX11_onE
        simp (disch := omega) only [bb, k11, p2, t2, t5, t7, t2', h301, h304, h306, p3, p4, k_iT, k_iF, Bool.false_eq_true, eq_self, Nat.add_zero, k_lt', k_bs, k_T, k_F, k_inb, k_ck, k_nz, ↓kN, kL, k_lt, k_le, k_eq, kn_le, kn_lt, kn_eq, kn_le', kn_lt', kn_eq', nI_clamp, nI_add, k_sub, k_mul, k_div, rd_hi, rd_mi, rd_hl, rd_ml, rd_hr, rd_mr, rd_si2, rd_sl1, rd_sl2, rd_sr1, rd_sr2]
      have s5 : rS N N4 := rS_trans s0 (rS_trans s1 (rS_trans s2 (rS_trans s3 s4)))
      have H3 : ∀ k, 7 * r + 4 ≤ k → Sp b h M0 N0 T n cnt f (o + 1) (RX3_parseE k 4 (nI (o + 1)) (nI (2 + 1))) [(sS (2 + 1), nI 0)] (20 * o + 4 + 2 * 2) := fun k hk => Sp_3 hx HE (by omega) (by omega) (by omega)
      have H2 : ∀ k, 7 * r + 5 ≤ k → Sp b h M0 N0 T n cnt f (o + 1) (RX3_parseE k 4 (nI (o + 1)) (nI (1 + 1))) [(sS (1 + 1), nI 0)] (20 * o + 4 + 2 * 1) := fun k hk => Sp_12 (t := 2) hx (.inr rfl) H3 (by omega) (by omega) (by omega)
      have H1 : ∀ k, 7 * r + 6 ≤ k → Sp b h M0 N0 T n cnt f (o + 1) (RX3_parseE k 4 (nI (o + 1)) (nI (0 + 1))) [(sS (0 + 1), nI 0)] (20 * o + 4 + 2 * 0) := fun k hk => Sp_12 (t := 1) hx (.inl rfl) H2 (by omega) (by omega) (by omega)
      refine J_step eP (J_bind (j_side (t := 0) (g := g) (L := (5, nI 0) :: L) hx (by omega) H1 (k := j) (by omega) (by omega) (by omega) (by simp only [List.length_cons]; omega) hY hB hc q4) (fun nb pl r M' hd => ok_some hd) (fun r M' N' hq => ?_))
      obtain ⟨N5, w1, w2⟩ := EQ_ende (by omega) hq s5
      rw [show lbB (20 * o + 2 + 2 * 0) = lbB (20 * o) by unfold lbB; omega] at w2
      exact J_step w1 (J_some w2)
    · refine J_bs ((c_begin hx.1 hc).2 hbg) (J_T rfl ?_)
      unfold fX3_parseE_13 fX3_parseE_27
      refine J_bs ((c_begin hx.1 hc).2 hbg) (J_T rfl ?_)
      exact j_stop (v := 2) hx hc hr' (by omega) (by omega) (.inl ⟨hbg, rfl⟩) (F := fun _ => none)
end JZ
