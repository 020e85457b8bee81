def wl (v : Nat → Nat) (W : List Int32) : Nat → List Int32
  | 0 => W
  | q + 1 => nI (v q) :: wl v W q
section JC
variable {b h n cnt f i m nd nb pl xn an ot x K k o t q : Nat} {L : List (Nat × Int32)} {D W Y : List Int32} {M M' M0 N N' N0 N1 N2 : mv_M} {T : Nat → Nat} {g : Nat → Nat → Nat} {v v' : Nat → Nat}
theorem wl_len : ∀ q, (wl v W q).length = W.length + q
  | 0 => rfl
  | q + 1 => by show (wl v W q).length + 1 = _; rw [wl_len q]; omega
theorem wl_congr : ∀ q, (∀ k, k < q → v' k = v k) → wl v' W q = wl v W q
  | 0, _ => rfl
  | q + 1, e => by
    show nI (v' q) :: wl v' W q = nI (v q) :: wl v W q
    rw [e q (by omega), wl_congr q (fun k hk => e k (by omega))]
theorem wl_lst {c : Nat} : ∀ q, lst N c (wl v W q) → lst N c W ∧ ∀ k, k < q → N.1 c (W.length + k) = nI (v k)
  | 0, a => ⟨a, fun k hk => by omega⟩
  | q + 1, a => by
    obtain ⟨a1, a2⟩ := a
    obtain ⟨b1, b2⟩ := wl_lst q a2
    refine ⟨b1, fun k hk => ?_⟩
    by_cases h : k < q
    · exact b2 k h
    · obtain rfl : k = q := by omega
      rw [← wl_len (v := v)]
      exact a1
theorem r_arg {w : Int32} (hr : rO h N0 T n f i m xn an ((20, nI x) :: L) (w :: D) W Y ot N) (hl : L.length + 5 < 3000) (hd : D.length < 1100) (hw : W.length < 1100) (hx : x < 2002) : (lx_k T n (lx_st T n i) = 44 → ∃ N', rO h N0 T n f i m xn an ((4, nI 0) :: (20, nI x) :: L) D (w :: W) Y ot N' ∧ rS N N' ∧ ∀ N'', fX11_pass N' = some ((), N'') → fX11_parse_26 N = fX11_parse_26 N'') ∧ (lx_k T n (lx_st T n i) ≠ 44 → ∃ N', fX11_parse_26 N = fX11_parse_26 N' ∧ rO h N0 T n f i m xn an ((1, nI 15) :: (21, nI x) :: L) D (w :: W) Y ot N' ∧ rS N N') := by
  have hv := vk_k (T := T) (n := n) (s := lx_st T n i)
  have t16 := tkA hv (r := 16) (by omega)
  rw [kt16] at t16
  obtain ⟨q0, s0⟩ := r_pop hr
  obtain ⟨N2, p2, q2, s2⟩ := r_last q0 hd
  obtain ⟨q3, s3⟩ := r_wait (v := w) q2
  have et := rO_tk q2
  have k7 : N.1 62 32 = nI W.length := hr.2.2.2.2.2.2.2.2.2.2.1.1
  have k8 : N2.1 62 32 = nI W.length := q2.2.2.2.2.2.2.2.2.2.2.1.1
  constructor
  · intro hk
    obtain ⟨N4, p4, q4, s4⟩ := r_push (s := 20) (w := nI x) q3 (by omega)
    obtain ⟨N5, p5, q5, s5⟩ := r_push (s := 4) (w := nI 0) q4 (by simp only [List.length_cons]; omega)
    refine ⟨N5, q5, rS_trans s0 (rS_trans s2 (rS_trans s3 (rS_trans s4 s5))), fun N'' e => P_go ((g_rest hr (by omega) (by omega)).trans ?_)⟩
    unfold fX11_onRest
    rw [hk] at et
    simp (disch := omega) only [p2, k7, k8, et, show lx_tk 44 = 16 from rfl, p4, p5, e, k_iT, k_iF, Bool.false_eq_true, eq_self, Nat.add_zero, k_lt', k_bs, k_T, k_F, k_inb, k_ck, k_nz, ↓kN, kL, k_lt, k_le, k_eq, kn_le, kn_lt, kn_eq, kn_le', kn_lt', kn_eq', nI_clamp, nI_add, k_sub, k_mul, k_div, rd_hi, rd_mi, rd_hl, rd_ml, rd_hr, rd_mr, rd_si2, rd_sl1, rd_sl2, rd_sr1, rd_sr2]
  · intro hk
    obtain ⟨N4, p4, q4, s4⟩ := r_push (s := 21) (w := nI x) q3 (by omega)
    obtain ⟨N5, p5, q5, s5⟩ := r_push (s := 1) (w := nI 15) q4 (by simp only [List.length_cons]; omega)
    refine ⟨N5, P_go ((g_rest hr (by omega) (by omega)).trans ?_), q5, rS_trans s0 (rS_trans s2 (rS_trans s3 (rS_trans s4 s5)))⟩
    unfold fX11_onRest
    simp (disch := omega) only [p2, k7, k8, et, t16, hk, p4, p5, k_iT, k_iF, Bool.false_eq_true, eq_self, Nat.add_zero, k_lt', k_bs, k_T, k_F, k_inb, k_ck, k_nz, ↓kN, kL, k_lt, k_le, k_eq, kn_le, kn_lt, kn_eq, kn_le', kn_lt', kn_eq', nI_clamp, nI_add, k_sub, k_mul, k_div, rd_hi, rd_mi, rd_hl, rd_ml, rd_hr, rd_mr, rd_si2, rd_sl1, rd_sl2, rd_sr1, rd_sr2]
/-- the arguments that wait are laid -/
theorem r_lay {w : Nat} (x4 : Int32) (hw : w + q ≤ 1100) (ha : an + q ≤ 2002) : ∀ (d k : Nat) (N : mv_M), k + d = q → N.1 62 32 = nI (w + q) → N.1 62 30 = nI (an + k) → ∃ N1, fX11_onRest_304 (nI x) x4 (nI (w + k)) N = fX11_onRest_304 (nI x) x4 (nI (w + q)) N1 ∧ N1.1 62 30 = nI (an + q) ∧ (∀ c j, ¬ (c = 62 ∧ j = 30) → ¬ (c = 78 ∧ an + k ≤ j ∧ j < an + q) → N1.1 c j = N.1 c j) ∧ N1.2 = N.2 ∧ (∀ j, k ≤ j → j < q → N1.1 78 (an + j) = N.1 80 (w + j)) := by
  intro d
  induction d with
  | zero =>
    intro k N hk h1 h2
    obtain rfl : k = q := by omega
    exact ⟨N, rfl, h2, fun _ _ _ _ => rfl, rfl, fun j z1 z2 => by omega⟩
  | succ d ih =>
    intro k N hk h1 h2
    obtain ⟨N1, e1, e2, e3, e4, e5⟩ := ih (k + 1) (mv_si (mv_si N 78 (an + k) (N.1 80 (w + k))) 62 30 (nI (an + k + 1))) (by omega) (by simp (disch := omega) only [rd_hi, rd_mi, rd_hl, rd_ml, rd_hr, rd_mr, rd_si2, rd_sl1, rd_sl2, rd_sr1, rd_sr2]; exact h1) (by simp (disch := omega) only [rd_hi, rd_mi, rd_hl, rd_ml, rd_hr, rd_mr, rd_si2, rd_sl1, rd_sl2, rd_sr1, rd_sr2]; rw [Nat.add_assoc])
    refine ⟨N1, ?_, e2, fun c j z1 z2 => ?_, e4, fun j z1 z2 => ?_⟩
    · rw [← e1]
      unfold fX11_onRest_304
      refine lp_go (s' := (nI x, x4, nI (w + (k + 1)))) ?_
      show gX11_onRest_304 _ _ _ _ = _
      have ee : w + k + 1 = w + (k + 1) := by omega
      unfold gX11_onRest_304
      simp (disch := omega) only [h1, h2, ee, k_iT, k_iF, Bool.false_eq_true, eq_self, Nat.add_zero, k_lt', k_bs, k_T, k_F, k_inb, k_ck, k_nz, ↓kN, kL, k_lt, k_le, k_eq, kn_le, kn_lt, kn_eq, kn_le', kn_lt', kn_eq', nI_clamp, nI_add, k_sub, k_mul, k_div, rd_hi, rd_mi, rd_hl, rd_ml, rd_hr, rd_mr, rd_si2, rd_sl1, rd_sl2, rd_sr1, rd_sr2]
    · rw [e3 c j z1 (by omega)]
      simp (disch := omega) only [rd_hi, rd_mi, rd_hl, rd_ml, rd_hr, rd_mr, rd_si2, rd_sl1, rd_sl2, rd_sr1, rd_sr2]
    · by_cases hj : k + 1 ≤ j
      · rw [e5 j hj z2]
        simp (disch := omega) only [rd_hi, rd_mi, rd_hl, rd_ml, rd_hr, rd_mr, rd_si2, rd_sl1, rd_sl2, rd_sr1, rd_sr2]
      · obtain rfl : j = k := by omega
        rw [e3 78 (an + j) (by omega) (by omega)]
        simp (disch := omega) only [rd_hi, rd_mi, rd_hl, rd_ml, rd_hr, rd_mr, rd_si2, rd_sl1, rd_sl2, rd_sr1, rd_sr2]
theorem r_closed (hh : h ≤ 1) (hr : rO h N0 T n f i m xn an ((21, nI x) :: L) D (wl v W q) Y ot N) (hm : N.1 73 x = nI W.length) (hl : L.length < 3000) (hd : D.length < 1100) (hw : W.length + q < 1100) (hxx : 1001 * h ≤ x ∧ x < 1001 * h + 1001) (ha : 1001 * h ≤ an ∧ an + q ≤ 1001 * h + 1001) : ∃ N', fX11_parse_26 N = fX11_parse_26 N' ∧ rO h N0 T n f i m xn (an + q) L (nI x :: D) W Y ot N' ∧ N'.1 72 x = nI an ∧ N'.1 73 x = nI q ∧ (∀ k, k < q → N'.1 78 (an + k) = nI (v k)) ∧ (∀ c k, ¬ ((c = 62 ∧ ((3 ≤ k ∧ k ≤ 10) ∨ k = 30 ∨ k = 32 ∨ k = 36 ∨ k = 38 ∨ k = 40 ∨ k = 41)) ∨ (80 ≤ c ∧ c ≤ 84)) → ¬ (c = 72 ∧ k = x) → ¬ (c = 73 ∧ k = x) → ¬ (c = 78 ∧ an ≤ k) → N'.1 c k = N.1 c k) ∧ (∀ c k, ¬ (c = 62 ∧ k = 7) → N'.2.1 c k = N.2.1 c k) := by
  obtain ⟨q0, s0⟩ := r_pop hr
  have q1 := rO_si (c := 73) (k := x) (v := nI q) (rO_si (c := 72) (k := x) (v := nI an) q0 hh (by omega)) hh (by omega)
  obtain ⟨k1, k2, ⟨k3, k4⟩, ⟨k5, k6⟩, ⟨k7, k8⟩, ⟨k9, k10⟩, k11⟩ := q1.2.2.2.2.2.2
  rw [wl_len] at k7
  obtain ⟨w1, w2⟩ := wl_lst q k8
  obtain ⟨N1, e1, e2, e3, e4, e5⟩ := r_lay (x := x) (an := an) (w := W.length) (q := q) (nI W.length) (by omega) (by omega) q 0 _ (by omega) k7 k2
  rw [Nat.add_zero] at e1
  have q2 : rO h N0 T n f i m xn (an + q) L D W Y ot (mv_si N1 62 32 (nI W.length)) := by
    obtain ⟨a1, a2, a3, a4, a5, a6, a7⟩ := q1
    refine ⟨⟨fun c k z => ?_, fun c k z => ?_, ?_⟩, ?_, ?_, r_at_congr a4 (fun j u1 u2 => ?_) ?_, ?_, ?_, ⟨?_, ?_, ⟨?_, stk_congr k4 (fun c k u1 u2 => ?_)⟩, ⟨?_, lst_congr k6 (fun k u => ?_)⟩, ⟨by simp (disch := omega) only [rd_hi, rd_mi, rd_hl, rd_ml, rd_hr, rd_mr, rd_si2, rd_sl1, rd_sl2, rd_sr1, rd_sr2], lst_congr w1 (fun k u => ?_)⟩, ⟨?_, lst_congr k10 (fun k u => ?_)⟩, ?_⟩⟩
    · have z' := z
      unfold rWa at z'
      simp (disch := omega) only [rd_hi, rd_mi, rd_hl, rd_ml, rd_hr, rd_mr, rd_si2, rd_sl1, rd_sl2, rd_sr1, rd_sr2]
      rw [e3 c k (by omega) (by omega)]
      exact a1.1 c k z
    · show N1.2.1 c k = _
      rw [e4]
      exact a1.2.1 c k z
    · show N1.2.2 = _
      rw [e4]
      exact a1.2.2
    · simp (disch := omega) only [rd_hi, rd_mi, rd_hl, rd_ml, rd_hr, rd_mr, rd_si2, rd_sl1, rd_sl2, rd_sr1, rd_sr2]; rw [e3 _ _ (by omega) (by omega)]; exact a2
    · simp (disch := omega) only [rd_hi, rd_mi, rd_hl, rd_ml, rd_hr, rd_mr, rd_si2, rd_sl1, rd_sl2, rd_sr1, rd_sr2]; rw [e3 _ _ (by omega) (by omega)]; exact a3
    · simp (disch := omega) only [rd_hi, rd_mi, rd_hl, rd_ml, rd_hr, rd_mr, rd_si2, rd_sl1, rd_sl2, rd_sr1, rd_sr2]; rw [e3 _ _ (by omega) (by omega)]; simp (disch := omega) only [rd_hi, rd_mi, rd_hl, rd_ml, rd_hr, rd_mr, rd_si2, rd_sl1, rd_sl2, rd_sr1, rd_sr2]
    · show N1.2.1 62 7 = _; rw [e4]
    · simp (disch := omega) only [rd_hi, rd_mi, rd_hl, rd_ml, rd_hr, rd_mr, rd_si2, rd_sl1, rd_sl2, rd_sr1, rd_sr2]; rw [e3 _ _ (by omega) (by omega)]; exact a5
    · simp (disch := omega) only [rd_hi, rd_mi, rd_hl, rd_ml, rd_hr, rd_mr, rd_si2, rd_sl1, rd_sl2, rd_sr1, rd_sr2]; rw [e3 _ _ (by omega) (by omega)]; exact a6
    · simp (disch := omega) only [rd_hi, rd_mi, rd_hl, rd_ml, rd_hr, rd_mr, rd_si2, rd_sl1, rd_sl2, rd_sr1, rd_sr2]; rw [e3 _ _ (by omega) (by omega)]; exact k1
    · simp (disch := omega) only [rd_hi, rd_mi, rd_hl, rd_ml, rd_hr, rd_mr, rd_si2, rd_sl1, rd_sl2, rd_sr1, rd_sr2]; exact e2
    · simp (disch := omega) only [rd_hi, rd_mi, rd_hl, rd_ml, rd_hr, rd_mr, rd_si2, rd_sl1, rd_sl2, rd_sr1, rd_sr2]; rw [e3 _ _ (by omega) (by omega)]; exact k3
    · simp (disch := omega) only [rd_hi, rd_mi, rd_hl, rd_ml, rd_hr, rd_mr, rd_si2, rd_sl1, rd_sl2, rd_sr1, rd_sr2]; rw [e3 _ _ (by omega) (by omega)]; simp (disch := omega) only [rd_hi, rd_mi, rd_hl, rd_ml, rd_hr, rd_mr, rd_si2, rd_sl1, rd_sl2, rd_sr1, rd_sr2]
    · simp (disch := omega) only [rd_hi, rd_mi, rd_hl, rd_ml, rd_hr, rd_mr, rd_si2, rd_sl1, rd_sl2, rd_sr1, rd_sr2]; rw [e3 _ _ (by omega) (by omega)]; exact k5
    · simp (disch := omega) only [rd_hi, rd_mi, rd_hl, rd_ml, rd_hr, rd_mr, rd_si2, rd_sl1, rd_sl2, rd_sr1, rd_sr2]; rw [e3 _ _ (by omega) (by omega)]; simp (disch := omega) only [rd_hi, rd_mi, rd_hl, rd_ml, rd_hr, rd_mr, rd_si2, rd_sl1, rd_sl2, rd_sr1, rd_sr2]
    · simp (disch := omega) only [rd_hi, rd_mi, rd_hl, rd_ml, rd_hr, rd_mr, rd_si2, rd_sl1, rd_sl2, rd_sr1, rd_sr2]; rw [e3 _ _ (by omega) (by omega)]; simp (disch := omega) only [rd_hi, rd_mi, rd_hl, rd_ml, rd_hr, rd_mr, rd_si2, rd_sl1, rd_sl2, rd_sr1, rd_sr2]
    · simp (disch := omega) only [rd_hi, rd_mi, rd_hl, rd_ml, rd_hr, rd_mr, rd_si2, rd_sl1, rd_sl2, rd_sr1, rd_sr2]; rw [e3 _ _ (by omega) (by omega)]; exact k9
    · simp (disch := omega) only [rd_hi, rd_mi, rd_hl, rd_ml, rd_hr, rd_mr, rd_si2, rd_sl1, rd_sl2, rd_sr1, rd_sr2]; rw [e3 _ _ (by omega) (by omega)]; simp (disch := omega) only [rd_hi, rd_mi, rd_hl, rd_ml, rd_hr, rd_mr, rd_si2, rd_sl1, rd_sl2, rd_sr1, rd_sr2]
    · simp (disch := omega) only [rd_hi, rd_mi, rd_hl, rd_ml, rd_hr, rd_mr, rd_si2, rd_sl1, rd_sl2, rd_sr1, rd_sr2]; rw [e3 _ _ (by omega) (by omega)]; exact k11
  obtain ⟨N3, p3, q3, s3⟩ := r_make (v := nI x) q2 hd
  have eP : fX11_parse_26 N = fX11_parse_26 N3 := by
    refine P_go ((g_rest hr (by omega) hl).trans ?_)
    have ee : W.length + q - W.length = q := by omega
    have kk7 : (mv_si N 62 36 (nI L.length)).1 62 32 = nI (W.length + q) := by
      have := q0.2.2.2.2.2.2.2.2.2.2.1.1
      rw [wl_len] at this
      exact this
    have kk2 : (mv_si N 62 36 (nI L.length)).1 62 30 = nI an := q0.2.2.2.2.2.2.2.1
    have hm' : (mv_si N 62 36 (nI L.length)).1 73 x = nI W.length := by simp (disch := omega) only [rd_hi, rd_mi, rd_hl, rd_ml, rd_hr, rd_mr, rd_si2, rd_sl1, rd_sl2, rd_sr1, rd_sr2]; exact hm
    have last : fX11_onRest_304 (nI x) (nI W.length) (nI (W.length + q)) N1 = some ((), N3) := by
      have k7' : N1.1 62 32 = nI (W.length + q) := by rw [e3 _ _ (by omega) (by omega)]; exact k7
      unfold fX11_onRest_304
      refine lp_out (t := ()) ?_
      show gX11_onRest_304 _ _ _ _ = _
      unfold gX11_onRest_304
      simp (disch := omega) only [k7', p3, k_iT, k_iF, Bool.false_eq_true, eq_self, Nat.add_zero, k_lt', k_bs, k_T, k_F, k_inb, k_ck, k_nz, ↓kN, kL, k_lt, k_le, k_eq, kn_le, kn_lt, kn_eq, kn_le', kn_lt', kn_eq', nI_clamp, nI_add, k_sub, k_mul, k_div, rd_hi, rd_mi, rd_hl, rd_ml, rd_hr, rd_mr, rd_si2, rd_sl1, rd_sl2, rd_sr1, rd_sr2]
    unfold fX11_onRest
    generalize mv_si N 62 36 (nI L.length) = NZ at *
    simp (disch := omega) only [hm', kk2, kk7, ee, e1, last, k_iT, k_iF, Bool.false_eq_true, eq_self, Nat.add_zero, k_lt', k_bs, k_T, k_F, k_inb, k_ck, k_nz, ↓kN, kL, k_lt, k_le, k_eq, kn_le, kn_lt, kn_eq, kn_le', kn_lt', kn_eq', nI_clamp, nI_add, k_sub, k_mul, k_div, rd_hi, rd_mi, rd_hl, rd_ml, rd_hr, rd_mr, rd_si2, rd_sl1, rd_sl2, rd_sr1, rd_sr2]
  have fr : ∀ c k, ¬ ((c = 62 ∧ ((3 ≤ k ∧ k ≤ 10) ∨ k = 30 ∨ k = 32 ∨ k = 36 ∨ k = 38 ∨ k = 40 ∨ k = 41)) ∨ (80 ≤ c ∧ c ≤ 84)) → ¬ (c = 78 ∧ an ≤ k) → N3.1 c k = (mv_si (mv_si (mv_si N 62 36 (nI L.length)) 72 x (nI an)) 73 x (nI q)).1 c k := by
    intro c k z1 z2
    rw [s3.1 c k (by omega)]
    simp (disch := omega) only [rd_hi, rd_mi, rd_hl, rd_ml, rd_hr, rd_mr, rd_si2, rd_sl1, rd_sl2, rd_sr1, rd_sr2]
    rw [e3 c k (by omega) (by omega)]
    try simp (disch := omega) only [rd_hi, rd_mi, rd_hl, rd_ml, rd_hr, rd_mr, rd_si2, rd_sl1, rd_sl2, rd_sr1, rd_sr2]
  refine ⟨N3, eP, q3, ?_, ?_, fun k hk => ?_, fun c k z1 z2 z3 z4 => ?_, fun c k z => ?_⟩
  · rw [fr _ _ (by omega) (by omega)]; simp (disch := omega) only [rd_hi, rd_mi, rd_hl, rd_ml, rd_hr, rd_mr, rd_si2, rd_sl1, rd_sl2, rd_sr1, rd_sr2]
  · rw [fr _ _ (by omega) (by omega)]; simp (disch := omega) only [rd_hi, rd_mi, rd_hl, rd_ml, rd_hr, rd_mr, rd_si2, rd_sl1, rd_sl2, rd_sr1, rd_sr2]
  · rw [s3.1 _ _ (by omega)]
    simp (disch := omega) only [rd_hi, rd_mi, rd_hl, rd_ml, rd_hr, rd_mr, rd_si2, rd_sl1, rd_sl2, rd_sr1, rd_sr2]
    rw [e5 k (by omega) hk]
    exact w2 k hk
  · rw [fr c k z1 z4]
    simp (disch := omega) only [rd_hi, rd_mi, rd_hl, rd_ml, rd_hr, rd_mr, rd_si2, rd_sl1, rd_sl2, rd_sr1, rd_sr2]
  · rw [s3.2 c k z]
    show N1.2.1 c k = _
    rw [e4]
    rfl
/-- a call is done -/
theorem EQ_call {H Hc i' m' xn' an' p a c t x : Nat} {e : Nat → Nat} {gz : Nat → Nat → Nat} {r : Int32} (hr : r = nI c) (hc : cO b M0 T n cnt f i' m' (c + 1) M') (hrO : rO h N0 T n f i' m' xn' an' L (nI x :: D) W Y ot N') (hb : i < i' ∧ nd ≤ c ∧ m ≤ m' ∧ xn < xn' ∧ an ≤ an' ∧ c + 1 + i ≤ nd + i' ∧ xn' + i ≤ xn + i' ∧ an' + 1 + i ≤ an + i') (S : TI b T n gz nd c xn xn' m m' an' M' N') (hne : ∀ c', nd ≤ c' → c' < c → gz 0 c' ≠ x) (hx : xn ≤ x ∧ x < xn') (ht : t ≤ 1000 ∧ lx_st T n t < n) (e14 : M'.1 (b + 14) c = nI t) (e75 : N'.1 75 x = nI (lx_st T n t)) (e8 : M'.1 (b + 8) c = nI 5) (e71 : N'.1 71 x = nI 8) (hk : lx_k T n (lx_st T n t) = 2) (e77 : N'.2.1 77 x = lx_tx T n (lx_st T n t)) (hp : p ≤ 1000) (e11 : M'.1 (b + 11) c = nI p) (e73 : N'.1 73 x = nI p) (e72 : N'.1 72 x = nI a) (hap : a + p ≤ an' ∧ 1001 * (x / 1001) ≤ a) (hp0 : p = 0 → nd = c) (hp1 : 0 < p → M'.1 (b + 10) c = nI (e 0) ∧ nd = gz 1 (e 0) ∧ e (p - 1) + 1 = c) (hp2 : ∀ k, k + 1 < p → e k + 1 < c ∧ gz 1 (e (k + 1)) = e k + 1 ∧ M'.1 (b + 12) (e k) = nI (e (k + 1))) (hp3 : ∀ k, k < p → e k < c ∧ nd ≤ e k ∧ N'.1 78 (a + k) = nI (gz 0 (e k))) (hg : gA nd m g gz) (hnm : NM b h f m m' M' N') (hcE : cE b f m nd M M') (hrE : rE h f m xn an N N') (hlb : LB gz nd c Hc) (hH : Hc < H) : EQ H b h M0 N0 T n cnt f i m nd xn an L D W Y ot g M N r M' N' := by
  refine ⟨i', m', c, xn', an', gU gz c x nd, hr, hc, by rw [gU_0]; exact hrO, by omega, gU_1, ?_, gA_trans hg (gA_U (by omega)) (Nat.le_refl _) (Nat.le_refl _), hnm, hcE, hrE, LB_root (LB_congr hlb (fun k _ z => gU_ne (by omega))) hH⟩
  refine TI_snoc (TI_congr S (fun _ _ _ _ _ _ _ => rfl) (fun _ _ _ _ _ _ => rfl) (fun _ _ _ => rfl) (fun _ _ => rfl) (fun k _ z => ⟨gU_ne (by omega), gU_ne (by omega)⟩) (fun k _ _ => gU_2)) (by rw [gU_0]; exact hx) (fun c' z1 z2 => by rw [gU_0, gU_ne (by omega)]; exact hne c' z1 z2) (by rw [gU_1]; omega) ⟨t, ht, e14, by rw [gU_0]; exact e75, .inr (.inl ⟨e8, by rw [gU_0]; exact e71, hk, by rw [gU_0]; exact e77, p, a, e, hp, e11, by rw [gU_0]; exact e73, by rw [gU_0]; exact e72, by rw [gU_0]; exact hap, fun z => ?_, fun z => ?_, fun k z => ?_, fun k z => ?_⟩)⟩
  · rw [gU_1]; exact hp0 z
  · have := hp3 0 z
    rw [gU_1, gU_ne (by omega)]; exact hp1 z
  · have := hp3 (k + 1) z
    rw [gU_ne (by omega)]; exact hp2 k z
  · have := hp3 k z
    rw [gU_1, gU_ne (by omega)]; exact this
end JC
