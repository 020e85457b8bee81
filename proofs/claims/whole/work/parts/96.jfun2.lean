/-! one function is read: its title -/
section FV
variable {α β : Type} {b h n cnt f i m nd nb pl xn an ot p F : Nat} {M M' M0 M1 M2 N N' N0 N1 N2 : mv_M} {T : Nat → Nat}
theorem si_comm {c k c' k' : Nat} {v v' : Int32} (hne : ¬ (c = c' ∧ k = k')) : mv_si (mv_si M c k v) c' k' v' = mv_si (mv_si M c' k' v') c k v := by
  have : ∀ x y, (mv_si (mv_si M c k v) c' k' v').1 x y = (mv_si (mv_si M c' k' v') c k v).1 x y := by
    intro x y
    rw [rd_si, rd_si, rd_si, rd_si]
    by_cases h1 : x = c' ∧ y = k'
    · by_cases h2 : x = c ∧ y = k
      · omega
      · rw [if_pos h1, if_neg h2, if_pos h1]
    · rw [if_neg h1, if_neg h1]
  exact Prod.ext (funext fun x => funext fun y => this x y) rfl
theorem sl_comm {c k c' k' : Nat} {v : Int32} {v' : Int64} : mv_sl (mv_si M c k v) c' k' v' = mv_si (mv_sl M c' k' v') c k v := rfl
theorem cS_kind (hx : cX b M0 T n cnt) (h : cS b M0 T n cnt F i nd M) : fX3_kind M = some (nI (lx_k T n (lx_st T n i)), M) := by
  obtain ⟨hW, h3, hi, hi2, _⟩ := h
  obtain ⟨a1, a2, a3, a4, a5⟩ := cW_tok hx hW
  obtain ⟨b1, b2, b3⟩ := tk_kind hx hi hi2
  have hcnt := hx.2.2.1.2.1
  unfold fX3_kind fX8_kindOf
  simp (disch := omega) only [h3, a1, a2, b1, k_iT, k_iF, Bool.false_eq_true, eq_self, Nat.add_zero, k_lt', k_bs, k_T, k_F, k_inb, k_ck, k_nz, ↓kN, kL, k_lt, k_le, k_eq, kn_le, kn_lt, kn_eq, kn_le', kn_lt', kn_eq', nI_clamp, nI_add, k_sub, k_mul, k_div, rd_hi, rd_mi, rd_hl, rd_ml, rd_hr, rd_mr, rd_si2, rd_sl1, rd_sl2, rd_sr1, rd_sr2]
theorem cS_stop {v : Nat} (hx : cX b M0 T n cnt) (h : cS b M0 T n cnt F i nd M) (h1 : 2 ≤ v) (h2 : v ≤ 6) : ∃ M', fX3_stop (nI v) M = some ((), M') ∧ cZ b M0 cnt v (lx_st T n i) M' := by
  have hb := hx.1
  obtain ⟨hW, h3, hi, hi2, hk, hm, hm2, hnd, hnd2, h10⟩ := h
  obtain ⟨a1, a2, a3, a4, a5⟩ := cW_tok hx hW
  obtain ⟨b1, b2, b3⟩ := tk_kind hx hi hi2
  have b4 : lx_k T n (lx_st T n i) < 2 ^ 31 := by have := vk_k (T := T) (n := n) (s := lx_st T n i); unfold vk at this; omega
  have hcnt := hx.2.2.1.2.1
  refine ⟨mv_si (mv_si (mv_si M 1 0 (nI v)) 1 1 (nI (lx_st T n i))) 3 3 (nI cnt), ?_, ⟨⟨fun c k z1 z2 z3 => ?_, hW.2.1, hW.2.2⟩, by simp (disch := omega) only [rd_hi, rd_mi, rd_hl, rd_ml, rd_hr, rd_mr, rd_si2, rd_sl1, rd_sl2, rd_sr1, rd_sr2], by omega, by omega, by simp (disch := omega) only [rd_hi, rd_mi, rd_hl, rd_ml, rd_hr, rd_mr, rd_si2, rd_sl1, rd_sl2, rd_sr1, rd_sr2], by simp (disch := omega) only [rd_hi, rd_mi, rd_hl, rd_ml, rd_hr, rd_mr, rd_si2, rd_sl1, rd_sl2, rd_sr1, rd_sr2]⟩⟩
  · unfold fX3_stop fX3_stop_17 fX3_kind fX8_kindOf fX8_startOf fX0_tell
    simp (disch := omega) only [h3, a1, a2, a3, b1, b2, h10, hk, k_iT, k_iF, Bool.false_eq_true, eq_self, Nat.add_zero, k_lt', k_bs, k_T, k_F, k_inb, k_ck, k_nz, ↓kN, kL, k_lt, k_le, k_eq, kn_le, kn_lt, kn_eq, kn_le', kn_lt', kn_eq', nI_clamp, nI_add, k_sub, k_mul, k_div, rd_hi, rd_mi, rd_hl, rd_ml, rd_hr, rd_mr, rd_si2, rd_sl1, rd_sl2, rd_sr1, rd_sr2]
  · simp (disch := omega) only [rd_hi, rd_mi, rd_hl, rd_ml, rd_hr, rd_mr, rd_si2, rd_sl1, rd_sl2, rd_sr1, rd_sr2]
    exact hW.1 c k z1 z2 z3
/-- .. and where it stands at what is no token: the fault is told there -/
theorem cBd_stop (hx : cX b M0 T n cnt) (h : cBd b M0 T n cnt nb pl M) {v : Int32} : ∃ M', fX3_stop v M = some ((), M') ∧ cZ b M0 cnt nb pl M' := by
  have hb := hx.1
  obtain ⟨hW, h10, rfl, _, i, hi, hi2, h3, hk, rfl⟩ := h
  obtain ⟨a1, a2, a3, a4, a5⟩ := cW_tok hx hW
  obtain ⟨b1, b2, b3⟩ := tk_kind hx (by omega) hi2
  have hcnt := hx.2.2.1.2.1
  rw [hk] at b1
  refine ⟨mv_si (mv_si (mv_si M 1 0 (nI 1)) 1 1 (nI (lx_st T n i))) 3 3 (nI cnt), ?_, ⟨⟨fun c k z1 z2 z3 => ?_, hW.2.1, hW.2.2⟩, by simp (disch := omega) only [rd_hi, rd_mi, rd_hl, rd_ml, rd_hr, rd_mr, rd_si2, rd_sl1, rd_sl2, rd_sr1, rd_sr2], by omega, by omega, by simp (disch := omega) only [rd_hi, rd_mi, rd_hl, rd_ml, rd_hr, rd_mr, rd_si2, rd_sl1, rd_sl2, rd_sr1, rd_sr2], by simp (disch := omega) only [rd_hi, rd_mi, rd_hl, rd_ml, rd_hr, rd_mr, rd_si2, rd_sl1, rd_sl2, rd_sr1, rd_sr2]⟩⟩
  · unfold fX3_stop fX3_stop_17 fX3_kind fX8_kindOf fX8_startOf fX0_tell
    simp (disch := omega) only [h3, a1, a2, a3, b1, b2, h10, k_iT, k_iF, Bool.false_eq_true, eq_self, Nat.add_zero, k_lt', k_bs, k_T, k_F, k_inb, k_ck, k_nz, ↓kN, kL, k_lt, k_le, k_eq, kn_le, kn_lt, kn_eq, kn_le', kn_lt', kn_eq', nI_clamp, nI_add, k_sub, k_mul, k_div, rd_hi, rd_mi, rd_hl, rd_ml, rd_hr, rd_mr, rd_si2, rd_sl1, rd_sl2, rd_sr1, rd_sr2]
  · simp (disch := omega) only [rd_hi, rd_mi, rd_hl, rd_ml, rd_hr, rd_mr, rd_si2, rd_sl1, rd_sl2, rd_sr1, rd_sr2]
    exact hW.1 c k z1 z2 z3
theorem r_passR {mr : Nat} (ht : r_tape N T n) (hr : rC h N0 T n f i mr N) (hn : lx_st T n i < n) (hi : i < 1000) : ∃ N', fX11_pass N = some ((), N') ∧ r_tkf N N' ∧ (lx_k T n (lx_st T n (i + 1)) = 1 → rFt h f N0 1 (lx_st T n (i + 1)) N') ∧ (lx_k T n (lx_st T n (i + 1)) ≠ 1 → rC h N0 T n f (i + 1) mr N') := by
  obtain ⟨a1, a2, a3, a4, a5, a6⟩ := hr
  rw [if_pos hn] at a5
  obtain ⟨q1, q2, q3, q4, q5⟩ := a4
  rw [if_pos hn] at q3
  have he := lx_end_le (T := T) hn
  obtain ⟨N', e1, e2, e3, e4, e5, e6⟩ := r_next ht he.2 q3 a5 a6
  have est : lx_sk T n (lx_end T n (lx_st T n i)) = lx_st T n (i + 1) := rfl
  rw [est] at e2 e3 e4 e5
  refine ⟨N', ?_, e6, fun hb1 => ⟨(e4 hb1).1, by omega, by omega, (e4 hb1).2, rW_tk a1 e6, (e6.1 _ _ (by omega)).trans a2⟩, fun hb1 => ⟨rW_tk a1 e6, (e6.1 _ _ (by omega)).trans a2, (e6.1 _ _ (by omega)).trans a3, e2, e3, (e5 hb1).1⟩⟩
  unfold fX11_pass fX11_pass_27
  simp (disch := omega) only [a6, a5, e1, k_iT, k_iF, Bool.false_eq_true, eq_self, Nat.add_zero, k_lt', k_bs, k_T, k_F, k_inb, k_ck, k_nz, ↓kN, kL, k_lt, k_le, k_eq, kn_le, kn_lt, kn_eq, kn_le', kn_lt', kn_eq', nI_clamp, nI_add, k_sub, k_mul, k_div, rd_hi, rd_mi, rd_hl, rd_ml, rd_hr, rd_mr, rd_si2, rd_sl1, rd_sl2, rd_sr1, rd_sr2]
theorem r_passS {mr : Nat} (hr : rC h N0 T n f i mr N) (hn : lx_st T n i < n) (hi : i = 1000) : ∃ N', fX11_pass N = some ((), N') ∧ rFt h f N0 6 (lx_st T n i) N' := by
  obtain ⟨N', f1, f2⟩ := rA_stop (v := 6) hr (by omega) (by omega)
  refine ⟨N', ?_, f2⟩
  obtain ⟨a1, a2, a3, a4, a5, a6⟩ := hr
  rw [if_pos hn] at a5
  have q1 := a4.1
  have g1 := f2.1
  unfold fX11_pass fX11_pass_27
  simp (disch := omega) only [a6, a5, q1, f1, g1, k_iT, k_iF, Bool.false_eq_true, eq_self, Nat.add_zero, k_lt', k_bs, k_T, k_F, k_inb, k_ck, k_nz, ↓kN, kL, k_lt, k_le, k_eq, kn_le, kn_lt, kn_eq, kn_le', kn_lt', kn_eq', nI_clamp, nI_add, k_sub, k_mul, k_div, rd_hi, rd_mi, rd_hl, rd_ml, rd_hr, rd_mr, rd_si2, rd_sl1, rd_sl2, rd_sr1, rd_sr2]
/-- the reference's definition behind a fault at its title -/
theorem rZ_stop {v : Nat} (hr : rSt h N0 T n F i xn an N) (h1 : 2 ≤ v) (h2 : v ≤ 6) : fX11_stop (nI v) (N.1 62 5) N = some ((), mv_si (mv_si N 62 9 (nI v)) 62 10 (nI (lx_st T n i))) ∧ rZ h N0 v (lx_st T n i) (mv_si (mv_si N 62 9 (nI v)) 62 10 (nI (lx_st T n i))) := by
  obtain ⟨r1, r2, r3, r4, _⟩ := hr
  have r5 := r2.1
  refine ⟨?_, rW_si (rW_si r1 (by unfold rWa; omega)) (by unfold rWa; omega), by simp (disch := omega) only [rd_hi, rd_mi, rd_hl, rd_ml, rd_hr, rd_mr, rd_si2, rd_sl1, rd_sl2, rd_sr1, rd_sr2], by omega, h2, by simp (disch := omega) only [rd_hi, rd_mi, rd_hl, rd_ml, rd_hr, rd_mr, rd_si2, rd_sl1, rd_sl2, rd_sr1, rd_sr2]⟩
  unfold fX11_stop
  simp (disch := omega) only [r4, r5, k_iT, k_iF, Bool.false_eq_true, eq_self, Nat.add_zero, k_lt', k_bs, k_T, k_F, k_inb, k_ck, k_nz, ↓kN, kL, k_lt, k_le, k_eq, kn_le, kn_lt, kn_eq, kn_le', kn_lt', kn_eq', nI_clamp, nI_add, k_sub, k_mul, k_div, rd_hi, rd_mi, rd_hl, rd_ml, rd_hr, rd_mr, rd_si2, rd_sl1, rd_sl2, rd_sr1, rd_sr2]
theorem rZ_111 (hz : rZ h N0 nb pl N) : fX11_definition_85 N = some ((), N) := by
  obtain ⟨z1, z2, z3, z4, z5⟩ := hz
  unfold fX11_definition_85 fX11_definition_111
  simp (disch := omega) only [z2, k_iT, k_iF, Bool.false_eq_true, eq_self, Nat.add_zero, k_lt', k_bs, k_T, k_F, k_inb, k_ck, k_nz, ↓kN, kL, k_lt, k_le, k_eq, kn_le, kn_lt, kn_eq, kn_le', kn_lt', kn_eq', nI_clamp, nI_add, k_sub, k_mul, k_div, rd_hi, rd_mi, rd_hl, rd_ml, rd_hr, rd_mr, rd_si2, rd_sl1, rd_sl2, rd_sr1, rd_sr2]
theorem rZ_25 (hz : rZ h N0 nb pl N) (h27 : N.1 62 27 = nI h) (h28 : N.1 62 28 = nI F) (hh : h ≤ 1) (hF : F ≤ 12) : fX11_definition_25 N = some ((), N) := by
  have e := rZ_111 hz
  obtain ⟨z1, z2, z3, z4, z5⟩ := hz
  unfold fX11_definition_25 fX11_definition_33
  rw [k_lt']
  refine lp_inr (o := some ((), N)) ?_
  show gX11_definition_33 _ N = _
  unfold gX11_definition_33
  by_cases hF0 : F = 0
  · subst hF0
    simp (disch := omega) only [h27, h28, e, k_iT, k_iF, Bool.false_eq_true, eq_self, Nat.add_zero, k_lt', k_bs, k_T, k_F, k_inb, k_ck, k_nz, ↓kN, kL, k_lt, k_le, k_eq, kn_le, kn_lt, kn_eq, kn_le', kn_lt', kn_eq', nI_clamp, nI_add, k_sub, k_mul, k_div, rd_hi, rd_mi, rd_hl, rd_ml, rd_hr, rd_mr, rd_si2, rd_sl1, rd_sl2, rd_sr1, rd_sr2]
  · simp (disch := omega) only [h27, h28, z2, e, k_iT, k_iF, Bool.false_eq_true, eq_self, Nat.add_zero, k_lt', k_bs, k_T, k_F, k_inb, k_ck, k_nz, ↓kN, kL, k_lt, k_le, k_eq, kn_le, kn_lt, kn_eq, kn_le', kn_lt', kn_eq', nI_clamp, nI_add, k_sub, k_mul, k_div, rd_hi, rd_mi, rd_hl, rd_ml, rd_hr, rd_mr, rd_si2, rd_sl1, rd_sl2, rd_sr1, rd_sr2]
/-- the reference makes the function's rows -/
theorem r_111 (hr : rSt h N0 T n F i xn an N) (hh : h ≤ 1) (hF : F < 12) (hk : lx_k T n (lx_st T n i) = 2) : ∃ N1, rA h N0 T n F i 0 xn an N1 ∧ N1.1 66 (12 * h + F) = nI 0 ∧ N1.1 62 28 = nI (F + 1) ∧ N1.1 62 27 = nI h ∧ N1.2.1 64 (12 * h + F) = lx_tx T n (lx_st T n i) ∧ (∀ c k, ¬ ((c = 62 ∧ (k = 33 ∨ k = 28)) ∨ ((c = 66 ∨ c = 67) ∧ k = 12 * h + F)) → N1.1 c k = N.1 c k) ∧ (∀ c k, ¬ (c = 64 ∧ k = 12 * h + F) → N1.2.1 c k = N.2.1 c k) ∧ fX11_definition_85 N = mv_bind (fX11_pass N1) fun _ M15 => mv_bind (fX11_want 14 M15) fun _ M16 => if (M16.1 62 9) = 0 then if (M16.1 62 4) = 15 then fX11_definition_210 (nI 0) M16 else fX11_definition_210 (nI 1) M16 else fX11_definition_210 (nI 0) M16 := by
  obtain ⟨r1, r2, r3, r4, r5, r6, r7, r8, r9⟩ := hr
  have h7 := r2.2.2.2.1 hk
  refine ⟨mv_si (mv_si (mv_si (mv_sl (mv_si N 62 33 (nI (12 * h + F))) 64 (12 * h + F) (lx_tx T n (lx_st T n i))) 66 (12 * h + F) (nI 0)) 67 (12 * h + F) (nI 0)) 62 28 (nI (F + 1)), ⟨⟨?_, by simp (disch := omega) only [rd_hi, rd_mi, rd_hl, rd_ml, rd_hr, rd_mr, rd_si2, rd_sl1, rd_sl2, rd_sr1, rd_sr2], by simp (disch := omega) only [rd_hi, rd_mi, rd_hl, rd_ml, rd_hr, rd_mr, rd_si2, rd_sl1, rd_sl2, rd_sr1, rd_sr2], r_at_congr r2 (fun j _ _ => by simp (disch := omega) only [rd_hi, rd_mi, rd_hl, rd_ml, rd_hr, rd_mr, rd_si2, rd_sl1, rd_sl2, rd_sr1, rd_sr2]) (by simp (disch := omega) only [rd_hi, rd_mi, rd_hl, rd_ml, rd_hr, rd_mr, rd_si2, rd_sl1, rd_sl2, rd_sr1, rd_sr2]), by simp (disch := omega) only [rd_hi, rd_mi, rd_hl, rd_ml, rd_hr, rd_mr, rd_si2, rd_sl1, rd_sl2, rd_sr1, rd_sr2]; exact r3, by simp (disch := omega) only [rd_hi, rd_mi, rd_hl, rd_ml, rd_hr, rd_mr, rd_si2, rd_sl1, rd_sl2, rd_sr1, rd_sr2]; exact r4⟩, by simp (disch := omega) only [rd_hi, rd_mi, rd_hl, rd_ml, rd_hr, rd_mr, rd_si2, rd_sl1, rd_sl2, rd_sr1, rd_sr2]; exact r7, by simp (disch := omega) only [rd_hi, rd_mi, rd_hl, rd_ml, rd_hr, rd_mr, rd_si2, rd_sl1, rd_sl2, rd_sr1, rd_sr2]; exact r8, by simp (disch := omega) only [rd_hi, rd_mi, rd_hl, rd_ml, rd_hr, rd_mr, rd_si2, rd_sl1, rd_sl2, rd_sr1, rd_sr2]; exact r9⟩, by simp (disch := omega) only [rd_hi, rd_mi, rd_hl, rd_ml, rd_hr, rd_mr, rd_si2, rd_sl1, rd_sl2, rd_sr1, rd_sr2], by simp (disch := omega) only [rd_hi, rd_mi, rd_hl, rd_ml, rd_hr, rd_mr, rd_si2, rd_sl1, rd_sl2, rd_sr1, rd_sr2], by simp (disch := omega) only [rd_hi, rd_mi, rd_hl, rd_ml, rd_hr, rd_mr, rd_si2, rd_sl1, rd_sl2, rd_sr1, rd_sr2]; exact r5, by simp (disch := omega) only [rd_hi, rd_mi, rd_hl, rd_ml, rd_hr, rd_mr, rd_si2, rd_sl1, rd_sl2, rd_sr1, rd_sr2], fun c k z => by simp (disch := omega) only [rd_hi, rd_mi, rd_hl, rd_ml, rd_hr, rd_mr, rd_si2, rd_sl1, rd_sl2, rd_sr1, rd_sr2], fun c k z => by simp (disch := omega) only [rd_hi, rd_mi, rd_hl, rd_ml, rd_hr, rd_mr, rd_si2, rd_sl1, rd_sl2, rd_sr1, rd_sr2], ?_⟩
  · exact rW_si (rW_si (rW_si (rW_sl (rW_si r1 (by unfold rWa; omega)) (by unfold rWa; omega)) (by unfold rWa; omega)) (by unfold rWa; omega)) (by unfold rWa; omega)
  · unfold fX11_definition_85 fX11_definition_111 fX11_definition_208 fX11_definition_209
    simp (disch := omega) only [r4, r5, r6, h7, k_iT, k_iF, Bool.false_eq_true, eq_self, Nat.add_zero, k_lt', k_bs, k_T, k_F, k_inb, k_ck, k_nz, ↓kN, kL, k_lt, k_le, k_eq, kn_le, kn_lt, kn_eq, kn_le', kn_lt', kn_eq', nI_clamp, nI_add, k_sub, k_mul, k_div, rd_hi, rd_mi, rd_hl, rd_ml, rd_hr, rd_mr, rd_si2, rd_sl1, rd_sl2, rd_sr1, rd_sr2]
/-- the class makes its rows -/
theorem c_add {v : Int64} (hb : b = 9 ∨ b = 24) (hW : cW b M0 M) (h0 : M.1 b 0 = nI F) (hF : F < 12) : ∃ M1, fX4_addFunction b v (mv_si M 3 4 (nI F)) = some ((), M1) ∧ cB b M0 F M1 ∧ M1.1 (b + 2) F = nI 0 ∧ M1.1 (b + 3) F = nI 0 ∧ M1.2.1 (b + 1) F = v ∧ (∀ c k, ¬ ((c = 3 ∧ k = 4) ∨ (c = b ∧ k = 0) ∨ ((c = b + 2 ∨ c = b + 3) ∧ k = F)) → M1.1 c k = M.1 c k) ∧ (∀ c k, ¬ (c = b + 1 ∧ k = F) → M1.2.1 c k = M.2.1 c k) := by
  refine ⟨mv_si (mv_si (mv_si (mv_sl (mv_si M 3 4 (nI F)) (b + 1) F v) (b + 2) F (nI 0)) (b + 3) F (nI 0)) b 0 (nI (F + 1)), ?_, ⟨⟨fun c k z1 z2 z3 => ?_, fun c k z1 => ?_, hW.2.2⟩, by simp (disch := omega) only [rd_hi, rd_mi, rd_hl, rd_ml, rd_hr, rd_mr, rd_si2, rd_sl1, rd_sl2, rd_sr1, rd_sr2], hF, by simp (disch := omega) only [rd_hi, rd_mi, rd_hl, rd_ml, rd_hr, rd_mr, rd_si2, rd_sl1, rd_sl2, rd_sr1, rd_sr2], 0, by omega, by simp (disch := omega) only [rd_hi, rd_mi, rd_hl, rd_ml, rd_hr, rd_mr, rd_si2, rd_sl1, rd_sl2, rd_sr1, rd_sr2]⟩, by simp (disch := omega) only [rd_hi, rd_mi, rd_hl, rd_ml, rd_hr, rd_mr, rd_si2, rd_sl1, rd_sl2, rd_sr1, rd_sr2], by simp (disch := omega) only [rd_hi, rd_mi, rd_hl, rd_ml, rd_hr, rd_mr, rd_si2, rd_sl1, rd_sl2, rd_sr1, rd_sr2], by simp (disch := omega) only [rd_hi, rd_mi, rd_hl, rd_ml, rd_hr, rd_mr, rd_si2, rd_sl1, rd_sl2, rd_sr1, rd_sr2], fun c k z => by simp (disch := omega) only [rd_hi, rd_mi, rd_hl, rd_ml, rd_hr, rd_mr, rd_si2, rd_sl1, rd_sl2, rd_sr1, rd_sr2], fun c k z => by simp (disch := omega) only [rd_hi, rd_mi, rd_hl, rd_ml, rd_hr, rd_mr, rd_si2, rd_sl1, rd_sl2, rd_sr1, rd_sr2]⟩
  · unfold fX4_addFunction
    simp (disch := omega) only [h0, k_iT, k_iF, Bool.false_eq_true, eq_self, Nat.add_zero, k_lt', k_bs, k_T, k_F, k_inb, k_ck, k_nz, ↓kN, kL, k_lt, k_le, k_eq, kn_le, kn_lt, kn_eq, kn_le', kn_lt', kn_eq', nI_clamp, nI_add, k_sub, k_mul, k_div, rd_hi, rd_mi, rd_hl, rd_ml, rd_hr, rd_mr, rd_si2, rd_sl1, rd_sl2, rd_sr1, rd_sr2]
  · simp (disch := omega) only [rd_hi, rd_mi, rd_hl, rd_ml, rd_hr, rd_mr, rd_si2, rd_sl1, rd_sl2, rd_sr1, rd_sr2]
    exact hW.1 c k z1 z2 z3
  · simp (disch := omega) only [rd_hi, rd_mi, rd_hl, rd_ml, rd_hr, rd_mr, rd_si2, rd_sl1, rd_sl2, rd_sr1, rd_sr2]
    exact hW.2.1 c k z1
end FV
