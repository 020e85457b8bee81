section JN
variable {b h n cnt f i m nd nb pl xn an ot x : Nat} {L : List (Nat × Int32)} {D W Y : List Int32} {M M' M0 N N' N0 : mv_M} {T : Nat → Nat}
theorem cmpI {x y : Int64} : lg_cmp x y = 0 ↔ x = y := Iff.of_eq cmp0
theorem cO_text (hx : cX b M0 T n cnt) (hc : cO b M0 T n cnt f i m nd M) : ∃ v, fX8_textOf (nI i) M = some (v, M) ∧ (lx_k T n (lx_st T n i) = 2 ∨ lx_k T n (lx_st T n i) = 3 → v = lx_tx T n (lx_st T n i)) := by
  obtain ⟨⟨hW, _⟩, h3, hi, hi2, _⟩ := hc
  obtain ⟨a1, a2, a3, a4, a5⟩ := cW_tok hx hW
  have hcnt := hx.2.2.1.2.1
  unfold fX8_textOf fX8_textOf_12
  by_cases hl : i < cnt
  · refine ⟨M.2.1 42 i, by simp (disch := omega) only [a1, k_iT, k_iF, Bool.false_eq_true, eq_self, Nat.add_zero, k_lt', k_bs, k_T, k_F, k_inb, k_ck, k_nz, ↓kN, kL, k_lt, k_le, k_eq, kn_le, kn_lt, kn_eq, kn_le', kn_lt', kn_eq', nI_clamp, nI_add, k_sub, k_mul, k_div, rd_hi, rd_mi, rd_hl, rd_ml, rd_hr, rd_mr, rd_si2, rd_sl1, rd_sl2, rd_sr1, rd_sr2], fun z => ?_⟩
    obtain ⟨t1, t2, t3, t4⟩ := hx.2.2.1.2.2.1 i hl
    rw [a4]
    refine t4 (lx_kd_rw (n := n) ?_)
    unfold lx_k at z
    rw [if_pos t1] at z
    exact z
  · refine ⟨0, by simp (disch := omega) only [a1, k_iT, k_iF, Bool.false_eq_true, eq_self, Nat.add_zero, k_lt', k_bs, k_T, k_F, k_inb, k_ck, k_nz, ↓kN, kL, k_lt, k_le, k_eq, kn_le, kn_lt, kn_eq, kn_le', kn_lt', kn_eq', nI_clamp, nI_add, k_sub, k_mul, k_div, rd_hi, rd_mi, rd_hl, rd_ml, rd_hr, rd_mr, rd_si2, rd_sl1, rd_sl2, rd_sr1, rd_sr2], fun z => ?_⟩
    have := (tk_kind hx hi hi2).2.2
    omega
/-- the name is taken on both sides: the places behind -/
theorem j_nm {t : Int64} (hx : pX b h M0 N0 T n cnt f) (hc : cO b M0 T n cnt f i m nd M) (hr : rO h N0 T n f i m xn an L D W Y ot N) (hk : lx_k T n (lx_st T n i) = 2) (hm : m < 16) (ht : t = lx_tx T n (lx_st T n i)) : ∃ M' N' r, fX3_parseInnerName_46 t 0 0 M = some (r, M') ∧ fX11_name 0 N = some (nI m, N') ∧ rX h f m 62 3 N N' ∧ ((∃ nb pl, cD b M0 T n cnt f nb pl M' ∧ rFt h f N0 nb pl N') ∨ (r = nI m ∧ cO b M0 T n cnt f (i + 1) (m + 1) nd M' ∧ rO h N0 T n f (i + 1) (m + 1) xn an L D W Y ot N' ∧ cE b f m nd M M' ∧ M'.2.1 (b + 6) (f * 16 + m) = t ∧ N'.2.1 69 (16 * (12 * h + f) + m) = t)) := by
  have hb := hx.1.1
  have hh := hx.2.2.1
  have hf := hx.2.2.2
  have ek := cO_kind hx.1 hc
  have et := rO_tk hr
  rw [hk] at ek et
  obtain ⟨r1, r2, r3, r4, r5, r6, r7⟩ := hr
  have hkey := r4.2.2.2.1 hk
  have hr2 : rO h N0 T n f i (m + 1) xn an L D W Y ot (mv_si (mv_sl N 69 (16 * (12 * h + f) + m) t) 67 (12 * h + f) (nI (m + 1))) := by
    refine ⟨rW_si (rW_sl r1 (by unfold rWa; omega)) (by unfold rWa; omega), by simp (disch := omega) only [rd_hi, rd_mi, rd_hl, rd_ml, rd_hr, rd_mr, rd_si2, rd_sl1, rd_sl2, rd_sr1, rd_sr2]; exact r2, by simp (disch := omega) only [rd_hi, rd_mi, rd_hl, rd_ml, rd_hr, rd_mr, rd_si2, rd_sl1, rd_sl2, rd_sr1, rd_sr2], r_at_congr r4 (fun j _ _ => by simp (disch := omega) only [rd_hi, rd_mi, rd_hl, rd_ml, rd_hr, rd_mr, rd_si2, rd_sl1, rd_sl2, rd_sr1, rd_sr2]) (by simp (disch := omega) only [rd_hi, rd_mi, rd_hl, rd_ml, rd_hr, rd_mr, rd_si2, rd_sl1, rd_sl2, rd_sr1, rd_sr2]), by simp (disch := omega) only [rd_hi, rd_mi, rd_hl, rd_ml, rd_hr, rd_mr, rd_si2, rd_sl1, rd_sl2, rd_sr1, rd_sr2]; exact r5, by simp (disch := omega) only [rd_hi, rd_mi, rd_hl, rd_ml, rd_hr, rd_mr, rd_si2, rd_sl1, rd_sl2, rd_sr1, rd_sr2]; exact r6, rK_congr r7 (fun c k z => by simp (disch := omega) only [rd_hi, rd_mi, rd_hl, rd_ml, rd_hr, rd_mr, rd_si2, rd_sl1, rd_sl2, rd_sr1, rd_sr2])⟩
  have hc2 : cO b M0 T n cnt f i (m + 1) nd (mv_sl (mv_si M (b + 3) f (nI (m + 1))) (b + 6) (f * 16 + m) t) := by
    obtain ⟨hB, h3, hi, hi2, hk1, hm1, hm2, hnd, hnd2, h10⟩ := hc
    exact ⟨cB_sl (cB_si hb hB (by omega)) (by omega), by simp (disch := omega) only [rd_hi, rd_mi, rd_hl, rd_ml, rd_hr, rd_mr, rd_si2, rd_sl1, rd_sl2, rd_sr1, rd_sr2]; exact h3, hi, hi2, hk1, by simp (disch := omega) only [rd_hi, rd_mi, rd_hl, rd_ml, rd_hr, rd_mr, rd_si2, rd_sl1, rd_sl2, rd_sr1, rd_sr2], by omega, by simp (disch := omega) only [rd_hi, rd_mi, rd_hl, rd_ml, rd_hr, rd_mr, rd_si2, rd_sl1, rd_sl2, rd_sr1, rd_sr2]; exact hnd, hnd2, by simp (disch := omega) only [rd_hi, rd_mi, rd_hl, rd_ml, rd_hr, rd_mr, rd_si2, rd_sl1, rd_sl2, rd_sr1, rd_sr2]; exact h10⟩
  obtain ⟨M1, N1, e1, e2, e3, e4⟩ := j_pass hx hc hr2 (by omega)
  have eN : fX11_name 0 N = some (nI m, N1) := by
    have a1 : (16 * (12 * h + f) + m) < 384 := by omega
    unfold fX11_name fX11_name_25 fX11_name_56 fX11_name_80 fX11_name_104
    simp (disch := omega) only [r6, et, show lx_tk 2 = 10 from rfl, r2, r3, hkey, ht.symm, e2, k_iT, k_iF, Bool.false_eq_true, eq_self, Nat.add_zero, k_lt', k_bs, k_T, k_F, k_inb, k_ck, k_nz, ↓kN, kL, k_lt, k_le, k_eq, kn_le, kn_lt, kn_eq, kn_le', kn_lt', kn_eq', nI_clamp, nI_add, k_sub, k_mul, k_div, rd_hi, rd_mi, rd_hl, rd_ml, rd_hr, rd_mr, rd_si2, rd_sl1, rd_sl2, rd_sr1, rd_sr2]
  have fr : rX h f m 62 3 N N1 := by
    refine ⟨fun c k z => (e3.1 c k (by omega)).trans ?_, fun c k z => (e3.2.1 c k (by omega)).trans ?_⟩
    · simp (disch := omega) only [rd_hi, rd_mi, rd_hl, rd_ml, rd_hr, rd_mr, rd_si2, rd_sl1, rd_sl2, rd_sr1, rd_sr2]
    · simp (disch := omega) only [rd_hi, rd_mi, rd_hl, rd_ml, rd_hr, rd_mr, rd_si2, rd_sl1, rd_sl2, rd_sr1, rd_sr2]
  rcases e4 with ⟨nb, pl, d1, d2⟩ | ⟨d1, d2, d3⟩
  · have key := cD_addName (t := t) hx.1 d1
    have kk : ∃ r M', fX3_parseInnerName_46 t 0 0 M = some (r, M') ∧ cD b M0 T n cnt f nb pl M' := by
      have : mv_ok (fX3_parseInnerName_46 t 0 0 M) (fun _ M' => cD b M0 T n cnt f nb pl M') := by
        unfold fX3_parseInnerName_46 fX3_takeNewName
        rw [ek, k_bs, e1]
        refine cD_bind (o := ite _ _ _) (ok_T rfl (ok_T rfl (ok_T rfl (ok_bind (ok_some (ok_some d1)))))) (fun _ M5 h5 => ok_if (fun _ => cD_getp hx.1 h5 (cD_bind (cD_addName hx.1 h5) (fun _ _ h8 => ok_some h8))) (fun _ => ok_some h5))
      cases hq : fX3_parseInnerName_46 t 0 0 M with
      | none => rw [hq] at this; exact absurd this id
      | some p => rw [hq] at this; exact ⟨p.1, p.2, rfl, this⟩
    obtain ⟨r, M', q1, q2⟩ := kk
    exact ⟨M', N1, r, q1, eN, fr, .inl ⟨nb, pl, q2, d2⟩⟩
  · obtain ⟨hB, h3, hi, hi2, hk1, hm1, hm2, hnd, hnd2, h10⟩ := hc
    obtain ⟨b1, b2, b3, b4, p, b5, b6⟩ := hB
    have gp := (cW_tok hx.1 b1).2.2.2.2
    refine ⟨mv_sl (mv_si M1 (b + 3) f (nI (m + 1))) (b + 6) (f * 16 + m) t, N1, nI m, ?_, eN, fr, .inr ⟨rfl, ?_, d3, ?_, by simp (disch := omega) only [rd_hi, rd_mi, rd_hl, rd_ml, rd_hr, rd_mr, rd_si2, rd_sl1, rd_sl2, rd_sr1, rd_sr2], ?_⟩⟩
    · have a1 : f * 16 + m < 192 := by omega
      have gp2 : M1.2.2 3 2 = some b := by rw [d1]; exact gp
      have hb2 : (decide (b = 9) || decide (b = 24)) = true := by simpa using hb
      have z1 : M1.1 1 0 = nI 0 := d2.2.2.2.2.2.2.2.2.2
      have z2 : M1.1 3 4 = nI f := d2.1.2.1
      have z3 : M1.1 b 0 = nI (f + 1) := d2.1.2.2.2.1
      have z4 : M1.1 (b + 3) f = nI m := d2.2.2.2.2.2.1
      unfold fX3_parseInnerName_46 fX3_takeNewName fX4_addName fX4_hasFunction
      simp (disch := omega) only [ek, e1, z1, gp2, mv_getp, hb2, z2, z3, z4, k_iT, k_iF, Bool.false_eq_true, eq_self, Nat.add_zero, k_lt', k_bs, k_T, k_F, k_inb, k_ck, k_nz, ↓kN, kL, k_lt, k_le, k_eq, kn_le, kn_lt, kn_eq, kn_le', kn_lt', kn_eq', nI_clamp, nI_add, k_sub, k_mul, k_div, rd_hi, rd_mi, rd_hl, rd_ml, rd_hr, rd_mr, rd_si2, rd_sl1, rd_sl2, rd_sr1, rd_sr2]
    · obtain ⟨hB', h3', hi', hi2', hk1', hm1', hm2', hnd', hnd2', h10'⟩ := d2
      exact ⟨cB_sl (cB_si hb hB' (by omega)) (by omega), by simp (disch := omega) only [rd_hi, rd_mi, rd_hl, rd_ml, rd_hr, rd_mr, rd_si2, rd_sl1, rd_sl2, rd_sr1, rd_sr2]; exact h3', hi', hi2', hk1', by simp (disch := omega) only [rd_hi, rd_mi, rd_hl, rd_ml, rd_hr, rd_mr, rd_si2, rd_sl1, rd_sl2, rd_sr1, rd_sr2], by omega, by simp (disch := omega) only [rd_hi, rd_mi, rd_hl, rd_ml, rd_hr, rd_mr, rd_si2, rd_sl1, rd_sl2, rd_sr1, rd_sr2]; exact hnd', hnd2', by simp (disch := omega) only [rd_hi, rd_mi, rd_hl, rd_ml, rd_hr, rd_mr, rd_si2, rd_sl1, rd_sl2, rd_sr1, rd_sr2]; exact h10'⟩
    · refine cE_sl (cE_si ?_ (by unfold cEa; omega)) (by omega)
      rw [d1]
      exact cE_si cE_refl (by unfold cEa; omega)
    · rw [e3.2.1 _ _ (by omega)]
      simp (disch := omega) only [rd_hi, rd_mi, rd_hl, rd_ml, rd_hr, rd_mr, rd_si2, rd_sl1, rd_sl2, rd_sr1, rd_sr2]
theorem c_in_stop {t : Int64} {s0 s1 : Int32} {v : Nat} (hx : cX b M0 T n cnt) (hc : cO b M0 T n cnt f i m nd M) (hv : (lx_k T n (lx_st T n i) ≠ 2 ∧ v = 2) ∨ (lx_k T n (lx_st T n i) = 2 ∧ s1 ≠ 0 ∧ v = 3) ∨ (lx_k T n (lx_st T n i) = 2 ∧ s1 = 0 ∧ s0 ≠ 0 ∧ v = 6)) : mv_ok (fX3_parseInnerName_46 t s0 s1 M) (fun _ M' => cD b M0 T n cnt f v (lx_st T n i) M') := by
  have ek := cO_kind hx hc
  have hv1 := vk_k (T := T) (n := n) (s := lx_st T n i)
  have hv2 : lx_k T n (lx_st T n i) < 2 ^ 31 := by unfold vk at hv1; omega
  obtain ⟨M', e1, e2⟩ := cO_stop (v := v) hx hc (by omega) (by omega)
  have key : fX3_takeNewName s1 s0 M = some ((), M') := by
    unfold fX3_takeNewName
    rcases hv with ⟨q1, rfl⟩ | ⟨q1, q2, rfl⟩ | ⟨q1, q2, q3, rfl⟩
    · simp (disch := omega) only [ek, e1, k_iT, k_iF, Bool.false_eq_true, eq_self, Nat.add_zero, k_lt', k_bs, k_T, k_F, k_inb, k_ck, k_nz, ↓kN, kL, k_lt, k_le, k_eq, kn_le, kn_lt, kn_eq, kn_le', kn_lt', kn_eq', nI_clamp, nI_add, k_sub, k_mul, k_div, rd_hi, rd_mi, rd_hl, rd_ml, rd_hr, rd_mr, rd_si2, rd_sl1, rd_sl2, rd_sr1, rd_sr2]
    · rw [q1] at ek
      rw [ek, k_bs, if_pos (show nI 2 = (2 : Int32) from rfl), if_neg q2]
      simp (disch := omega) only [e1, k_iT, k_iF, Bool.false_eq_true, eq_self, Nat.add_zero, k_lt', k_bs, k_T, k_F, k_inb, k_ck, k_nz, ↓kN, kL, k_lt, k_le, k_eq, kn_le, kn_lt, kn_eq, kn_le', kn_lt', kn_eq', nI_clamp, nI_add, k_sub, k_mul, k_div, rd_hi, rd_mi, rd_hl, rd_ml, rd_hr, rd_mr, rd_si2, rd_sl1, rd_sl2, rd_sr1, rd_sr2]
    · rw [q1] at ek
      rw [ek, k_bs, if_pos (show nI 2 = (2 : Int32) from rfl), if_pos q2, if_neg q3]
      simp (disch := omega) only [e1, k_iT, k_iF, Bool.false_eq_true, eq_self, Nat.add_zero, k_lt', k_bs, k_T, k_F, k_inb, k_ck, k_nz, ↓kN, kL, k_lt, k_le, k_eq, kn_le, kn_lt, kn_eq, kn_le', kn_lt', kn_eq', nI_clamp, nI_add, k_sub, k_mul, k_div, rd_hi, rd_mi, rd_hl, rd_ml, rd_hr, rd_mr, rd_si2, rd_sl1, rd_sl2, rd_sr1, rd_sr2]
  unfold fX3_parseInnerName_46
  rw [key, k_bs]
  exact ok_if (fun _ => cD_getp hx e2 (cD_bind (cD_addName hx e2) (fun _ _ h8 => ok_some h8))) (fun _ => ok_some e2)
theorem c_in24 {t : Int64} {s0 : Int32} {Q : Int32 → mv_M → mv_M → Prop} (hx : pX b h M0 N0 T n cnt f) (hc : cO b M0 T n cnt f i m nd M) (h1 : m < 16 → J b h M0 N0 T n cnt f N (fX3_parseInnerName_46 t 0 s0 M) Q) (h2 : m = 16 → J b h M0 N0 T n cnt f N (fX3_parseInnerName_46 t 1 s0 M) Q) : J b h M0 N0 T n cnt f N (fX3_parseInnerName_24 t s0 M) Q := by
  obtain ⟨hB, h3, hi, hi2, hk1, hm1, hm2, hnd, hnd2, h10⟩ := hc
  obtain ⟨b1, b2, b3, b4, p, b5, b6⟩ := hB
  unfold fX3_parseInnerName_24
  refine J_getp hx b1 ?_
  have e1 : mv_inb (M.1 3 4) 12 = true := by rw [b2]; exact k_inb b3 (by omega)
  rw [e1, k_ck, b2, nI_clamp (by omega), hm1]
  by_cases h16 : m < 16
  · exact J_T (by rw [kM, k_lt (by omega) (by omega)]; exact h16) (h1 h16)
  · exact J_F (by rw [kM, k_lt (by omega) (by omega)]; exact h16) (h2 (by omega))
theorem rFt_name {a : Int32} (hr : rFt h f N0 nb pl N) : fX11_name_25 a N = some (0, N) := by
  obtain ⟨a1, a2, a3, _⟩ := hr
  unfold fX11_name_25 fX11_name_56 fX11_name_104
  simp (disch := omega) only [a1, k_iT, k_iF, Bool.false_eq_true, eq_self, Nat.add_zero, k_lt', k_bs, k_T, k_F, k_inb, k_ck, k_nz, ↓kN, kL, k_lt, k_le, k_eq, kn_le, kn_lt, kn_eq, kn_le', kn_lt', kn_eq', nI_clamp, nI_add, k_sub, k_mul, k_div, rd_hi, rd_mi, rd_hl, rd_ml, rd_hr, rd_mr, rd_si2, rd_sl1, rd_sl2, rd_sr1, rd_sr2]
theorem rFt_name' {a : Int32} (hr : rFt h f N0 nb pl N) : fX11_name a N = some (0, N) := by
  have := rFt_name (a := a) hr
  obtain ⟨a1, a2, a3, _⟩ := hr
  unfold fX11_name
  simp (disch := omega) only [a1, this, k_iT, k_iF, Bool.false_eq_true, eq_self, Nat.add_zero, k_lt', k_bs, k_T, k_F, k_inb, k_ck, k_nz, ↓kN, kL, k_lt, k_le, k_eq, kn_le, kn_lt, kn_eq, kn_le', kn_lt', kn_eq', nI_clamp, nI_add, k_sub, k_mul, k_div, rd_hi, rd_mi, rd_hl, rd_ml, rd_hr, rd_mr, rd_si2, rd_sl1, rd_sl2, rd_sr1, rd_sr2]
theorem r_name_stop {v : Nat} (hx : pX b h M0 N0 T n cnt f) (hr : rO h N0 T n f i m xn an L D W Y ot N) (hv : (lx_k T n (lx_st T n i) ≠ 2 ∧ v = 2) ∨ (lx_k T n (lx_st T n i) = 2 ∧ m = 16 ∧ v = 6)) : ∃ N', fX11_name 0 N = some (0, N') ∧ rFt h f N0 v (lx_st T n i) N' := by
  have hv1 := vk_k (T := T) (n := n) (s := lx_st T n i)
  have hh := hx.2.2.1
  have hf := hx.2.2.2
  obtain ⟨N', f1, f2, f3⟩ := r_stop (v := v) hr (by omega) (by omega)
  have t10 := tkA hv1 (r := 10) (by omega)
  rw [kt10] at t10
  have et := rO_tk hr
  have et2 := rO_ta hr
  obtain ⟨r1, r2, r3, r4, r5, r6, r7⟩ := hr
  refine ⟨N', ?_, f2⟩
  rcases hv with ⟨q1, rfl⟩ | ⟨q1, q2, rfl⟩
  · have e3 := rFt_name (a := 0) f2
    simp only [kL] at e3
    unfold fX11_name
    simp (disch := omega) only [r6, et, et2, t10, q1, f1, e3, k_iT, k_iF, Bool.false_eq_true, eq_self, Nat.add_zero, k_lt', k_bs, k_T, k_F, k_inb, k_ck, k_nz, ↓kN, kL, k_lt, k_le, k_eq, kn_le, kn_lt, kn_eq, kn_le', kn_lt', kn_eq', nI_clamp, nI_add, k_sub, k_mul, k_div, rd_hi, rd_mi, rd_hl, rd_ml, rd_hr, rd_mr, rd_si2, rd_sl1, rd_sl2, rd_sr1, rd_sr2]
  · have a1 := f2.1
    subst q2
    unfold fX11_name fX11_name_25 fX11_name_56 fX11_name_80 fX11_name_94 fX11_name_104
    rw [q1] at et
    simp (disch := omega) only [r6, et, et2, show lx_tk 2 = 10 from rfl, r2, r3, f1, a1, k_iT, k_iF, Bool.false_eq_true, eq_self, Nat.add_zero, k_lt', k_bs, k_T, k_F, k_inb, k_ck, k_nz, ↓kN, kL, k_lt, k_le, k_eq, kn_le, kn_lt, kn_eq, kn_le', kn_lt', kn_eq', nI_clamp, nI_add, k_sub, k_mul, k_div, rd_hi, rd_mi, rd_hl, rd_ml, rd_hr, rd_mr, rd_si2, rd_sl1, rd_sl2, rd_sr1, rd_sr2]
theorem rFt_si {c k : Nat} {v : Int32} (hr : rFt h f N0 nb pl N) (hh : h ≤ 1) (hc : (64 ≤ c ∧ c ≤ 68 ∧ 12 * h ≤ k ∧ k < 12 * h + 12) ∨ (69 ≤ c ∧ c ≤ 70 ∧ 192 * h ≤ k ∧ k < 192 * h + 192) ∨ (71 ≤ c ∧ c ≤ 78 ∧ 1001 * h ≤ k ∧ k < 1001 * h + 1001)) : rFt h f N0 nb pl (mv_si N c k v) := by
  obtain ⟨a1, a2, a3, a4, a5, a6⟩ := hr
  exact ⟨by simp (disch := omega) only [rd_hi, rd_mi, rd_hl, rd_ml, rd_hr, rd_mr, rd_si2, rd_sl1, rd_sl2, rd_sr1, rd_sr2]; exact a1, a2, a3, by simp (disch := omega) only [rd_hi, rd_mi, rd_hl, rd_ml, rd_hr, rd_mr, rd_si2, rd_sl1, rd_sl2, rd_sr1, rd_sr2]; exact a4, rW_si a5 (by unfold rWa; omega), by simp (disch := omega) only [rd_hi, rd_mi, rd_hl, rd_ml, rd_hr, rd_mr, rd_si2, rd_sl1, rd_sl2, rd_sr1, rd_sr2]; exact a6⟩
theorem rX_mono {c0 x : Nat} (a : rX h f m 62 3 N N') : rX h f m c0 x N N' := ⟨fun c k z => a.1 c k (by omega), fun c k z => a.2 c k (by omega)⟩
theorem j_named (hx : pX b h M0 N0 T n cnt f) (hc : cO b M0 T n cnt f i m nd M) (hr : rO h N0 T n f i m xn an ((13, nI x) :: L) D W Y ot N) (hxx : 1001 * h ≤ x ∧ x < 1001 * h + 1001) (hl : L.length < 3000) : J b h M0 N0 T n cnt f N (fX3_parseInnerName 0 M) (fun r M' N' => r = nI m ∧ m < 16 ∧ cO b M0 T n cnt f (i + 1) (m + 1) nd M' ∧ rO h N0 T n f (i + 1) (m + 1) xn an L D W Y ot N' ∧ N'.1 74 x = nI m ∧ cE b f m nd M M' ∧ rX h f m 74 x N N' ∧ M'.2.1 (b + 6) (f * 16 + m) = lx_tx T n (lx_st T n i) ∧ N'.2.1 69 (16 * (12 * h + f) + m) = lx_tx T n (lx_st T n i) ∧ lx_k T n (lx_st T n i) = 2) := by
  have hh := hx.2.2.1
  have hf := hx.2.2.2
  obtain ⟨v, ev, hv⟩ := cO_text hx.1 hc
  obtain ⟨hr1, hs1⟩ := r_pop hr
  have hg := g_rest hr (by omega) hl
  have h3 := hc.2.1
  have hi := (tk_kind hx.1 hc.2.2.1 hc.2.2.2.1).2.2
  unfold fX3_parseInnerName
  refine J_bs (r := v) (M' := M) (by rw [h3]; exact ev) ?_
  have stopper : ∀ (s0 s1 : Int32) (w : Nat), ((lx_k T n (lx_st T n i) ≠ 2 ∧ w = 2) ∨ (lx_k T n (lx_st T n i) = 2 ∧ s1 = 0 ∧ s0 ≠ 0 ∧ m = 16 ∧ w = 6)) → ∀ Q, J b h M0 N0 T n cnt f N (fX3_parseInnerName_46 v s0 s1 M) Q := by
    intro s0 s1 w hw Q
    obtain ⟨N', q1, q2⟩ := r_name_stop (v := w) hx hr1 (by omega)
    have eP : fX11_parse_26 N = fX11_parse_26 (mv_si N' 74 x 0) := by
      refine P_go (hg.trans ?_)
      simp only [kL] at q1
      unfold fX11_onRest
      simp (disch := omega) only [q1, k_iT, k_iF, Bool.false_eq_true, eq_self, Nat.add_zero, k_lt', k_bs, k_T, k_F, k_inb, k_ck, k_nz, ↓kN, kL, k_lt, k_le, k_eq, kn_le, kn_lt, kn_eq, kn_le', kn_lt', kn_eq', nI_clamp, nI_add, k_sub, k_mul, k_div, rd_hi, rd_mi, rd_hl, rd_ml, rd_hr, rd_mr, rd_si2, rd_sl1, rd_sl2, rd_sr1, rd_sr2]
    exact J_step eP (J_dead (c_in_stop hx.1 hc (by rcases hw with z | z; exact .inl z; exact .inr (.inr ⟨z.1, z.2.1, z.2.2.1, z.2.2.2.2⟩))) (P_fault (rFt_si q2 hh (by omega))))
  by_cases h2 : lx_k T n (lx_st T n i) = 2
  · have hv' := hv (.inl h2)
    have hn : lx_st T n i < n := (hx.1.2.2.1.2.2.1 i (hi (by omega))).1
    refine J_F (fun z => ?_) ?_
    · have := (cmpI (x := v) (y := 0)).1 z
      exact lx_txne hn h2 (hv'.symm.trans this)
    · refine c_in24 hx hc (fun h16 => ?_) (fun h16 => stopper 1 0 6 (.inr ⟨h2, rfl, by decide, h16, rfl⟩) _)
      obtain ⟨M1, N1, r, e1, e2, e3, e4⟩ := j_nm hx hc hr1 h2 h16 hv'
      have eP : fX11_parse_26 N = fX11_parse_26 (mv_si N1 74 x (nI m)) := by
        refine P_go (hg.trans ?_)
        simp only [kL] at e2
        unfold fX11_onRest
        simp (disch := omega) only [e2, k_iT, k_iF, Bool.false_eq_true, eq_self, Nat.add_zero, k_lt', k_bs, k_T, k_F, k_inb, k_ck, k_nz, ↓kN, kL, k_lt, k_le, k_eq, kn_le, kn_lt, kn_eq, kn_le', kn_lt', kn_eq', nI_clamp, nI_add, k_sub, k_mul, k_div, rd_hi, rd_mi, rd_hl, rd_ml, rd_hr, rd_mr, rd_si2, rd_sl1, rd_sl2, rd_sr1, rd_sr2]
      rw [e1]
      refine J_step eP ?_
      rcases e4 with ⟨nb, pl, d1, d2⟩ | ⟨d0, d1, d2, d3, d4, d5⟩
      · exact J_dead (ok_some d1) (P_fault (rFt_si d2 hh (by omega)))
      · exact J_some ⟨d0, h16, d1, rO_si d2 hh (by omega), by simp (disch := omega) only [rd_hi, rd_mi, rd_hl, rd_ml, rd_hr, rd_mr, rd_si2, rd_sl1, rd_sl2, rd_sr1, rd_sr2], d3, rX_si (rX_trans (rS_X hs1) (rX_mono e3) (by omega)), d4.trans hv', d5.trans hv', h2⟩
  · have all : ∀ s0 : Int32, ∀ Q, J b h M0 N0 T n cnt f N (fX3_parseInnerName_24 v s0 M) Q := fun s0 Q => c_in24 hx hc (fun _ => stopper _ _ 2 (.inl ⟨h2, rfl⟩) _) (fun _ => stopper _ _ 2 (.inl ⟨h2, rfl⟩) _)
    by_cases hz : lg_cmp v 0 = 0
    · exact J_T hz (all _ _)
    · exact J_F hz (all _ _)
theorem j_second {m1 : Nat} {t1 : Int64} (hx : pX b h M0 N0 T n cnt f) (hc : cO b M0 T n cnt f i m nd M) (hr : rO h N0 T n f i m xn an ((14, nI x) :: L) D W Y ot N) (hxx : 1001 * h ≤ x ∧ x < 1001 * h + 1001) (hl : L.length < 3000) (hm1 : m1 < 16) (h74 : N.1 74 x = nI m1) (h69 : N.2.1 69 (16 * (12 * h + f) + m1) = t1) : J b h M0 N0 T n cnt f N (fX3_parseInnerName t1 M) (fun r M' N' => m < 16 ∧ cO b M0 T n cnt f (i + 1) (m + 1) nd M' ∧ rO h N0 T n f (i + 1) (m + 1) xn an L D W Y ot N' ∧ cE b f m nd M M' ∧ rX h f m 62 3 N N' ∧ M'.2.1 (b + 6) (f * 16 + m) = N'.2.1 69 (16 * (12 * h + f) + m)) := by
  have hh := hx.2.2.1
  have hf := hx.2.2.2
  have hv1 := vk_k (T := T) (n := n) (s := lx_st T n i)
  have t10 := tkA hv1 (r := 10) (by omega)
  rw [kt10] at t10
  obtain ⟨v, ev, hv⟩ := cO_text hx.1 hc
  obtain ⟨hr1, hs1⟩ := r_pop hr
  have hg := g_rest hr (by omega) hl
  have h3 := hc.2.1
  have et := rO_tk hr1
  have et2 := rO_ta hr1
  have r2 := hr1.2.1
  have g74 : (mv_si N 62 36 (nI L.length)).1 74 x = nI m1 := by simp (disch := omega) only [rd_hi, rd_mi, rd_hl, rd_ml, rd_hr, rd_mr, rd_si2, rd_sl1, rd_sl2, rd_sr1, rd_sr2]; exact h74
  have g69 : (mv_si N 62 36 (nI L.length)).2.1 69 (16 * (12 * h + f) + m1) = t1 := h69
  unfold fX3_parseInnerName
  refine J_bs (r := v) (M' := M) (by rw [h3]; exact ev) ?_
  by_cases h2 : lx_k T n (lx_st T n i) = 2
  · have hv' := hv (.inl h2)
    have hkey := hr.2.2.2.1.2.2.2.1 h2
    have et' := et
    rw [h2] at et'
    by_cases heq : v = t1
    · have hcm : lg_cmp v t1 = 0 := (cmpI (x := v) (y := t1)).2 heq
      refine J_T hcm ?_
      obtain ⟨N', f1, f2, f3⟩ := r_stop (v := 3) hr1 (by omega) (by omega)
      have e3 := rFt_name' (a := 0) f2
      have eP : fX11_parse_26 N = fX11_parse_26 N' := by
        refine P_go (hg.trans ?_)
        have hcm2 : lg_cmp (lx_tx T n (lx_st T n i)) t1 = 0 := by rw [← hv']; exact hcm
        simp only [kL] at e3 hcm2
        unfold fX11_onRest fX11_onRest_111
        simp (disch := omega) only [et', et2, show lx_tk 2 = 10 from rfl, r2, g74, h69, hkey, hcm2, f1, e3, k_iT, k_iF, Bool.false_eq_true, eq_self, Nat.add_zero, k_lt', k_bs, k_T, k_F, k_inb, k_ck, k_nz, ↓kN, kL, k_lt, k_le, k_eq, kn_le, kn_lt, kn_eq, kn_le', kn_lt', kn_eq', nI_clamp, nI_add, k_sub, k_mul, k_div, rd_hi, rd_mi, rd_hl, rd_ml, rd_hr, rd_mr, rd_si2, rd_sl1, rd_sl2, rd_sr1, rd_sr2]
      refine J_step eP (c_in24 hx hc (fun _ => J_dead (c_in_stop hx.1 hc (.inr (.inl ⟨h2, by decide, rfl⟩))) (P_fault f2)) (fun _ => J_dead (c_in_stop hx.1 hc (.inr (.inl ⟨h2, by decide, rfl⟩))) (P_fault f2)))
    · have hcm : ¬ lg_cmp v t1 = 0 := fun z => heq ((cmpI (x := v) (y := t1)).1 z)
      have hcm2 : ¬ lg_cmp (lx_tx T n (lx_st T n i)) t1 = 0 := by rw [← hv']; exact hcm
      simp only [kL] at hcm2
      refine J_F hcm (c_in24 hx hc (fun h16 => ?_) (fun h16 => ?_))
      · obtain ⟨M1, N1, r, e1, e2, e3, e4⟩ := j_nm hx hc hr1 h2 h16 hv'
        have eP : fX11_parse_26 N = fX11_parse_26 N1 := by
          refine P_go (hg.trans ?_)
          simp only [kL] at e2
          unfold fX11_onRest fX11_onRest_111
          simp (disch := omega) only [et', et2, show lx_tk 2 = 10 from rfl, r2, g74, h69, hkey, hcm2, e2, k_iT, k_iF, Bool.false_eq_true, eq_self, Nat.add_zero, k_lt', k_bs, k_T, k_F, k_inb, k_ck, k_nz, ↓kN, kL, k_lt, k_le, k_eq, kn_le, kn_lt, kn_eq, kn_le', kn_lt', kn_eq', nI_clamp, nI_add, k_sub, k_mul, k_div, rd_hi, rd_mi, rd_hl, rd_ml, rd_hr, rd_mr, rd_si2, rd_sl1, rd_sl2, rd_sr1, rd_sr2]
        rw [e1]
        refine J_step eP ?_
        rcases e4 with ⟨nb, pl, d1, d2⟩ | ⟨d0, d1, d2, d3, d4, d5⟩
        · exact J_dead (ok_some d1) (P_fault d2)
        · exact J_some ⟨h16, d1, d2, d3, rX_trans (rS_X hs1) e3 (by omega), d4.trans d5.symm⟩
      · obtain ⟨N', q1, q2⟩ := r_name_stop (v := 6) hx hr1 (.inr ⟨h2, h16, rfl⟩)
        have eP : fX11_parse_26 N = fX11_parse_26 N' := by
          refine P_go (hg.trans ?_)
          simp only [kL] at q1
          unfold fX11_onRest fX11_onRest_111
          simp (disch := omega) only [et', et2, show lx_tk 2 = 10 from rfl, r2, g74, h69, hkey, hcm2, q1, k_iT, k_iF, Bool.false_eq_true, eq_self, Nat.add_zero, k_lt', k_bs, k_T, k_F, k_inb, k_ck, k_nz, ↓kN, kL, k_lt, k_le, k_eq, kn_le, kn_lt, kn_eq, kn_le', kn_lt', kn_eq', nI_clamp, nI_add, k_sub, k_mul, k_div, rd_hi, rd_mi, rd_hl, rd_ml, rd_hr, rd_mr, rd_si2, rd_sl1, rd_sl2, rd_sr1, rd_sr2]
        exact J_step eP (J_dead (c_in_stop hx.1 hc (.inr (.inr ⟨h2, rfl, by decide, rfl⟩))) (P_fault q2))
  · obtain ⟨N', q1, q2⟩ := r_name_stop (v := 2) hx hr1 (.inl ⟨h2, rfl⟩)
    have eP : fX11_parse_26 N = fX11_parse_26 N' := by
      refine P_go (hg.trans ?_)
      simp only [kL] at q1
      unfold fX11_onRest fX11_onRest_111
      simp (disch := omega) only [et, et2, t10, h2, q1, k_iT, k_iF, Bool.false_eq_true, eq_self, Nat.add_zero, k_lt', k_bs, k_T, k_F, k_inb, k_ck, k_nz, ↓kN, kL, k_lt, k_le, k_eq, kn_le, kn_lt, kn_eq, kn_le', kn_lt', kn_eq', nI_clamp, nI_add, k_sub, k_mul, k_div, rd_hi, rd_mi, rd_hl, rd_ml, rd_hr, rd_mr, rd_si2, rd_sl1, rd_sl2, rd_sr1, rd_sr2]
    have all : ∀ s0 : Int32, ∀ Q, J b h M0 N0 T n cnt f N (fX3_parseInnerName_24 v s0 M) Q := fun s0 Q => J_step eP (c_in24 hx hc (fun _ => J_dead (c_in_stop hx.1 hc (.inl ⟨h2, rfl⟩)) (P_fault q2)) (fun _ => J_dead (c_in_stop hx.1 hc (.inl ⟨h2, rfl⟩)) (P_fault q2)))
    by_cases hz : lg_cmp v t1 = 0
    · exact J_T hz (all _ _)
    · exact J_F hz (all _ _)
end JN
