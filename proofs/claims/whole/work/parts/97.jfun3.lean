/-! one function is read: both sides -/
section FW
variable {α β : Type} {b h n cnt f i m nd nb pl xn an ot p F : Nat} {M M' M0 M1 M2 N N' N0 N1 N2 : mv_M} {T : Nat → Nat}
theorem c_txt (hx : cX b M0 T n cnt) (hW : cW b M0 M) (hi : i ≤ 1000) : ∃ v, fX8_textOf (nI i) M = some (v, M) := by
  obtain ⟨a1, a2, a3, a4, a5⟩ := cW_tok hx hW
  have hcnt := hx.2.2.1.2.1
  unfold fX8_textOf fX8_textOf_12
  by_cases hl : i < cnt
  · exact ⟨M.2.1 42 i, by simp (disch := omega) only [a1, k_iT, k_iF, Bool.false_eq_true, eq_self, Nat.add_zero, k_lt', k_bs, k_T, k_F, k_inb, k_ck, k_nz, ↓kN, kL, k_lt, k_le, k_eq, kn_le, kn_lt, kn_eq, kn_le', kn_lt', kn_eq', nI_clamp, nI_add, k_sub, k_mul, k_div, rd_hi, rd_mi, rd_hl, rd_ml, rd_hr, rd_mr, rd_si2, rd_sl1, rd_sl2, rd_sr1, rd_sr2]⟩
  · exact ⟨0, by simp (disch := omega) only [a1, k_iT, k_iF, Bool.false_eq_true, eq_self, Nat.add_zero, k_lt', k_bs, k_T, k_F, k_inb, k_ck, k_nz, ↓kN, kL, k_lt, k_le, k_eq, kn_le, kn_lt, kn_eq, kn_le', kn_lt', kn_eq', nI_clamp, nI_add, k_sub, k_mul, k_div, rd_hi, rd_mi, rd_hl, rd_ml, rd_hr, rd_mr, rd_si2, rd_sl1, rd_sl2, rd_sr1, rd_sr2]⟩
theorem c_pass1 (h : cS b M0 T n cnt F i nd M) (hi : i < 1000) : fX3_pass M = some ((), mv_si M 3 3 (nI (i + 1))) := by
  have h3 := h.2.1
  unfold fX3_pass
  simp (disch := omega) only [h3, k_iT, k_iF, Bool.false_eq_true, eq_self, Nat.add_zero, k_lt', k_bs, k_T, k_F, k_inb, k_ck, k_nz, ↓kN, kL, k_lt, k_le, k_eq, kn_le, kn_lt, kn_eq, kn_le', kn_lt', kn_eq', nI_clamp, nI_add, k_sub, k_mul, k_div, rd_hi, rd_mi, rd_hl, rd_ml, rd_hr, rd_mr, rd_si2, rd_sl1, rd_sl2, rd_sr1, rd_sr2]
theorem c_pass2 (hx : cX b M0 T n cnt) (h : cS b M0 T n cnt F i nd M) (hi : i = 1000) : ∃ M', fX3_pass M = some ((), M') ∧ cZ b M0 cnt 6 (lx_st T n i) M' := by
  obtain ⟨M', e1, e2⟩ := cS_stop (v := 6) hx h (by omega) (by omega)
  refine ⟨M', ?_, e2⟩
  have h3 := h.2.1
  unfold fX3_pass
  simp (disch := omega) only [h3, e1, k_iT, k_iF, Bool.false_eq_true, eq_self, Nat.add_zero, k_lt', k_bs, k_T, k_F, k_inb, k_ck, k_nz, ↓kN, kL, k_lt, k_le, k_eq, kn_le, kn_lt, kn_eq, kn_le', kn_lt', kn_eq', nI_clamp, nI_add, k_sub, k_mul, k_div, rd_hi, rd_mi, rd_hl, rd_ml, rd_hr, rd_mr, rd_si2, rd_sl1, rd_sl2, rd_sr1, rd_sr2]
/-- the title can't be taken -/
theorem c_47z {x : Int64} {s0 s1 : Int32} (e : fX3_takeNewName s1 s0 M = some ((), M')) (z : cZ b M0 cnt nb pl M') : fX3_parseFunction_47 x s0 s1 M = some ((), M') := by
  obtain ⟨z1, z2, z3, z4, _⟩ := z
  unfold fX3_parseFunction_47
  simp (disch := omega) only [e, z2, k_iT, k_iF, Bool.false_eq_true, eq_self, Nat.add_zero, k_lt', k_bs, k_T, k_F, k_inb, k_ck, k_nz, ↓kN, kL, k_lt, k_le, k_eq, kn_le, kn_lt, kn_eq, kn_le', kn_lt', kn_eq', nI_clamp, nI_add, k_sub, k_mul, k_div, rd_hi, rd_mi, rd_hl, rd_ml, rd_hr, rd_mr, rd_si2, rd_sl1, rd_sl2, rd_sr1, rd_sr2]
theorem c_dead (hx : cX b M0 T n cnt) (hd : cD b M0 T n cnt F nb pl M) : mv_ok (mv_bind (fX3_kind M) fun r13 M14 => if r13 = 41 then fX3_parseFunction_99 M14 else mv_bind (fX3_parseParams M14) fun _ M15 => fX3_parseFunction_99 M15) (fun _ M' => cR b M0 cnt F nb pl M') := by
  obtain ⟨v, hv, e⟩ := cD_kind hx hd
  rw [e, k_bs]
  refine ok_F (fun z => by rw [show (41 : Int32) = nI 41 from rfl, k_eq (by omega) (by omega)] at z; omega) ?_
  unfold fX3_parseParams
  refine ok_bind (ok_bind (ok_mono (cD_param hx hd) (fun _ M1 h1 => ok_mono (cD_ploop hx h1) (fun _ M2 h2 => cD_k0 hx h2))))
def rFg (h f xn an : Nat) (N N' : mv_M) : Prop := (∀ c k, (65 ≤ c ∧ c ≤ 68 ∧ k < 12 * h + f) ∨ (c = 70 ∧ k < 16 * (12 * h + f)) ∨ (71 ≤ c ∧ c ≤ 76 ∧ k < xn) ∨ (c = 78 ∧ k < an) → N'.1 c k = N.1 c k) ∧ (∀ c k, (c = 64 ∧ k < 12 * h + f) ∨ (c = 69 ∧ k < 16 * (12 * h + f)) ∨ (c = 77 ∧ k < xn) → N'.2.1 c k = N.2.1 c k)
/-- what comes of a function -/
def FO (b h : Nat) (M0 N0 : mv_M) (T : Nat → Nat) (n cnt F i nd xn an : Nat) (M N M' N' : mv_M) : Prop := (∃ nb pl, (cZ b M0 cnt nb pl M' ∨ (F < 12 ∧ cBd b M0 T n cnt nb pl M')) ∧ rZ h N0 nb pl N') ∨ (F < 12 ∧ ∃ i' nd' xn' an' p m g, i < i' ∧ cS b M0 T n cnt (F + 1) i' nd' M' ∧ rSt h N0 T n (F + 1) i' xn' an' N' ∧ (M'.2.1 (b + 1) F = N'.2.1 64 (12 * h + F) ∧ ∀ j, j < F → M.2.1 (b + 1) j ≠ M'.2.1 (b + 1) F) ∧ FR b h T n F nd nd' xn xn' an' p m g M' N' ∧ (nd ≤ nd' ∧ xn ≤ xn' ∧ an ≤ an' ∧ xn' ≤ 1001 * h + i' ∧ an' ≤ 1001 * h + i') ∧ cFf b F nd M M' ∧ rFg h F xn an N N')
/-- from its parameters on -/
theorem j_end (hx : pX b h M0 N0 T n cnt F) (hA : AP b h M0 N0 T n cnt F nd xn an i p M1 N1) (hB : 1001 * h ≤ xn ∧ xn ≤ 1001 * h + i ∧ 1001 * h ≤ an ∧ an ≤ 1001 * h + i) (hi : f < i) (h27 : N1.1 62 27 = nI h) (h28 : N1.1 62 28 = nI (F + 1)) (hti : M1.2.1 (b + 1) F = N1.2.1 64 (12 * h + F)) (hno : ∀ j, j < F → M.2.1 (b + 1) j ≠ M1.2.1 (b + 1) F) (hf1 : cFf b F nd M M1) (hf2 : rFg h F xn an N N1) : ∃ M' N', fX3_parseFunction_99 M1 = some ((), M') ∧ fX11_definition_210 (nI 0) N1 = some ((), N') ∧ FO b h M0 N0 T n cnt F f nd xn an M N M' N' := by
  obtain ⟨M', N', e1, e2, e3⟩ := j_tail hx hA hB
  refine ⟨M', N', e1, e2, ?_⟩
  rcases e3 with ⟨nb, pl, z1, z2⟩ | ⟨nb, pl, z1, z2⟩ | ⟨i', m', nd', xn', an', g, z1, z2, z3, z4, z5, z6, z7, z8, z9, zA, zB, zC, zD⟩
  · exact .inl ⟨nb, pl, .inl (cR_Z z1), rFt_Z z2⟩
  · exact .inl ⟨nb, pl, (cD_Z z1).elim .inl (fun z => .inr ⟨hx.2.2.2, z⟩), rFt_Z z2⟩
  · refine .inr ⟨hx.2.2.2, i', nd', xn', an', p, m', g, by omega, ?_, ?_, ?_, z8, ⟨z9, z3, z4, z2, z5⟩, ⟨fun c k u => (zA.1 c k u).trans (hf1.1 c k u), fun c k u => (zA.2 c k u).trans (hf1.2 c k u)⟩, ⟨fun c k u => (zB.1 c k (by omega)).trans (hf2.1 c k u), fun c k u => (zB.2 c k u).trans (hf2.2 c k u)⟩⟩
    · obtain ⟨⟨g1, g2, g3, g4, g5⟩, g6, g7, g8, g9, g10, g11, g12, g13, g14⟩ := z6
      exact ⟨g1, g6, g7, g8, g9, g4, by omega, g12, g13, g14⟩
    · obtain ⟨⟨g1, g2, g3, g4, g5, g6⟩, g7, g8, g9⟩ := z7
      exact ⟨g1, g4, g5, g6, (zB.1 _ _ (by omega)).trans h27, (zB.1 _ _ (by omega)).trans h28, g7, g8, g9⟩
    · rw [zC, zD]
      exact ⟨hti, hno⟩
set_option maxHeartbeats 4000000 in
theorem j_open (hx : pX b h M0 N0 T n cnt F) (hA : AP b h M0 N0 T n cnt F nd xn an i 0 M1 N1) (hB : 1001 * h ≤ xn ∧ xn ≤ 1001 * h + i ∧ 1001 * h ≤ an ∧ an ≤ 1001 * h + i) (hi : f < i) (h27 : N1.1 62 27 = nI h) (h28 : N1.1 62 28 = nI (F + 1)) (hti : M1.2.1 (b + 1) F = N1.2.1 64 (12 * h + F)) (hno : ∀ j, j < F → M.2.1 (b + 1) j ≠ M1.2.1 (b + 1) F) (hf1 : cFf b F nd M M1) (hf2 : rFg h F xn an N N1) : ∃ M' N', (mv_bind (fX3_kind M1) fun r13 M14 => if r13 = 41 then fX3_parseFunction_99 M14 else mv_bind (fX3_parseParams M14) fun _ M15 => fX3_parseFunction_99 M15) = some ((), M') ∧ (if (N1.1 62 9) = 0 then if (N1.1 62 4) = 15 then fX11_definition_210 (nI 0) N1 else fX11_definition_210 (nI 1) N1 else fX11_definition_210 (nI 0) N1) = some ((), N') ∧ FO b h M0 N0 T n cnt F f nd xn an M N M' N' := by
  have hb := hx.1.1
  have hh := hx.2.2.1
  have hF := hx.2.2.2
  have ek := cO_kind hx.1 hA.1
  have hv := vk_k (T := T) (n := n) (s := lx_st T n i)
  have hv2 : lx_k T n (lx_st T n i) < 2 ^ 31 := by unfold vk at hv; omega
  have n9 : N1.1 62 9 = nI 0 := hA.2.2.1.1.2.2.2.2.2
  have n4 : N1.1 62 4 = nI (lx_tk (lx_k T n (lx_st T n i))) := hA.2.2.1.1.2.2.2.1.2.1
  have t15 := tkA hv (r := 15) (by omega)
  rw [kt15] at t15
  rw [ek, k_bs, n9, n4, if_pos (show nI 0 = 0 from rfl), show (15 : Int32) = nI 15 from rfl]
  by_cases h41 : lx_k T n (lx_st T n i) = 41
  · rw [if_pos (by rw [h41]; rfl), if_pos (by rw [t15]; exact h41)]
    exact j_end hx hA hB hi h27 h28 hti hno hf1 hf2
  rw [if_neg (by rw [show (41 : Int32) = nI 41 from rfl, k_eq hv2 (by omega)]; exact h41), if_neg (by rw [t15]; exact h41)]
  unfold fX3_parseParams
  obtain ⟨M2, e1, e2⟩ := j_param hx hA.1 hA.2.1 hA.2.2.1 hA.2.2.2.1 (by omega) hA.2.2.2.2.2.1
  rw [e1, k_bs]
  rcases e2 with ⟨nb, pl, N2, d1, d2, d3⟩ | ⟨i2, N2, y, g1, g2, g3, g4, g5, g6, g7, g8, g9, gA, gB, gC, gD⟩
  · obtain ⟨_, M3, u1, u2⟩ := ok_ex (cD_ploop (x := 0) hx.1 d1)
    obtain ⟨_, M4, u3, u4⟩ := ok_ex (cD_k0 hx.1 u2)
    obtain ⟨N3, u5, u6⟩ := rFt_r0 hh hF d2
    refine ⟨M4, N3, ?_, ?_, .inl ⟨nb, pl, .inl (cR_Z u4), rFt_Z u6⟩⟩
    · rw [u1, k_bs, u3]
    · rw [r210 d3, u5]
  · have hA2 := AP_step hA g4 g5 g6 g7 (by omega) g8 g2 g9 gA gB gC
    obtain ⟨M3, N3, u1, u2, u3⟩ := j_ploop hx 3 1 0 i2 M2 N2 N1 (by omega) (by omega) hA2 gD
    have u1' : fX3_parseParams_6 0 M2 = some ((), M3) := u1
    rw [u1', k_bs, u2]
    rcases u3 with ⟨nb, pl, d1, d2⟩ | ⟨i3, p3, v1, v2, v3, v4, v5⟩
    · obtain ⟨_, M4, w3, w4⟩ := ok_ex (cD_k0 hx.1 d1)
      obtain ⟨N4, w5, w6⟩ := rFt_r0 hh hF d2
      exact ⟨M4, N4, w3, w5, .inl ⟨nb, pl, .inl (cR_Z w4), rFt_Z w6⟩⟩
    · have cc : cPf b F 0 nd M1 M3 := cPf_trans gB v4 (by omega)
      have rr : rPf h F 0 N1 N3 := rPf_trans gC v5 (by omega)
      refine j_end hx v3 (by omega) (by omega) ((rr.1 _ _ (by omega)).trans h27) ((rr.1 _ _ (by omega)).trans h28) ?_ (fun j hj => by rw [cc.2 _ _ (by omega)]; exact hno j hj) ⟨fun c k u => (cc.1 c k (by omega)).trans (hf1.1 c k u), fun c k u => (cc.2 c k (by omega)).trans (hf1.2 c k u)⟩ ⟨fun c k u => (rr.1 c k (by omega)).trans (hf2.1 c k u), fun c k u => (rr.2 c k (by omega)).trans (hf2.2 c k u)⟩
      rw [cc.2 _ _ (by omega), rr.2 _ _ (by omega)]
      exact hti
end FW
