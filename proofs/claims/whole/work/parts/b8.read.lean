/-! READING, both sides -/
/-- what reading may change, of the class's memory (into the program at b) and of the reference's (into bank h) -/
def cRd (b c : Nat) : Prop := c = 1 ∨ c = 2 ∨ c = 3 ∨ c = 4 ∨ (40 ≤ c ∧ c ≤ 43) ∨ (b ≤ c ∧ c ≤ b + 14)
def rRd (h c k : Nat) : Prop := (c = 62 ∧ k ≤ 44) ∨ (64 ≤ c ∧ c ≤ 68 ∧ 12 * h ≤ k ∧ k < 12 * h + 12) ∨ (69 ≤ c ∧ c ≤ 70 ∧ 192 * h ≤ k ∧ k < 192 * h + 192) ∨ (71 ≤ c ∧ c ≤ 78 ∧ 1001 * h ≤ k ∧ k < 1001 * h + 1001) ∨ (80 ≤ c ∧ c ≤ 86)
section RDA
variable {b bp h n cnt F ip he : Nat} {M M' M0 N N' N0 : mv_M} {T : Nat → Nat}
theorem r_168 (hh : h ≤ 1) (e9 : N.1 62 9 = nI 0) (e27 : N.1 62 27 = nI h) (e28 : N.1 62 28 = nI F) : fX11_read_168 N = some (nI F, mv_si (mv_si (mv_si (mv_si (mv_si (mv_si N 62 2 (nI 0)) 62 47 (nI h)) 79 h (nI F)) 62 45 (nI 1)) 62 46 (nI 0)) 62 75 nN) := by
  unfold fX11_read_168
  simp (disch := omega) only [e9, e27, e28, k_iT, k_iF, Bool.false_eq_true, eq_self, Nat.add_zero, k_lt', k_bs, k_T, k_F, k_inb, k_ck, k_nz, ↓kN, kL, k_lt, k_le, k_eq, kn_le, kn_lt, kn_eq, kn_le', kn_lt', kn_eq', nI_clamp, nI_add, k_sub, k_mul, k_div, rd_hi, rd_mi, rd_hl, rd_ml, rd_hr, rd_mr, rd_si2, rd_sl1, rd_sl2, rd_sr1, rd_sr2]
theorem r_168z {nb : Nat} (e9 : N.1 62 9 = nI nb) (h1 : 0 < nb) (h2 : nb ≤ 6) : fX11_read_168 N = some (-(nI nb), mv_si N 62 2 (nI 0)) := by
  unfold fX11_read_168
  simp (disch := omega) only [e9, k_iT, k_iF, Bool.false_eq_true, eq_self, Nat.add_zero, k_lt', k_bs, k_T, k_F, k_inb, k_ck, k_nz, ↓kN, kL, k_lt, k_le, k_eq, kn_le, kn_lt, kn_eq, kn_le', kn_lt', kn_eq', nI_clamp, nI_add, k_sub, k_mul, k_div, rd_hi, rd_mi, rd_hl, rd_ml, rd_hr, rd_mr, rd_si2, rd_sl1, rd_sl2, rd_sr1, rd_sr2]
/-- parsing and typing -/
theorem j_both (hb : b = 9 ∨ b = 24) (ht : c_toks M T n cnt) (hn : n ≤ 4000) (h10 : M.1 1 0 = nI 0) (hr : r_tape N T n) (hh : h ≤ 1) (n27 : N.1 62 27 = nI h) (n28 : N.1 62 28 = nI 0) (n29 : N.1 62 29 = nI (1001 * h)) (n30 : N.1 62 30 = nI (1001 * h)) (n32 : N.1 62 32 = nI 0) (n3 : N.1 62 3 = nI 0) (n6 : N.1 62 6 = nI 0) (n9 : N.1 62 9 = nI 0) : ∃ M1 M' N', fX3_parse b M = some ((), M1) ∧ M1.2.2 = (mv_sr M 3 2 (some b)).2.2 ∧ fX9_judge b M1 = some ((), M') ∧ (mv_bind (fX11_next N) fun _ M11 => mv_bind (fX11_definition M11) fun _ M12 => fX11_read_91 M12) = fX11_read_168 N' ∧ (∀ c k, ¬ cRd b c → M'.1 c k = M.1 c k) ∧ M'.2.2 = (mv_sr (mv_sr M 3 2 (some b)) 4 2 (some b)).2.2 ∧ (∀ c k, ¬ rRd h c k → N'.1 c k = N.1 c k) ∧ N'.2.2 = N.2.2 ∧ N'.1 62 27 = nI h ∧ ((∃ nb pl, M'.1 1 0 = nI nb ∧ 0 < nb ∧ nb ≤ 6 ∧ M'.1 1 1 = nI pl ∧ N'.1 62 9 = nI nb ∧ N'.1 62 10 = nI pl) ∨ (M'.1 1 0 = nI 0 ∧ N'.1 62 9 = nI 0 ∧ M'.1 1 1 = M.1 1 1 ∧ N'.1 62 10 = N.1 62 10 ∧ ∃ P F ND, N'.1 62 28 = nI F ∧ M'.1 b 0 = nI F ∧ (WFp P F ND ∧ WSc P F ∧ Hf h P F) ∧ ∀ N'', (∀ c k, c ≠ 79 → c ≠ 62 → N''.1 c k = N'.1 c k) → N''.1 79 h = nI F → PR b h P F ND M' N'')) := by
  obtain ⟨M1, N1, u1, u2, u3⟩ := j_parse hb ht hn h10 hr hh n27 n28 n29 n30 n32 n3 n6 n9
  have hx : cX b (mv_sr M 3 2 (some b)) T n cnt := ⟨hb, by simp (disch := omega) only [rd_hi, rd_mi, rd_hl, rd_ml, rd_hr, rd_mr, rd_si2, rd_sl1, rd_sl2, rd_sr1, rd_sr2], ht, hn⟩
  have hcW : cW b (mv_sr M 3 2 (some b)) M1 := by
    rcases u3 with ⟨nb, pl, z1, z2⟩ | ⟨F, i, lo, xl, an, G, hF, hL⟩
    · exact z1.1
    · exact hL.1.1
  have hrW : rW h N N1 := by
    rcases u3 with ⟨nb, pl, z1, z2⟩ | ⟨F, i, lo, xl, an, G, hF, hL⟩
    · exact z2.1
    · exact hL.2.1.1
  have f27 : N1.1 62 27 = nI h := (hrW.1 _ _ (by unfold rWa; omega)).trans n27
  have gp : ∀ {γ : Type} (X : mv_M) (K : Nat → Option γ), X.2.2 4 2 = some b → mv_getp (X.2.2 4 2) K = K b := by
    intro γ X K e
    have hb2 : (decide (b = 9) || decide (b = 24)) = true := by simpa using hb
    rw [e]
    show mv_chk (decide (b = 9) || decide (b = 24)) (K b) = K b
    rw [hb2]; rfl
  rcases u3 with ⟨nb, pl, z1, z2⟩ | ⟨F, i, lo, xl, an, G, hF, hL⟩
  · obtain ⟨a1, a2, a3, a4, a5, a6⟩ := z1
    obtain ⟨b1, b2, b3, b4, b5⟩ := z2
    refine ⟨M1, mv_sr M1 4 2 (some b), mv_si N1 62 33 (nI (12 * h)), u1, a1.2.2, ?_, ?_, fun c k z => ?_, ?_, fun c k z => ?_, b1.2.2, by simp (disch := omega) only [rd_hi, rd_mi, rd_hl, rd_ml, rd_hr, rd_mr, rd_si2, rd_sl1, rd_sl2, rd_sr1, rd_sr2]; exact f27, .inl ⟨nb, pl, by simp (disch := omega) only [rd_hi, rd_mi, rd_hl, rd_ml, rd_hr, rd_mr, rd_si2, rd_sl1, rd_sl2, rd_sr1, rd_sr2]; exact a2, a3, a4, by simp (disch := omega) only [rd_hi, rd_mi, rd_hl, rd_ml, rd_hr, rd_mr, rd_si2, rd_sl1, rd_sl2, rd_sr1, rd_sr2]; exact a5, by simp (disch := omega) only [rd_hi, rd_mi, rd_hl, rd_ml, rd_hr, rd_mr, rd_si2, rd_sl1, rd_sl2, rd_sr1, rd_sr2]; exact b2, by simp (disch := omega) only [rd_hi, rd_mi, rd_hl, rd_ml, rd_hr, rd_mr, rd_si2, rd_sl1, rd_sl2, rd_sr1, rd_sr2]; exact b5⟩⟩
    · have e0 : (mv_sr M1 4 2 (some b)).1 1 0 = nI nb := by simp (disch := omega) only [rd_hi, rd_mi, rd_hl, rd_ml, rd_hr, rd_mr, rd_si2, rd_sl1, rd_sl2, rd_sr1, rd_sr2]; exact a2
      have e1 : (mv_sr M1 4 2 (some b)).2.2 4 2 = some b := by simp (disch := omega) only [rd_hi, rd_mi, rd_hl, rd_ml, rd_hr, rd_mr, rd_si2, rd_sl1, rd_sl2, rd_sr1, rd_sr2]
      unfold fX9_judge
      rw [k_lt']
      generalize mv_sr M1 4 2 (some b) = X at e0 e1 ⊢
      unfold fX9_judge_7
      refine lp_out (t := ()) ?_
      show gX9_judge_7 0 X = _
      unfold gX9_judge_7
      rw [gp X _ e1]
      by_cases hle : (X.1 b 0) ≤ (0 : Int32)
      · rw [if_pos hle]
      · rw [if_neg hle, e0, if_neg (by rw [kM, k_eq (by omega) (by omega)]; omega)]
    · rw [u2]
      unfold fX11_read_114
      rw [k_lt', f27, show (12 : Int32) = nI 12 from rfl, k_mul]
      have e0 : (mv_si N1 62 33 (nI (12 * h))).1 62 9 = nI nb := by simp (disch := omega) only [rd_hi, rd_mi, rd_hl, rd_ml, rd_hr, rd_mr, rd_si2, rd_sl1, rd_sl2, rd_sr1, rd_sr2]; exact b2
      generalize mv_si N1 62 33 (nI (12 * h)) = X at e0 ⊢
      unfold fX11_read_125
      refine lp_inr ?_
      show gX11_read_125 X = _
      unfold gX11_read_125
      by_cases hle : ((12 * (X.1 62 27)) + (X.1 62 28)) ≤ (X.1 62 33)
      · rw [if_pos hle]
      · rw [if_neg hle, e0, if_neg (by rw [kM, k_eq (by omega) (by omega)]; omega)]
    · unfold cRd at z
      simp (disch := omega) only [rd_hi, rd_mi, rd_hl, rd_ml, rd_hr, rd_mr, rd_si2, rd_sl1, rd_sl2, rd_sr1, rd_sr2]
      rw [a1.1 c k (by omega) (by omega) (by omega)]
      rfl
    · show (mv_sr M1 4 2 (some b)).2.2 = _
      have : M1.2.2 = (mv_sr M 3 2 (some b)).2.2 := a1.2.2
      funext c k
      rw [rd_sr, rd_sr, this]
    · unfold rRd at z
      simp (disch := omega) only [rd_hi, rd_mi, rd_hl, rd_ml, rd_hr, rd_mr, rd_si2, rd_sl1, rd_sl2, rd_sr1, rd_sr2]
      exact b1.1 c k (by unfold rWa; omega)
  · obtain ⟨pf, mf, lab, g1, g2, g3, g4, g5⟩ := x_ready (cnt0 := 0) hx hh hF hL
    have l28 : N1.1 62 28 = nI F := hL.2.1.2.2.2.2.2.1
    have l10 := hL.1.2.2.2.2.2.2.2.2.2
    have l9 := hL.2.1.2.2.2.1
    generalize hMy : mv_si (mv_sr M1 4 2 (some b)) 4 3 (nI 0) = My at g1 g2
    generalize hNy : mv_si N1 62 33 (nI (12 * h)) = Ny at g1 g2 g5
    obtain ⟨M2, N2, w1, w2, w3, w4, w5⟩ := j_judges g1 g3 g4 g2 F 0 (by omega) (mv_sr M1 4 2 (some b)) Ny (by rw [← hMy]; exact ⟨fun c k z => by unfold yA at z; simp (disch := omega) only [rd_hi, rd_mi, rd_hl, rd_ml, rd_hr, rd_mr, rd_si2, rd_sl1, rd_sl2, rd_sr1, rd_sr2], rfl⟩) (by simp (disch := omega) only [rd_hi, rd_mi, rd_hl, rd_ml, rd_hr, rd_mr, rd_si2, rd_sl1, rd_sl2, rd_sr1, rd_sr2]; exact l10) ⟨fun _ _ _ => rfl, rfl⟩ (by rw [← hNy]; simp (disch := omega) only [rd_hi, rd_mi, rd_hl, rd_ml, rd_hr, rd_mr, rd_si2, rd_sl1, rd_sl2, rd_sr1, rd_sr2]; exact l9) (by rw [← hNy]; simp (disch := omega) only [rd_hi, rd_mi, rd_hl, rd_ml, rd_hr, rd_mr, rd_si2, rd_sl1, rd_sl2, rd_sr1, rd_sr2]; rfl) (by rw [← hMy]; exact ⟨fun k _ _ => by simp (disch := omega) only [rd_hi, rd_mi, rd_hl, rd_ml, rd_hr, rd_mr, rd_si2, rd_sl1, rd_sl2, rd_sr1, rd_sr2], fun k _ => by simp (disch := omega) only [rd_hi, rd_mi, rd_hl, rd_ml, rd_hr, rd_mr, rd_si2, rd_sl1, rd_sl2, rd_sr1, rd_sr2], fun _ _ => rfl, fun _ _ => rfl, fun q k pq _ _ _ _ => ⟨by simp (disch := omega) only [rd_hi, rd_mi, rd_hl, rd_ml, rd_hr, rd_mr, rd_si2, rd_sl1, rd_sl2, rd_sr1, rd_sr2], rfl⟩⟩) (fun f hf => by omega)
    have jd : fX9_judge b M1 = some ((), M2) := by
      unfold fX9_judge
      rw [k_lt']
      exact w1
    have e27 : N2.1 62 27 = nI h := (w4.1 _ _ (by unfold zA; omega)).trans (by rw [← hNy]; simp (disch := omega) only [rd_hi, rd_mi, rd_hl, rd_ml, rd_hr, rd_mr, rd_si2, rd_sl1, rd_sl2, rd_sr1, rd_sr2]; exact f27)
    have rr : (mv_bind (fX11_next N) fun _ M11 => mv_bind (fX11_definition M11) fun _ M12 => fX11_read_91 M12) = fX11_read_168 N2 := by
      rw [u2]
      unfold fX11_read_114
      rw [k_lt', f27, show (12 : Int32) = nI 12 from rfl, k_mul, hNy]
      exact w2
    refine ⟨M1, M2, N2, u1, hcW.2.2, jd, rr, fun c k z => ?_, ?_, fun c k z => ?_, ?_, e27, ?_⟩
    · unfold cRd at z
      rw [w3.1 c k (by unfold yA; omega), ← hMy]
      simp (disch := omega) only [rd_hi, rd_mi, rd_hl, rd_ml, rd_hr, rd_mr, rd_si2, rd_sl1, rd_sl2, rd_sr1, rd_sr2]
      rw [hcW.1 c k (by omega) (by omega) (by omega)]
      rfl
    · rw [w3.2, ← hMy]
      show (mv_sr M1 4 2 (some b)).2.2 = _
      have : M1.2.2 = (mv_sr M 3 2 (some b)).2.2 := hcW.2.2
      funext c k
      rw [rd_sr, rd_sr, this]
    · unfold rRd at z
      rw [w4.1 c k (by unfold zA; omega), ← hNy]
      simp (disch := omega) only [rd_hi, rd_mi, rd_hl, rd_ml, rd_hr, rd_mr, rd_si2, rd_sl1, rd_sl2, rd_sr1, rd_sr2]
      exact hrW.1 c k (by unfold rWa; omega)
    · rw [w4.2, ← hNy]
      exact hrW.2.2
    · rcases w5 with w5 | ⟨v1, v2, v3, v4⟩
      · exact .inl w5
      · obtain ⟨P, q1, q2⟩ := x_prog g1 hF g3 g2 w3 w4 v3 v4 g5
        have pl1 : M2.1 1 1 = M.1 1 1 := by
          have z1 := rl_bind (c := 1) (i := 0) (j := 1) (f := fun _ M1 => fX9_judge b M1) (iX3_parse b M) (fun _ M1 => iX9_judge b M1) () M2 (by rw [u1, k_bs]; exact jd) v1
          exact z1.2
        have pl2 : N2.1 62 10 = N.1 62 10 := by
          have e28 : N2.1 62 28 = nI F := (w4.1 _ _ (by unfold zA; omega)).trans (by rw [← hNy]; simp (disch := omega) only [rd_hi, rd_mi, rd_hl, rd_ml, rd_hr, rd_mr, rd_si2, rd_sl1, rd_sl2, rd_sr1, rd_sr2]; exact l28)
          have e := r_168 hh v2 e27 e28
          have z2 := rl_bind (c := 62) (i := 9) (j := 10) (f := fun _ M11 => mv_bind (fX11_definition M11) fun _ M12 => fX11_read_91 M12) (iX11_next N) (fun _ M11 => rl_bind (iX11_definition M11) (fun _ M12 => iX11_read_91 M12)) _ _ (by rw [rr]; exact e) (by simp (disch := omega) only [rd_hi, rd_mi, rd_hl, rd_ml, rd_hr, rd_mr, rd_si2, rd_sl1, rd_sl2, rd_sr1, rd_sr2]; exact v2)
          have z3 := z2.2
          rw [← z3]
          simp (disch := omega) only [rd_hi, rd_mi, rd_hl, rd_ml, rd_hr, rd_mr, rd_si2, rd_sl1, rd_sl2, rd_sr1, rd_sr2]
        have m0 : M2.1 b 0 = nI F := (w3.1 b 0 (yA_ne hb).1).trans g1.1.2.2.2.1.1
        exact .inr ⟨v1, v2, pl1, pl2, P, F, lo F, (w4.1 _ _ (by unfold zA; omega)).trans (by rw [← hNy]; simp (disch := omega) only [rd_hi, rd_mi, rd_hl, rd_ml, rd_hr, rd_mr, rd_si2, rd_sl1, rd_sl2, rd_sr1, rd_sr2]; exact l28), m0, q1, q2⟩
end RDA
