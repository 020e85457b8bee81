/-! FUNCTION and CUT of both sides -/
section DF
variable {b h F ND f q n k d v : Nat} {M N : mv_M} {P : Nat → Nat → Nat} {R : Nat → Nat → Option (Nat → Nat)}
theorem j_func (hW : WFp P F ND) (hp : PR b h P F ND M N) (e45 : N.1 62 45 ≠ 0) (e47 : N.1 62 47 = nI h) (e07 : M.2.2 0 7 = some b) (a a1 : Int32) : (∃ v, fX10_function a a1 M = some (.inl v, M) ∧ fX11_function a a1 N = some (v, mv_si N 62 0 (nI 0))) ∨ (fX10_function a a1 M = some (.inr "java/lang/IndexOutOfBoundsException", M) ∧ fX11_function a a1 N = some (nI 0, mv_si N 62 0 (nI 1))) := by
  have hb := hp.1
  have hh := hp.2.1
  have hF := hW.2.1
  have n1 : ¬ (nI 1 = (0 : Int32)) := by rw [show (0 : Int32) = nI 0 from rfl, k_eq (by omega) (by omega)]; omega
  rcases i_fn hp hW.1 hW.2.1 e45 e47 a with ⟨q, hq, rfl, f1, f2⟩ | ⟨f1, f2⟩
  · have wf := hW.2.2.2 q hq
    have hp4 := wf.1
    have h10 := wf.2.1
    have h16 := wf.2.2.1
    have t4 := wf.2.2.2.1
    have hdm := dem_le (t := P 11 q)
    obtain ⟨⟨c2, c3, c4, c5⟩, ⟨r66, r67, r65, r68⟩, tys, _⟩ := hp.2.2.2.2.2 q hq
    have dmM := (cl_dem (t := P 11 q) (M := M) (by omega)).1
    have dmN := (cl_dem (t := P 11 q) (M := mv_si N 62 0 (nI 0)) (by omega)).2
    have ev : (12 * nI h + nI q : Int32) = nI (12 * h + q) := by simp (disch := omega) only [↓kN, kL, k_lt, k_le, k_eq, kn_le, kn_lt, kn_eq, kn_le', kn_lt', kn_eq', nI_clamp, nI_add, k_sub, k_mul, k_div, rd_hi, rd_mi, rd_hl, rd_ml, rd_hr, rd_mr, rd_si2, rd_sl1, rd_sl2, rd_sr1, rd_sr2]
    have C : fX10_function (nI q) a1 M = (if a1 < 0 then fX10_function_34 M else if a1 ≤ 2 then fX10_function_44 (nI q) a1 M else mv_bind (fX4_hasParam b (nI q) (a1 - 3) M) (fun r5 M6 => if r5 = 0 then fX10_function_34 M6 else fX10_function_44 (nI q) a1 M6)) := by
      unfold fX10_function
      rw [g07 hb e07, f2, k_bs, if_neg n1, g07 hb e07]
    have D : fX11_function (nI q) a1 N = fX11_function_40 a1 (nI (12 * h + q)) (nI (12 * h + q)) 2 0 a1.toInt64 N := by
      unfold fX11_function
      rw [e47, k_lt', f1, k_bs, if_neg n1, f1, k_bs, if_neg n1, ev]
    have wi := i_wi (M := N) a1 0 (nI (2 + P 9 q))
    rw [show (0 : Int32).toInt64 = 0 from rfl] at wi
    have D2 : ∀ v, v ≤ 1 → fX11_within a1.toInt64 0 (nI (2 + P 9 q)).toInt64 N = some (nI v, N) → fX11_function (nI q) a1 N = fX11_function_54 a1 (nI (12 * h + q)) (nI (1 - v)) N := by
      intro v hv w
      rw [D]
      unfold fX11_function_40 fX11_function_53
      rw [k_inb (by omega) (by omega), k_ck, nI_clamp (by omega), r66, show (2 + nI (P 9 q) : Int32) = nI (2 + P 9 q) by simp (disch := omega) only [↓kN, kL, k_lt, k_le, k_eq, kn_le, kn_lt, kn_eq, kn_le', kn_lt', kn_eq', nI_clamp, nI_add, k_sub, k_mul, k_div, rd_hi, rd_mi, rd_hl, rd_ml, rd_hr, rd_mr, rd_si2, rd_sl1, rd_sl2, rd_sr1, rd_sr2], w, k_bs]
      rcases (show v = 0 ∨ v = 1 by omega) with rfl | rfl
      · rw [if_pos (show nI 0 = 0 from rfl)]; rfl
      · rw [if_neg n1]; rfl
    rcases i_cs a1 (show 3 + P 9 q < 2 ^ 31 by omega) with ⟨x, hx, rfl⟩ | c | ⟨c1, c2'⟩
    · have w := wi.1 ⟨by rw [show (0 : Int32) = nI 0 from rfl, k_le (by omega) (by omega)]; omega, by rw [k_le (by omega) (by omega)]; omega⟩
      have E := D2 1 (by omega) w
      by_cases x0 : x = 0
      · subst x0
        refine .inl ⟨nI (P 9 q), ?_, ?_⟩
        · rw [C]
          unfold fX10_function_44
          rw [g07 hb e07]
          simp (disch := omega) only [c2, k_iT, k_iF, Bool.false_eq_true, eq_self, Nat.add_zero, k_lt', k_bs, k_T, k_F, k_inb, k_ck, k_nz, ↓kN, kL, k_lt, k_le, k_eq, kn_le, kn_lt, kn_eq, kn_le', kn_lt', kn_eq', nI_clamp, nI_add, k_sub, k_mul, k_div, rd_hi, rd_mi, rd_hl, rd_ml, rd_hr, rd_mr, rd_si2, rd_sl1, rd_sl2, rd_sr1, rd_sr2]
        · rw [E]
          unfold fX11_function_54
          simp (disch := omega) only [r66, k_iT, k_iF, Bool.false_eq_true, eq_self, Nat.add_zero, k_lt', k_bs, k_T, k_F, k_inb, k_ck, k_nz, ↓kN, kL, k_lt, k_le, k_eq, kn_le, kn_lt, kn_eq, kn_le', kn_lt', kn_eq', nI_clamp, nI_add, k_sub, k_mul, k_div, rd_hi, rd_mi, rd_hl, rd_ml, rd_hr, rd_mr, rd_si2, rd_sl1, rd_sl2, rd_sr1, rd_sr2]
      · by_cases x1 : x = 1
        · subst x1
          refine .inl ⟨nI (P 10 q), ?_, ?_⟩
          · rw [C]
            unfold fX10_function_44
            rw [g07 hb e07, g07 hb e07]
            simp (disch := omega) only [c3, k_iT, k_iF, Bool.false_eq_true, eq_self, Nat.add_zero, k_lt', k_bs, k_T, k_F, k_inb, k_ck, k_nz, ↓kN, kL, k_lt, k_le, k_eq, kn_le, kn_lt, kn_eq, kn_le', kn_lt', kn_eq', nI_clamp, nI_add, k_sub, k_mul, k_div, rd_hi, rd_mi, rd_hl, rd_ml, rd_hr, rd_mr, rd_si2, rd_sl1, rd_sl2, rd_sr1, rd_sr2]
          · rw [E]
            unfold fX11_function_54
            simp (disch := omega) only [r67, k_iT, k_iF, Bool.false_eq_true, eq_self, Nat.add_zero, k_lt', k_bs, k_T, k_F, k_inb, k_ck, k_nz, ↓kN, kL, k_lt, k_le, k_eq, kn_le, kn_lt, kn_eq, kn_le', kn_lt', kn_eq', nI_clamp, nI_add, k_sub, k_mul, k_div, rd_hi, rd_mi, rd_hl, rd_ml, rd_hr, rd_mr, rd_si2, rd_sl1, rd_sl2, rd_sr1, rd_sr2]
        · by_cases x2 : x = 2
          · subst x2
            refine .inl ⟨nI (dem (P 11 q)), ?_, ?_⟩
            · rw [C]
              unfold fX10_function_44
              rw [g07 hb e07, g07 hb e07, g07 hb e07]
              simp (disch := omega) only [c4, dmM, k_iT, k_iF, Bool.false_eq_true, eq_self, Nat.add_zero, k_lt', k_bs, k_T, k_F, k_inb, k_ck, k_nz, ↓kN, kL, k_lt, k_le, k_eq, kn_le, kn_lt, kn_eq, kn_le', kn_lt', kn_eq', nI_clamp, nI_add, k_sub, k_mul, k_div, rd_hi, rd_mi, rd_hl, rd_ml, rd_hr, rd_mr, rd_si2, rd_sl1, rd_sl2, rd_sr1, rd_sr2]
            · rw [E]
              unfold fX11_function_54 fX11_function_120
              simp (disch := omega) only [r65, dmN, k_iT, k_iF, Bool.false_eq_true, eq_self, Nat.add_zero, k_lt', k_bs, k_T, k_F, k_inb, k_ck, k_nz, ↓kN, kL, k_lt, k_le, k_eq, kn_le, kn_lt, kn_eq, kn_le', kn_lt', kn_eq', nI_clamp, nI_add, k_sub, k_mul, k_div, rd_hi, rd_mi, rd_hl, rd_ml, rd_hr, rd_mr, rd_si2, rd_sl1, rd_sl2, rd_sr1, rd_sr2]
          · obtain ⟨k, rfl⟩ : ∃ k, x = k + 3 := ⟨x - 3, by omega⟩
            have hk : k < P 9 q := by omega
            obtain ⟨nt, u4⟩ := i_nty hW hp hq hk
            have r70 := (tys k (by omega) u4).2
            have dk := cl_dem (t := P 13 (16 * q + k)) (M := M) (by omega)
            have dk' := (cl_dem (t := P 13 (16 * q + k)) (M := mv_si N 62 0 (nI 0)) (by omega)).2
            have hpar : fX4_hasParam b (nI q) (nI k) M = some (nI 1, M) := by
              unfold fX4_hasParam
              simp (disch := omega) only [f2, c2, k_iT, k_iF, Bool.false_eq_true, eq_self, Nat.add_zero, k_lt', k_bs, k_T, k_F, k_inb, k_ck, k_nz, ↓kN, kL, k_lt, k_le, k_eq, kn_le, kn_lt, kn_eq, kn_le', kn_lt', kn_eq', nI_clamp, nI_add, k_sub, k_mul, k_div, rd_hi, rd_mi, rd_hl, rd_ml, rd_hr, rd_mr, rd_si2, rd_sl1, rd_sl2, rd_sr1, rd_sr2]
            refine .inl ⟨nI (dem (P 13 (16 * q + k))), ?_, ?_⟩
            · have s3 : (nI (k + 3) - 3 : Int32) = nI k := by
                rw [show (3 : Int32) = nI 3 from rfl, k_sub (by omega), Nat.add_sub_cancel]
              have h1 := dk.1
              rw [C, s3, hpar]
              unfold fX10_function_44
              rw [g07 hb e07, g07 hb e07, g07 hb e07, s3]
              simp (disch := omega) only [k_iT, k_iF, Bool.false_eq_true, eq_self, Nat.add_zero, k_lt', k_bs, k_T, k_F, k_inb, k_ck, k_nz, ↓kN, kL, k_lt, k_le, k_eq, kn_le, kn_lt, kn_eq, kn_le', kn_lt', kn_eq', nI_clamp, nI_add, k_sub, k_mul, k_div, rd_hi, rd_mi, rd_hl, rd_ml, rd_hr, rd_mr, rd_si2, rd_sl1, rd_sl2, rd_sr1, rd_sr2]
              rw [g07 hb e07]
              simp (disch := omega) only [nt, h1, k_iT, k_iF, Bool.false_eq_true, eq_self, Nat.add_zero, k_lt', k_bs, k_T, k_F, k_inb, k_ck, k_nz, ↓kN, kL, k_lt, k_le, k_eq, kn_le, kn_lt, kn_eq, kn_le', kn_lt', kn_eq', nI_clamp, nI_add, k_sub, k_mul, k_div, rd_hi, rd_mi, rd_hl, rd_ml, rd_hr, rd_mr, rd_si2, rd_sl1, rd_sl2, rd_sr1, rd_sr2]
            · have e3 : 16 * (12 * h + q) + (k + 3) - 3 = 16 * (12 * h + q) + k := by omega
              rw [E]
              unfold fX11_function_54 fX11_function_120
              simp (disch := omega) only [e3, r70, dk', k_iT, k_iF, Bool.false_eq_true, eq_self, Nat.add_zero, k_lt', k_bs, k_T, k_F, k_inb, k_ck, k_nz, ↓kN, kL, k_lt, k_le, k_eq, kn_le, kn_lt, kn_eq, kn_le', kn_lt', kn_eq', nI_clamp, nI_add, k_sub, k_mul, k_div, rd_hi, rd_mi, rd_hl, rd_ml, rd_hr, rd_mr, rd_si2, rd_sl1, rd_sl2, rd_sr1, rd_sr2]
    · have w := wi.2 (fun z => by
        have := z.1
        rw [le_toInt] at this
        rw [lt_toInt] at c
        omega)
      refine .inr ⟨by rw [C, if_pos c]; rfl, ?_⟩
      rw [D2 0 (by omega) w]
      unfold fX11_function_54
      simp (disch := omega) only [k_iT, k_iF, Bool.false_eq_true, eq_self, Nat.add_zero, k_lt', k_bs, k_T, k_F, k_inb, k_ck, k_nz, ↓kN, kL, k_lt, k_le, k_eq, kn_le, kn_lt, kn_eq, kn_le', kn_lt', kn_eq', nI_clamp, nI_add, k_sub, k_mul, k_div, rd_hi, rd_mi, rd_hl, rd_ml, rd_hr, rd_mr, rd_si2, rd_sl1, rd_sl2, rd_sr1, rd_sr2]
    · rw [le_toInt, nI_toInt (by omega)] at c2'
      have w := wi.2 (fun z => by
        have := z.2
        rw [le_toInt, nI_toInt (by omega)] at this
        omega)
      refine .inr ⟨?_, ?_⟩
      · have hpar : fX4_hasParam b (nI q) (a1 - 3) M = some (nI 0, M) := by
          have hx : (a1 - 3 : Int32).toInt = a1.toInt - 3 := by
            have b1 := Int32.toInt_lt a1
            rw [Int32.toInt_sub, show (3 : Int32).toInt = 3 from rfl]
            apply Int.bmod_eq_of_le <;> omega
          unfold fX4_hasParam
          rw [f2, k_bs, if_neg n1, if_neg (by rw [lt_toInt, hx, show (0 : Int32).toInt = 0 from rfl]; omega), k_inb (by omega) (by omega), k_ck, nI_clamp (by omega), c2, if_pos (by rw [le_toInt, nI_toInt (by omega), hx]; omega)]
          rfl
        rw [C, if_neg c1, if_neg (by rw [le_toInt, show (2 : Int32).toInt = 2 from rfl]; omega), hpar]
        rfl
      · rw [D2 0 (by omega) w]
        unfold fX11_function_54
        simp (disch := omega) only [k_iT, k_iF, Bool.false_eq_true, eq_self, Nat.add_zero, k_lt', k_bs, k_T, k_F, k_inb, k_ck, k_nz, ↓kN, kL, k_lt, k_le, k_eq, kn_le, kn_lt, kn_eq, kn_le', kn_lt', kn_eq', nI_clamp, nI_add, k_sub, k_mul, k_div, rd_hi, rd_mi, rd_hl, rd_ml, rd_hr, rd_mr, rd_si2, rd_sl1, rd_sl2, rd_sr1, rd_sr2]
  · refine .inr ⟨?_, ?_⟩
    · unfold fX10_function
      rw [g07 hb e07, f2, k_bs, if_pos (show nI 0 = 0 from rfl)]
      rfl
    · unfold fX11_function fX11_function_53 fX11_function_54
      rw [k_lt', f1, k_bs, if_pos (show nI 0 = 0 from rfl)]
      simp (disch := omega) only [k_iT, k_iF, Bool.false_eq_true, eq_self, Nat.add_zero, k_lt', k_bs, k_T, k_F, k_inb, k_ck, k_nz, ↓kN, kL, k_lt, k_le, k_eq, kn_le, kn_lt, kn_eq, kn_le', kn_lt', kn_eq', nI_clamp, nI_add, k_sub, k_mul, k_div, rd_hi, rd_mi, rd_hl, rd_ml, rd_hr, rd_mr, rd_si2, rd_sl1, rd_sl2, rd_sr1, rd_sr2]
theorem j_cut (hn : n ≤ 4000) (e1 : M.1 2 1 = nI n) (e2 : N.1 62 2 = nI n) (a : Int32) : (∃ m, m ≤ n ∧ fX10_cut a M = some (.inl (nI (n - m)), mv_si M 2 1 (nI m)) ∧ fX11_cut a N = some (nI (n - m), mv_si (mv_si N 62 0 (nI 0)) 62 2 (nI m))) ∨ (fX10_cut a M = some (.inr "java/lang/IllegalArgumentException", M) ∧ fX11_cut a N = some (nI 0, mv_si N 62 0 (nI 1))) := by
  have wi := i_wi (M := N) a 0 (nI n)
  rw [show (0 : Int32).toInt64 = 0 from rfl] at wi
  rcases i_cs a (show n + 1 < 2 ^ 31 by omega) with ⟨m, hm, rfl⟩ | c | ⟨c1, c2⟩
  · have w := wi.1 ⟨by rw [show (0 : Int32) = nI 0 from rfl, k_le (by omega) (by omega)]; omega, by rw [k_le (by omega) (by omega)]; omega⟩
    refine .inl ⟨m, by omega, ?_, ?_⟩
    · unfold fX10_cut
      simp (disch := omega) only [e1, k_iT, k_iF, Bool.false_eq_true, eq_self, Nat.add_zero, k_lt', k_bs, k_T, k_F, k_inb, k_ck, k_nz, ↓kN, kL, k_lt, k_le, k_eq, kn_le, kn_lt, kn_eq, kn_le', kn_lt', kn_eq', nI_clamp, nI_add, k_sub, k_mul, k_div, rd_hi, rd_mi, rd_hl, rd_ml, rd_hr, rd_mr, rd_si2, rd_sl1, rd_sl2, rd_sr1, rd_sr2]
    · unfold fX11_cut fX11_cut_20
      rw [e2, w, k_bs]
      simp (disch := omega) only [e2, k_iT, k_iF, Bool.false_eq_true, eq_self, Nat.add_zero, k_lt', k_bs, k_T, k_F, k_inb, k_ck, k_nz, ↓kN, kL, k_lt, k_le, k_eq, kn_le, kn_lt, kn_eq, kn_le', kn_lt', kn_eq', nI_clamp, nI_add, k_sub, k_mul, k_div, rd_hi, rd_mi, rd_hl, rd_ml, rd_hr, rd_mr, rd_si2, rd_sl1, rd_sl2, rd_sr1, rd_sr2]
  · have w := wi.2 (fun z => by
      have := z.1
      rw [le_toInt] at this
      rw [lt_toInt] at c
      omega)
    refine .inr ⟨by unfold fX10_cut; rw [if_pos c]; rfl, ?_⟩
    unfold fX11_cut fX11_cut_20
    rw [e2, w, k_bs]
    simp (disch := omega) only [k_iT, k_iF, Bool.false_eq_true, eq_self, Nat.add_zero, k_lt', k_bs, k_T, k_F, k_inb, k_ck, k_nz, ↓kN, kL, k_lt, k_le, k_eq, kn_le, kn_lt, kn_eq, kn_le', kn_lt', kn_eq', nI_clamp, nI_add, k_sub, k_mul, k_div, rd_hi, rd_mi, rd_hl, rd_ml, rd_hr, rd_mr, rd_si2, rd_sl1, rd_sl2, rd_sr1, rd_sr2]
  · rw [le_toInt, nI_toInt (by omega)] at c2
    have w := wi.2 (fun z => by
      have := z.2
      rw [le_toInt, nI_toInt (by omega)] at this
      omega)
    refine .inr ⟨?_, ?_⟩
    · unfold fX10_cut
      rw [if_neg c1, e1, if_neg (by rw [le_toInt, nI_toInt (by omega)]; omega)]
      rfl
    · unfold fX11_cut fX11_cut_20
      rw [e2, w, k_bs]
      simp (disch := omega) only [k_iT, k_iF, Bool.false_eq_true, eq_self, Nat.add_zero, k_lt', k_bs, k_T, k_F, k_inb, k_ck, k_nz, ↓kN, kL, k_lt, k_le, k_eq, kn_le, kn_lt, kn_eq, kn_le', kn_lt', kn_eq', nI_clamp, nI_add, k_sub, k_mul, k_div, rd_hi, rd_mi, rd_hl, rd_ml, rd_hr, rd_mr, rd_si2, rd_sl1, rd_sl2, rd_sr1, rd_sr2]
theorem j_input (hn : n ≤ 40) (e1 : M.1 6 0 = nI n) (e2 : N.1 62 55 = nI n) (a x : Int32) : (n < 40 ∧ ∃ m, m ≤ 2 ∧ a = nI m ∧ fX10_input a x M = some (.inl (nI (n + 1)), mv_si (mv_si (mv_si M 48 n (nI m)) 49 n x) 6 0 (nI (n + 1))) ∧ fX11_input a x N = some (nI (n + 1), mv_si (mv_si (mv_si (mv_si N 62 0 (nI 0)) 92 n (nI m)) 93 n x) 62 55 (nI (n + 1)))) ∨ (fX10_input a x M = some (.inr "java/lang/IllegalArgumentException", M) ∧ fX11_input a x N = some (nI 0, mv_si N 62 0 (nI 1))) ∨ (fX10_input a x M = some (.inr "java/lang/IllegalStateException", M) ∧ fX11_input a x N = some (nI 0, mv_si N 62 0 (nI 2))) := by
  have wi := i_wi (M := N) a 0 2
  rw [show (0 : Int32).toInt64 = 0 from rfl, show (2 : Int32).toInt64 = 2 from rfl] at wi
  rcases i_cs a (show 3 < 2 ^ 31 by omega) with ⟨m, hm, rfl⟩ | c | ⟨c1, c2⟩
  · have w := wi.1 ⟨by rw [show (0 : Int32) = nI 0 from rfl, k_le (by omega) (by omega)]; omega, by rw [show (2 : Int32) = nI 2 from rfl, k_le (by omega) (by omega)]; omega⟩
    by_cases n40 : n = 40
    · subst n40
      refine .inr (.inr ⟨?_, ?_⟩)
      · unfold fX10_input
        simp (disch := omega) only [e1, k_iT, k_iF, Bool.false_eq_true, eq_self, Nat.add_zero, k_lt', k_bs, k_T, k_F, k_inb, k_ck, k_nz, ↓kN, kL, k_lt, k_le, k_eq, kn_le, kn_lt, kn_eq, kn_le', kn_lt', kn_eq', nI_clamp, nI_add, k_sub, k_mul, k_div, rd_hi, rd_mi, rd_hl, rd_ml, rd_hr, rd_mr, rd_si2, rd_sl1, rd_sl2, rd_sr1, rd_sr2]
      · unfold fX11_input fX11_input_31
        rw [w, k_bs]
        simp (disch := omega) only [e2, k_iT, k_iF, Bool.false_eq_true, eq_self, Nat.add_zero, k_lt', k_bs, k_T, k_F, k_inb, k_ck, k_nz, ↓kN, kL, k_lt, k_le, k_eq, kn_le, kn_lt, kn_eq, kn_le', kn_lt', kn_eq', nI_clamp, nI_add, k_sub, k_mul, k_div, rd_hi, rd_mi, rd_hl, rd_ml, rd_hr, rd_mr, rd_si2, rd_sl1, rd_sl2, rd_sr1, rd_sr2]
    · refine .inl ⟨by omega, m, by omega, rfl, ?_, ?_⟩
      · unfold fX10_input fX1_add
        simp (disch := omega) only [e1, k_iT, k_iF, Bool.false_eq_true, eq_self, Nat.add_zero, k_lt', k_bs, k_T, k_F, k_inb, k_ck, k_nz, ↓kN, kL, k_lt, k_le, k_eq, kn_le, kn_lt, kn_eq, kn_le', kn_lt', kn_eq', nI_clamp, nI_add, k_sub, k_mul, k_div, rd_hi, rd_mi, rd_hl, rd_ml, rd_hr, rd_mr, rd_si2, rd_sl1, rd_sl2, rd_sr1, rd_sr2]
      · unfold fX11_input fX11_input_31
        rw [w, k_bs]
        simp (disch := omega) only [e2, k_iT, k_iF, Bool.false_eq_true, eq_self, Nat.add_zero, k_lt', k_bs, k_T, k_F, k_inb, k_ck, k_nz, ↓kN, kL, k_lt, k_le, k_eq, kn_le, kn_lt, kn_eq, kn_le', kn_lt', kn_eq', nI_clamp, nI_add, k_sub, k_mul, k_div, rd_hi, rd_mi, rd_hl, rd_ml, rd_hr, rd_mr, rd_si2, rd_sl1, rd_sl2, rd_sr1, rd_sr2]
  · have w := wi.2 (fun z => by
      have := z.1
      rw [le_toInt] at this
      rw [lt_toInt] at c
      omega)
    refine .inr (.inl ⟨by unfold fX10_input; rw [if_pos c]; rfl, ?_⟩)
    unfold fX11_input fX11_input_31
    rw [w, k_bs]
    simp (disch := omega) only [k_iT, k_iF, Bool.false_eq_true, eq_self, Nat.add_zero, k_lt', k_bs, k_T, k_F, k_inb, k_ck, k_nz, ↓kN, kL, k_lt, k_le, k_eq, kn_le, kn_lt, kn_eq, kn_le', kn_lt', kn_eq', nI_clamp, nI_add, k_sub, k_mul, k_div, rd_hi, rd_mi, rd_hl, rd_ml, rd_hr, rd_mr, rd_si2, rd_sl1, rd_sl2, rd_sr1, rd_sr2]
  · rw [le_toInt, nI_toInt (by omega)] at c2
    have w := wi.2 (fun z => by
      have := z.2
      rw [le_toInt, show (2 : Int32).toInt = 2 from rfl] at this
      omega)
    refine .inr (.inl ⟨?_, ?_⟩)
    · unfold fX10_input
      rw [if_neg c1, if_neg (by rw [le_toInt, show (2 : Int32).toInt = 2 from rfl]; omega)]
      rfl
    · unfold fX11_input fX11_input_31
      rw [w, k_bs]
      simp (disch := omega) only [k_iT, k_iF, Bool.false_eq_true, eq_self, Nat.add_zero, k_lt', k_bs, k_T, k_F, k_inb, k_ck, k_nz, ↓kN, kL, k_lt, k_le, k_eq, kn_le, kn_lt, kn_eq, kn_le', kn_lt', kn_eq', nI_clamp, nI_add, k_sub, k_mul, k_div, rd_hi, rd_mi, rd_hl, rd_ml, rd_hr, rd_mr, rd_si2, rd_sl1, rd_sl2, rd_sr1, rd_sr2]
end DF
