/-! functions -/
def cS (b : Nat) (M0 : mv_M) (T : Nat → Nat) (n cnt F i nd : Nat) (M : mv_M) : Prop := cW b M0 M ∧ M.1 3 3 = nI i ∧ i ≤ cnt ∧ i ≤ 1000 ∧ lx_k T n (lx_st T n i) ≠ 1 ∧ M.1 b 0 = nI F ∧ F ≤ 12 ∧ M.1 b 8 = nI nd ∧ nd ≤ i ∧ M.1 1 0 = nI 0
def rSt (h : Nat) (N0 : mv_M) (T : Nat → Nat) (n F i xn an : Nat) (N : mv_M) : Prop := rW h N0 N ∧ r_at N T n (lx_st T n i) ∧ N.1 62 6 = nI (if lx_st T n i < n then i + 1 else i) ∧ N.1 62 9 = nI 0 ∧ N.1 62 27 = nI h ∧ N.1 62 28 = nI F ∧ N.1 62 29 = nI xn ∧ N.1 62 30 = nI an ∧ N.1 62 32 = nI 0
def cZ (b : Nat) (M0 : mv_M) (cnt nb pl : Nat) (M : mv_M) : Prop := cW b M0 M ∧ M.1 1 0 = nI nb ∧ 0 < nb ∧ nb ≤ 6 ∧ M.1 1 1 = nI pl ∧ M.1 3 3 = nI cnt
def cBd (b : Nat) (M0 : mv_M) (T : Nat → Nat) (n cnt nb pl : Nat) (M : mv_M) : Prop := cW b M0 M ∧ M.1 1 0 = nI 0 ∧ nb = 1 ∧ (∃ F, F ≤ 12 ∧ M.1 b 0 = nI F) ∧ ∃ j, j < cnt ∧ j ≤ 1000 ∧ M.1 3 3 = nI j ∧ lx_k T n (lx_st T n j) = 1 ∧ pl = lx_st T n j
def rZ (h : Nat) (N0 : mv_M) (nb pl : Nat) (N : mv_M) : Prop := rW h N0 N ∧ N.1 62 9 = nI nb ∧ 0 < nb ∧ nb ≤ 6 ∧ N.1 62 10 = nI pl
section FU
variable {α β : Type} {b h n cnt f i m nd nb pl xn an ot p F : Nat} {M M' M0 M1 M2 N N' N0 N1 N2 : mv_M} {T : Nat → Nat}
theorem rFt_Z (a : rFt h f N0 nb pl N) : rZ h N0 nb pl N := ⟨a.2.2.2.2.1, a.1, a.2.1, a.2.2.1, a.2.2.2.1⟩
theorem cR_Z (a : cR b M0 cnt f nb pl M) : cZ b M0 cnt nb pl M := ⟨a.1.1, a.2.2.2.2.1, a.2.2.2.2.2.1, a.2.2.2.2.2.2.1, a.2.2.2.2.2.2.2, a.2.2.2.1⟩
theorem cD_Z (a : cD b M0 T n cnt f nb pl M) : cZ b M0 cnt nb pl M ∨ cBd b M0 T n cnt nb pl M := by
  rcases a with a | ⟨⟨b1, b2, b3, b4, _⟩, _, _, hnb, i, hi, hi2, h3, hk, hpl, r1⟩
  · exact .inl (cR_Z a)
  · exact .inr ⟨b1, r1, hnb, ⟨f + 1, by omega, b4⟩, i, hi, hi2, h3, hk, hpl⟩
theorem c_fnOf {v : Int64} (hF : F ≤ 12) (hb : M.1 b 0 = nI F) : ∀ d k, k + d = F → ∃ r, fX4_functionOf_2 b v (nI k) M = some (r, M) ∧ ((r = nN ∧ ∀ j, k ≤ j → j < F → M.2.1 (b + 1) j ≠ v) ∨ ∃ j, k ≤ j ∧ j < F ∧ r = nI j ∧ M.2.1 (b + 1) j = v ∧ ∀ j', k ≤ j' → j' < j → M.2.1 (b + 1) j' ≠ v) := by
  intro d
  induction d with
  | zero =>
    intro k hk
    refine ⟨nN, ?_, .inl ⟨rfl, fun j z1 z2 => by omega⟩⟩
    unfold fX4_functionOf_2
    refine lp_out ?_
    show gX4_functionOf_2 b v (nI k) M = _
    unfold gX4_functionOf_2
    simp (disch := omega) only [hb, k_iT, k_iF, Bool.false_eq_true, eq_self, Nat.add_zero, k_lt', k_bs, k_T, k_F, k_inb, k_ck, k_nz, ↓kN, kL, k_lt, k_le, k_eq, kn_le, kn_lt, kn_eq, kn_le', kn_lt', kn_eq', nI_clamp, nI_add, k_sub, k_mul, k_div, rd_hi, rd_mi, rd_hl, rd_ml, rd_hr, rd_mr, rd_si2, rd_sl1, rd_sl2, rd_sr1, rd_sr2]
  | succ d ih =>
    intro k hk
    by_cases he : M.2.1 (b + 1) k = v
    · refine ⟨nI k, ?_, .inr ⟨k, by omega, by omega, rfl, he, fun j' z1 z2 => by omega⟩⟩
      have cc : (lg_cmp v v = nI 0) = True := by rw [cmp0]; exact eq_true rfl
      unfold fX4_functionOf_2
      refine lp_out ?_
      show gX4_functionOf_2 b v (nI k) M = _
      unfold gX4_functionOf_2
      simp (disch := omega) only [hb, he, cc, k_iT, k_iF, Bool.false_eq_true, eq_self, Nat.add_zero, k_lt', k_bs, k_T, k_F, k_inb, k_ck, k_nz, ↓kN, kL, k_lt, k_le, k_eq, kn_le, kn_lt, kn_eq, kn_le', kn_lt', kn_eq', nI_clamp, nI_add, k_sub, k_mul, k_div, rd_hi, rd_mi, rd_hl, rd_ml, rd_hr, rd_mr, rd_si2, rd_sl1, rd_sl2, rd_sr1, rd_sr2]
    · obtain ⟨r, e1, e2⟩ := ih (k + 1) (by omega)
      have cc : (lg_cmp (M.2.1 (b + 1) k) v = nI 0) = False := by rw [cmp0]; exact eq_false he
      refine ⟨r, ?_, ?_⟩
      · rw [← e1]
        unfold fX4_functionOf_2
        refine lp_go (s' := (b, v, nI (k + 1))) ?_
        show gX4_functionOf_2 b v (nI k) M = _
        unfold gX4_functionOf_2
        simp (disch := omega) only [hb, cc, k_iT, k_iF, Bool.false_eq_true, eq_self, Nat.add_zero, k_lt', k_bs, k_T, k_F, k_inb, k_ck, k_nz, ↓kN, kL, k_lt, k_le, k_eq, kn_le, kn_lt, kn_eq, kn_le', kn_lt', kn_eq', nI_clamp, nI_add, k_sub, k_mul, k_div, rd_hi, rd_mi, rd_hl, rd_ml, rd_hr, rd_mr, rd_si2, rd_sl1, rd_sl2, rd_sr1, rd_sr2]
      · rcases e2 with ⟨z1, z2⟩ | ⟨j, z1, z2, z3, z4, z5⟩
        · refine .inl ⟨z1, fun j y1 y2 => ?_⟩
          by_cases hj : j = k
          · subst hj; exact he
          · exact z2 j (by omega) y2
        · refine .inr ⟨j, by omega, z2, z3, z4, fun j' y1 y2 => ?_⟩
          by_cases hj : j' = k
          · subst hj; exact he
          · exact z5 j' (by omega) y2
/-- the reference looks the title up -/
theorem r_title {v : Int64} {pl : Int32} (hh : h ≤ 1) (hF : F ≤ 12) (h27 : N.1 62 27 = nI h) (h28 : N.1 62 28 = nI F) (h9 : N.1 62 9 = nI 0) (h7 : N.2.1 62 7 = v) (h5 : N.1 62 5 = pl) : ∀ d k, k + d = F → ((∀ j, k ≤ j → j < F → N.2.1 64 (12 * h + j) ≠ v) → fX11_definition_33 (nI (12 * h + k)) N = fX11_definition_85 N) ∧ ((∃ j, k ≤ j ∧ j < F ∧ N.2.1 64 (12 * h + j) = v) → fX11_definition_33 (nI (12 * h + k)) N = some ((), mv_si (mv_si N 62 9 (nI 3)) 62 10 pl)) := by
  intro d
  induction d with
  | zero =>
    intro k hk
    refine ⟨fun _ => ?_, fun ⟨j, z1, z2, _⟩ => by omega⟩
    unfold fX11_definition_33
    refine lp_inr ?_
    show gX11_definition_33 (nI (12 * h + k)) N = _
    unfold gX11_definition_33
    simp (disch := omega) only [h27, h28, k_iT, k_iF, Bool.false_eq_true, eq_self, Nat.add_zero, k_lt', k_bs, k_T, k_F, k_inb, k_ck, k_nz, ↓kN, kL, k_lt, k_le, k_eq, kn_le, kn_lt, kn_eq, kn_le', kn_lt', kn_eq', nI_clamp, nI_add, k_sub, k_mul, k_div, rd_hi, rd_mi, rd_hl, rd_ml, rd_hr, rd_mr, rd_si2, rd_sl1, rd_sl2, rd_sr1, rd_sr2]
  | succ d ih =>
    intro k hk
    by_cases he : N.2.1 64 (12 * h + k) = v
    · refine ⟨fun z => absurd he (z k (by omega) (by omega)), fun _ => ?_⟩
      have cc : (lg_cmp v v = nI 0) = True := by rw [cmp0]; exact eq_true rfl
      have st : fX11_stop (nI 3) pl N = some ((), mv_si (mv_si N 62 9 (nI 3)) 62 10 pl) := by
        unfold fX11_stop
        simp (disch := omega) only [h9, k_iT, k_iF, Bool.false_eq_true, eq_self, Nat.add_zero, k_lt', k_bs, k_T, k_F, k_inb, k_ck, k_nz, ↓kN, kL, k_lt, k_le, k_eq, kn_le, kn_lt, kn_eq, kn_le', kn_lt', kn_eq', nI_clamp, nI_add, k_sub, k_mul, k_div, rd_hi, rd_mi, rd_hl, rd_ml, rd_hr, rd_mr, rd_si2, rd_sl1, rd_sl2, rd_sr1, rd_sr2]
      unfold fX11_definition_33
      refine (lp_go (s' := nI (12 * h + (k + 1))) (M' := mv_si (mv_si N 62 9 (nI 3)) 62 10 pl) ?_).trans ?_
      · show gX11_definition_33 (nI (12 * h + k)) N = _
        have ee : 12 * h + k + 1 = 12 * h + (k + 1) := by omega
        unfold gX11_definition_33 fX11_definition_79
        simp (disch := omega) only [h27, h28, h9, he, h7, cc, h5, st, ee, k_iT, k_iF, Bool.false_eq_true, eq_self, Nat.add_zero, k_lt', k_bs, k_T, k_F, k_inb, k_ck, k_nz, ↓kN, kL, k_lt, k_le, k_eq, kn_le, kn_lt, kn_eq, kn_le', kn_lt', kn_eq', nI_clamp, nI_add, k_sub, k_mul, k_div, rd_hi, rd_mi, rd_hl, rd_ml, rd_hr, rd_mr, rd_si2, rd_sl1, rd_sl2, rd_sr1, rd_sr2]
      · refine lp_inr (o := some ((), _)) ?_
        show gX11_definition_33 (nI (12 * h + (k + 1))) _ = _
        have a1 : (mv_si (mv_si N 62 9 (nI 3)) 62 10 pl).1 62 9 = nI 3 := by simp (disch := omega) only [rd_hi, rd_mi, rd_hl, rd_ml, rd_hr, rd_mr, rd_si2, rd_sl1, rd_sl2, rd_sr1, rd_sr2]
        have a2 : (mv_si (mv_si N 62 9 (nI 3)) 62 10 pl).1 62 27 = nI h := by simp (disch := omega) only [rd_hi, rd_mi, rd_hl, rd_ml, rd_hr, rd_mr, rd_si2, rd_sl1, rd_sl2, rd_sr1, rd_sr2]; exact h27
        have a3 : (mv_si (mv_si N 62 9 (nI 3)) 62 10 pl).1 62 28 = nI F := by simp (disch := omega) only [rd_hi, rd_mi, rd_hl, rd_ml, rd_hr, rd_mr, rd_si2, rd_sl1, rd_sl2, rd_sr1, rd_sr2]; exact h28
        generalize mv_si (mv_si N 62 9 (nI 3)) 62 10 pl = NZ at a1 a2 a3 ⊢
        unfold gX11_definition_33 fX11_definition_85 fX11_definition_111
        by_cases hF2 : F ≤ k + 1
        · simp (disch := omega) only [a1, a2, a3, k_iT, k_iF, Bool.false_eq_true, eq_self, Nat.add_zero, k_lt', k_bs, k_T, k_F, k_inb, k_ck, k_nz, ↓kN, kL, k_lt, k_le, k_eq, kn_le, kn_lt, kn_eq, kn_le', kn_lt', kn_eq', nI_clamp, nI_add, k_sub, k_mul, k_div, rd_hi, rd_mi, rd_hl, rd_ml, rd_hr, rd_mr, rd_si2, rd_sl1, rd_sl2, rd_sr1, rd_sr2]
        · simp (disch := omega) only [a1, a2, a3, k_iT, k_iF, Bool.false_eq_true, eq_self, Nat.add_zero, k_lt', k_bs, k_T, k_F, k_inb, k_ck, k_nz, ↓kN, kL, k_lt, k_le, k_eq, kn_le, kn_lt, kn_eq, kn_le', kn_lt', kn_eq', nI_clamp, nI_add, k_sub, k_mul, k_div, rd_hi, rd_mi, rd_hl, rd_ml, rd_hr, rd_mr, rd_si2, rd_sl1, rd_sl2, rd_sr1, rd_sr2]
    · obtain ⟨i1, i2⟩ := ih (k + 1) (by omega)
      have cc : (lg_cmp (N.2.1 64 (12 * h + k)) v = nI 0) = False := by rw [cmp0]; exact eq_false he
      have go : fX11_definition_33 (nI (12 * h + k)) N = fX11_definition_33 (nI (12 * h + (k + 1))) N := by
        unfold fX11_definition_33
        refine lp_go (s' := nI (12 * h + (k + 1))) ?_
        show gX11_definition_33 (nI (12 * h + k)) N = _
        have ee : 12 * h + k + 1 = 12 * h + (k + 1) := by omega
        unfold gX11_definition_33 fX11_definition_79
        simp (disch := omega) only [h27, h28, h9, h7, cc, ee, k_iT, k_iF, Bool.false_eq_true, eq_self, Nat.add_zero, k_lt', k_bs, k_T, k_F, k_inb, k_ck, k_nz, ↓kN, kL, k_lt, k_le, k_eq, kn_le, kn_lt, kn_eq, kn_le', kn_lt', kn_eq', nI_clamp, nI_add, k_sub, k_mul, k_div, rd_hi, rd_mi, rd_hl, rd_ml, rd_hr, rd_mr, rd_si2, rd_sl1, rd_sl2, rd_sr1, rd_sr2]
      rw [go]
      refine ⟨fun z => i1 (fun j z1 z2 => z j (by omega) z2), fun ⟨j, z1, z2, z3⟩ => i2 ⟨j, ?_, z2, z3⟩⟩
      by_cases hj : j = k
      · subst hj; exact absurd z3 he
      · omega
end FU
