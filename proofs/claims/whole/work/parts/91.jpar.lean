section PA
variable {b h n cnt f i m nd nb pl xn an ot p : Nat} {M M' M0 N N' N0 : mv_M} {T : Nat → Nat}
/-- is the name a parameter's? in the class -/
theorem c_known {v : Int64} (hx : cX b M0 T n cnt) (hc : cO b M0 T n cnt f i m nd M) (hp : M.1 (b + 2) f = nI p) (hp4 : p ≤ 4) (hpm : p ≤ m) : ∀ d k s, k + d = p → s ≤ 1 → (s = 1 ↔ ∃ j, j < k ∧ M.2.1 (b + 6) (f * 16 + j) = v) → ∃ s', s' ≤ 1 ∧ (s' = 1 ↔ ∃ j, j < p ∧ M.2.1 (b + 6) (f * 16 + j) = v) ∧ fX3_parseParam_17 v (nI s) (nI k) M = fX3_parseParam_90 v (nI (if p < 4 then 0 else 1)) (nI s') M := by
  obtain ⟨⟨hW, b2, b3, b4, _⟩, h3, hi, hi2, hk1, hm1, hm2, hnd, hnd2, h10⟩ := hc
  have gp := (cW_tok hx hW).2.2.2.2
  have hb2 : (decide (b = 9) || decide (b = 24)) = true := by simpa using hx.1
  intro d
  induction d with
  | zero =>
    intro k s hk hs hiff
    obtain rfl : k = p := by omega
    refine ⟨s, hs, hiff, ?_⟩
    unfold fX3_parseParam_17
    refine lp_inr ?_
    show gX3_parseParam_17 _ _ _ _ = _
    unfold gX3_parseParam_17
    by_cases h4 : k < 4
    · rw [if_pos h4]
      simp (disch := omega) only [gp, mv_getp, hb2, b2, hp, k_iT, k_iF, Bool.false_eq_true, eq_self, Nat.add_zero, k_lt', k_bs, k_T, k_F, k_inb, k_ck, k_nz, ↓kN, kL, k_lt, k_le, k_eq, kn_le, kn_lt, kn_eq, kn_le', kn_lt', kn_eq', nI_clamp, nI_add, k_sub, k_mul, k_div, rd_hi, rd_mi, rd_hl, rd_ml, rd_hr, rd_mr, rd_si2, rd_sl1, rd_sl2, rd_sr1, rd_sr2]
    · rw [if_neg h4]
      simp (disch := omega) only [gp, mv_getp, hb2, b2, hp, k_iT, k_iF, Bool.false_eq_true, eq_self, Nat.add_zero, k_lt', k_bs, k_T, k_F, k_inb, k_ck, k_nz, ↓kN, kL, k_lt, k_le, k_eq, kn_le, kn_lt, kn_eq, kn_le', kn_lt', kn_eq', nI_clamp, nI_add, k_sub, k_mul, k_div, rd_hi, rd_mi, rd_hl, rd_ml, rd_hr, rd_mr, rd_si2, rd_sl1, rd_sl2, rd_sr1, rd_sr2]
  | succ d ih =>
    intro k s hk hs hiff
    by_cases hit : s = 1 ∨ M.2.1 (b + 6) (f * 16 + k) = v
    · obtain ⟨s', a1, a2, a3⟩ := ih (k + 1) 1 (by omega) (by omega) ⟨fun _ => by
        rcases hit with rfl | e
        · obtain ⟨j, j1, j2⟩ := hiff.1 rfl
          exact ⟨j, by omega, j2⟩
        · exact ⟨k, by omega, e⟩, fun _ => rfl⟩
      refine ⟨s', a1, a2, ?_⟩
      rw [← a3]
      unfold fX3_parseParam_17
      refine lp_go (s' := (v, nI 1, nI (k + 1))) ?_
      show gX3_parseParam_17 _ _ _ _ = _
      unfold gX3_parseParam_17 fX3_parseParam_55 fX3_parseParam_60 fX4_isNamed fX4_hasName fX4_hasFunction
      by_cases hs1 : s = 1
      · subst hs1
        simp (disch := omega) only [gp, mv_getp, hb2, b2, hp, k_iT, k_iF, Bool.false_eq_true, eq_self, Nat.add_zero, k_lt', k_bs, k_T, k_F, k_inb, k_ck, k_nz, ↓kN, kL, k_lt, k_le, k_eq, kn_le, kn_lt, kn_eq, kn_le', kn_lt', kn_eq', nI_clamp, nI_add, k_sub, k_mul, k_div, rd_hi, rd_mi, rd_hl, rd_ml, rd_hr, rd_mr, rd_si2, rd_sl1, rd_sl2, rd_sr1, rd_sr2]
      · obtain rfl : s = 0 := by omega
        have e : M.2.1 (b + 6) (f * 16 + k) = v := by rcases hit with z | z; omega; exact z
        have a9 : f * 16 + k < 192 := by omega
        have cc : (lg_cmp v v = nI 0) = True := by rw [cmp0]; exact eq_true rfl
        simp (disch := omega) only [gp, mv_getp, hb2, b2, hp, b4, hm1, e, cc, k_iT, k_iF, Bool.false_eq_true, eq_self, Nat.add_zero, k_lt', k_bs, k_T, k_F, k_inb, k_ck, k_nz, ↓kN, kL, k_lt, k_le, k_eq, kn_le, kn_lt, kn_eq, kn_le', kn_lt', kn_eq', nI_clamp, nI_add, k_sub, k_mul, k_div, rd_hi, rd_mi, rd_hl, rd_ml, rd_hr, rd_mr, rd_si2, rd_sl1, rd_sl2, rd_sr1, rd_sr2]
    · have hs0 : s = 0 := by omega
      have hne : ¬ M.2.1 (b + 6) (f * 16 + k) = v := fun z => hit (.inr z)
      subst hs0
      obtain ⟨s', a1, a2, a3⟩ := ih (k + 1) 0 (by omega) (by omega) ⟨fun z => by omega, fun ⟨j, j1, j2⟩ => by
        by_cases hjk : j < k
        · have := hiff.2 ⟨j, hjk, j2⟩
          omega
        · obtain rfl : j = k := by omega
          exact absurd j2 hne⟩
      refine ⟨s', a1, a2, ?_⟩
      rw [← a3]
      unfold fX3_parseParam_17
      refine lp_go (s' := (v, nI 0, nI (k + 1))) ?_
      show gX3_parseParam_17 _ _ _ _ = _
      unfold gX3_parseParam_17 fX3_parseParam_55 fX3_parseParam_60 fX4_isNamed fX4_hasName fX4_hasFunction
      have a9 : f * 16 + k < 192 := by omega
      have cc : (lg_cmp (M.2.1 (b + 6) (f * 16 + k)) v = nI 0) = False := by rw [cmp0]; exact eq_false hne
      simp (disch := omega) only [gp, mv_getp, hb2, b2, hp, b4, hm1, cc, k_iT, k_iF, Bool.false_eq_true, eq_self, Nat.add_zero, k_lt', k_bs, k_T, k_F, k_inb, k_ck, k_nz, ↓kN, kL, k_lt, k_le, k_eq, kn_le, kn_lt, kn_eq, kn_le', kn_lt', kn_eq', nI_clamp, nI_add, k_sub, k_mul, k_div, rd_hi, rd_mi, rd_hl, rd_ml, rd_hr, rd_mr, rd_si2, rd_sl1, rd_sl2, rd_sr1, rd_sr2]
/-- and in the reference -/
theorem r_known {v : Int64} (hh : h ≤ 1) (hf : f < 12) (r2 : N.1 62 33 = nI (12 * h + f)) (hp : N.1 66 (12 * h + f) = nI p) (hp4 : p ≤ 4) : ∀ d k s, k + d = p → s ≤ 1 → (s = 1 ↔ ∃ j, j < k ∧ N.2.1 69 (16 * (12 * h + f) + j) = v) → ∃ s', s' ≤ 1 ∧ (s' = 1 ↔ ∃ j, j < p ∧ N.2.1 69 (16 * (12 * h + f) + j) = v) ∧ fX11_isParam_5 v (nI s) (nI k) N = some (nI s', N) := by
  intro d
  induction d with
  | zero =>
    intro k s hk hs hiff
    obtain rfl : k = p := by omega
    refine ⟨s, hs, hiff, ?_⟩
    have hbt : mv_bt (nI s) = true := by
      have : s = 0 ∨ s = 1 := by omega
      rcases this with rfl | rfl <;> decide
    unfold fX11_isParam_5
    refine lp_out ?_
    show gX11_isParam_5 _ _ _ _ = _
    unfold gX11_isParam_5
    simp (disch := omega) only [r2, hp, hbt, k_iT, k_iF, Bool.false_eq_true, eq_self, Nat.add_zero, k_lt', k_bs, k_T, k_F, k_inb, k_ck, k_nz, ↓kN, kL, k_lt, k_le, k_eq, kn_le, kn_lt, kn_eq, kn_le', kn_lt', kn_eq', nI_clamp, nI_add, k_sub, k_mul, k_div, rd_hi, rd_mi, rd_hl, rd_ml, rd_hr, rd_mr, rd_si2, rd_sl1, rd_sl2, rd_sr1, rd_sr2]
  | succ d ih =>
    intro k s hk hs hiff
    by_cases hit : s = 1 ∨ N.2.1 69 (16 * (12 * h + f) + k) = v
    · obtain ⟨s', a1, a2, a3⟩ := ih (k + 1) 1 (by omega) (by omega) ⟨fun _ => by
        rcases hit with rfl | e
        · obtain ⟨j, j1, j2⟩ := hiff.1 rfl
          exact ⟨j, by omega, j2⟩
        · exact ⟨k, by omega, e⟩, fun _ => rfl⟩
      refine ⟨s', a1, a2, ?_⟩
      rw [← a3]
      unfold fX11_isParam_5
      refine lp_go (s' := (v, nI 1, nI (k + 1))) ?_
      show gX11_isParam_5 _ _ _ _ = _
      unfold gX11_isParam_5 fX11_isParam_43 fX11_isParam_48
      by_cases hs1 : s = 1
      · subst hs1
        simp (disch := omega) only [r2, hp, k_iT, k_iF, Bool.false_eq_true, eq_self, Nat.add_zero, k_lt', k_bs, k_T, k_F, k_inb, k_ck, k_nz, ↓kN, kL, k_lt, k_le, k_eq, kn_le, kn_lt, kn_eq, kn_le', kn_lt', kn_eq', nI_clamp, nI_add, k_sub, k_mul, k_div, rd_hi, rd_mi, rd_hl, rd_ml, rd_hr, rd_mr, rd_si2, rd_sl1, rd_sl2, rd_sr1, rd_sr2]
      · obtain rfl : s = 0 := by omega
        have e : N.2.1 69 (16 * (12 * h + f) + k) = v := by rcases hit with z | z; omega; exact z
        have a9 : 16 * (12 * h + f) + k < 384 := by omega
        have cc : (lg_cmp v v = nI 0) = True := by rw [cmp0]; exact eq_true rfl
        simp (disch := omega) only [r2, hp, e, cc, k_iT, k_iF, Bool.false_eq_true, eq_self, Nat.add_zero, k_lt', k_bs, k_T, k_F, k_inb, k_ck, k_nz, ↓kN, kL, k_lt, k_le, k_eq, kn_le, kn_lt, kn_eq, kn_le', kn_lt', kn_eq', nI_clamp, nI_add, k_sub, k_mul, k_div, rd_hi, rd_mi, rd_hl, rd_ml, rd_hr, rd_mr, rd_si2, rd_sl1, rd_sl2, rd_sr1, rd_sr2]
    · have hs0 : s = 0 := by omega
      have hne : ¬ N.2.1 69 (16 * (12 * h + f) + k) = v := fun z => hit (.inr z)
      subst hs0
      obtain ⟨s', a1, a2, a3⟩ := ih (k + 1) 0 (by omega) (by omega) ⟨fun z => by omega, fun ⟨j, j1, j2⟩ => by
        by_cases hjk : j < k
        · have := hiff.2 ⟨j, hjk, j2⟩
          omega
        · obtain rfl : j = k := by omega
          exact absurd j2 hne⟩
      refine ⟨s', a1, a2, ?_⟩
      rw [← a3]
      unfold fX11_isParam_5
      refine lp_go (s' := (v, nI 0, nI (k + 1))) ?_
      show gX11_isParam_5 _ _ _ _ = _
      unfold gX11_isParam_5 fX11_isParam_43 fX11_isParam_48
      have a9 : 16 * (12 * h + f) + k < 384 := by omega
      have cc : (lg_cmp (N.2.1 69 (16 * (12 * h + f) + k)) v = nI 0) = False := by rw [cmp0]; exact eq_false hne
      simp (disch := omega) only [r2, hp, cc, k_iT, k_iF, Bool.false_eq_true, eq_self, Nat.add_zero, k_lt', k_bs, k_T, k_F, k_inb, k_ck, k_nz, ↓kN, kL, k_lt, k_le, k_eq, kn_le, kn_lt, kn_eq, kn_le', kn_lt', kn_eq', nI_clamp, nI_add, k_sub, k_mul, k_div, rd_hi, rd_mi, rd_hl, rd_ml, rd_hr, rd_mr, rd_si2, rd_sl1, rd_sl2, rd_sr1, rd_sr2]
/-- behind a fault -/
theorem rFt_type (a : rFt h f N0 nb pl N) : fX11_type N = some (nI 0, N) := by
  obtain ⟨a1, a2, a3, _⟩ := a
  unfold fX11_type fX11_type_12
  simp (disch := omega) only [a1, k_iT, k_iF, Bool.false_eq_true, eq_self, Nat.add_zero, k_lt', k_bs, k_T, k_F, k_inb, k_ck, k_nz, ↓kN, kL, k_lt, k_le, k_eq, kn_le, kn_lt, kn_eq, kn_le', kn_lt', kn_eq', nI_clamp, nI_add, k_sub, k_mul, k_div, rd_hi, rd_mi, rd_hl, rd_ml, rd_hr, rd_mr, rd_si2, rd_sl1, rd_sl2, rd_sr1, rd_sr2]
theorem rFt_240 {k : Nat} (hh : h ≤ 1) (hf : f < 12) (a : rFt h f N0 nb pl N) (hk : k < 16) : ∃ N', fX11_definition_240 (nI k) N = some (.inl (nI 0), N') ∧ rFt h f N0 nb pl N' := by
  have e1 := rFt_want (w := nI 18) a
  have e2 := rFt_type a
  have a' := rFt_si (c := 70) (k := 16 * (12 * h + f) + k) (v := nI 0) a hh (by omega)
  refine ⟨_, ?_, a'⟩
  obtain ⟨a1, a2, a3, a4, a5, a6⟩ := a
  have a9 : 16 * (12 * h + f) + k < 384 := by omega
  unfold fX11_definition_240 fX11_definition_284 fX11_definition_285 fX11_definition_294
  simp (disch := omega) only [e1, e2, a6, a1, k_iT, k_iF, Bool.false_eq_true, eq_self, Nat.add_zero, k_lt', k_bs, k_T, k_F, k_inb, k_ck, k_nz, ↓kN, kL, k_lt, k_le, k_eq, kn_le, kn_lt, kn_eq, kn_le', kn_lt', kn_eq', nI_clamp, nI_add, k_sub, k_mul, k_div, rd_hi, rd_mi, rd_hl, rd_ml, rd_hr, rd_mr, rd_si2, rd_sl1, rd_sl2, rd_sr1, rd_sr2]
theorem rFt_fin (hh : h ≤ 1) (hf : f < 12) (a : rFt h f N0 nb pl N) : ∃ N', fX11_definition_210 (nI 0) N = some ((), N') ∧ rFt h f N0 nb pl N' := by
  have e1 := fun w => rFt_want (w := w) a
  have e2 := rFt_type a
  have a' := rFt_si (c := 65) (k := 12 * h + f) (v := nI 0) a hh (by omega)
  have e3 := fun w => rFt_want (w := w) a'
  have a'' := rFt_si (c := 68) (k := 12 * h + f) (v := N.1 83 0) a' hh (by omega)
  have e4 := fun w => rFt_want (w := w) a''
  refine ⟨_, ?_, a''⟩
  obtain ⟨a1, a2, a3, a4, a5, a6⟩ := a
  unfold fX11_definition_210
  refine lp_inr (o := some ((), _)) ?_
  show gX11_definition_210 _ _ = _
  have z3 : mv_inr (σ := Int32) (some ((), mv_si (mv_si N 65 (12 * h + f) (nI 0)) 68 (12 * h + f) (N.1 83 0))) = some (.inr (), mv_si (mv_si N 65 (12 * h + f) (nI 0)) 68 (12 * h + f) (N.1 83 0)) := rfl
  unfold gX11_definition_210 fX11_definition_340
  simp (disch := omega) only [e1, e2, a6, e3, a1, e4, z3, k_iT, k_iF, Bool.false_eq_true, eq_self, Nat.add_zero, k_lt', k_bs, k_T, k_F, k_inb, k_ck, k_nz, ↓kN, kL, k_lt, k_le, k_eq, kn_le, kn_lt, kn_eq, kn_le', kn_lt', kn_eq', nI_clamp, nI_add, k_sub, k_mul, k_div, rd_hi, rd_mi, rd_hl, rd_ml, rd_hr, rd_mr, rd_si2, rd_sl1, rd_sl2, rd_sr1, rd_sr2]
theorem rFt_sl {c k : Nat} {v : Int64} (hr : rFt h f N0 nb pl N) (hc : rWa h c k) : rFt h f N0 nb pl (mv_sl N c k v) := by
  obtain ⟨a1, a2, a3, a4, a5, a6⟩ := hr
  exact ⟨a1, a2, a3, a4, rW_sl a5 hc, a6⟩
end PA
