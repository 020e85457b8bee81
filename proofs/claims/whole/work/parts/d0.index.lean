/-! INDICES that come from outside -/
section IX
variable {b h F ND f q n k d : Nat} {M N : mv_M} {P : Nat → Nat → Nat} {R : Nat → Nat → Option (Nat → Nat)}
theorem i_wi (a x y : Int32) : (x ≤ a ∧ a ≤ y → fX11_within a.toInt64 x.toInt64 y.toInt64 M = some (1, M)) ∧ (¬ (x ≤ a ∧ a ≤ y) → fX11_within a.toInt64 x.toInt64 y.toInt64 M = some (0, M)) := by
  have e1 : (lg_cmp a.toInt64 x.toInt64 < 0) ↔ a.toInt < x.toInt := by rw [lg_cmp_lt, Int64.lt_iff_toInt_lt, Int32.toInt_toInt64, Int32.toInt_toInt64]
  have e2 : (0 < lg_cmp a.toInt64 y.toInt64) ↔ y.toInt < a.toInt := by rw [lg_cmp_gt, Int64.lt_iff_toInt_lt, Int32.toInt_toInt64, Int32.toInt_toInt64]
  unfold fX11_within
  rw [le_toInt, le_toInt]
  refine ⟨fun z => ?_, fun z => ?_⟩
  · rw [if_neg (fun y => by have := e1.1 y; omega), if_neg (fun y => by have := e2.1 y; omega)]
  · by_cases c1 : a.toInt < x.toInt
    · rw [if_pos (e1.2 c1)]
    · rw [if_neg (fun y => c1 (e1.1 y)), if_pos (e2.2 (by omega))]
theorem i_cs (a : Int32) (hn : n < 2 ^ 31) : (∃ k, k < n ∧ a = nI k) ∨ a < 0 ∨ (¬ a < 0 ∧ nI n ≤ a) := by
  rw [lt_toInt, le_toInt, nI_toInt hn, show (0 : Int32).toInt = 0 from rfl]
  by_cases c1 : a.toInt < 0
  · exact .inr (.inl c1)
  · by_cases c2 : (n : Int) ≤ a.toInt
    · exact .inr (.inr ⟨c1, c2⟩)
    · refine .inl ⟨a.toInt.toNat, by omega, ?_⟩
      apply Int32.toInt_inj.1
      rw [nI_toInt (by omega)]
      omega
/-- a function's number -/
theorem i_fn (hp : PR b h P F ND M N) (hF0 : 0 < F) (hF : F ≤ 12) (e45 : N.1 62 45 ≠ 0) (e47 : N.1 62 47 = nI h) (a : Int32) : (∃ q, q < F ∧ a = nI q ∧ fX11_isFn a N = some (nI 1, N) ∧ fX4_hasFunction b a M = some (nI 1, M)) ∨ (fX11_isFn a N = some (nI 0, N) ∧ fX4_hasFunction b a M = some (nI 0, M)) := by
  have e79 := hp.2.2.2.2.1
  have e0 := hp.2.2.1
  have hh := hp.2.1
  have wi := i_wi (M := N) a 0 (nI (F - 1))
  rw [show (0 : Int32).toInt64 = 0 from rfl] at wi
  have isf : ∀ v, fX11_within a.toInt64 0 (nI (F - 1)).toInt64 N = some (nI v, N) → v ≤ 1 → fX11_isFn a N = some (nI v, N) := by
    intro v hv h1
    have ev : (nI F - 1 : Int32) = nI (F - 1) := k_sub (a := F) (b := 1) (by omega)
    unfold fX11_isFn
    rw [if_neg e45, e47, k_inb (by omega) (by omega), k_ck, nI_clamp (by omega), e79, ev, hv]
    rcases (show v = 0 ∨ v = 1 by omega) with rfl | rfl
    · simp (disch := omega) only [k_iT, k_iF, Bool.false_eq_true, eq_self, Nat.add_zero, k_lt', k_bs, k_T, k_F, k_inb, k_ck, k_nz, ↓kN, kL, k_lt, k_le, k_eq, kn_le, kn_lt, kn_eq, kn_le', kn_lt', kn_eq', nI_clamp, nI_add, k_sub, k_mul, k_div, rd_hi, rd_mi, rd_hl, rd_ml, rd_hr, rd_mr, rd_si2, rd_sl1, rd_sl2, rd_sr1, rd_sr2]
    · simp (disch := omega) only [k_iT, k_iF, Bool.false_eq_true, eq_self, Nat.add_zero, k_lt', k_bs, k_T, k_F, k_inb, k_ck, k_nz, ↓kN, kL, k_lt, k_le, k_eq, kn_le, kn_lt, kn_eq, kn_le', kn_lt', kn_eq', nI_clamp, nI_add, k_sub, k_mul, k_div, rd_hi, rd_mi, rd_hl, rd_ml, rd_hr, rd_mr, rd_si2, rd_sl1, rd_sl2, rd_sr1, rd_sr2]
  rcases i_cs a (show F < 2 ^ 31 by omega) with ⟨k, hk, rfl⟩ | c | ⟨c1, c2⟩
  · refine .inl ⟨k, hk, rfl, isf 1 (wi.1 ⟨?_, ?_⟩) (by omega), ?_⟩
    · rw [show (0 : Int32) = nI 0 from rfl, k_le (by omega) (by omega)]; omega
    · rw [k_le (by omega) (by omega)]; omega
    · unfold fX4_hasFunction
      simp (disch := omega) only [e0, k_iT, k_iF, Bool.false_eq_true, eq_self, Nat.add_zero, k_lt', k_bs, k_T, k_F, k_inb, k_ck, k_nz, ↓kN, kL, k_lt, k_le, k_eq, kn_le, kn_lt, kn_eq, kn_le', kn_lt', kn_eq', nI_clamp, nI_add, k_sub, k_mul, k_div, rd_hi, rd_mi, rd_hl, rd_ml, rd_hr, rd_mr, rd_si2, rd_sl1, rd_sl2, rd_sr1, rd_sr2]
  · refine .inr ⟨isf 0 (wi.2 (fun z => ?_)) (by omega), ?_⟩
    · have := z.1
      rw [le_toInt] at this
      rw [lt_toInt] at c
      omega
    · unfold fX4_hasFunction
      rw [if_pos c]; rfl
  · refine .inr ⟨isf 0 (wi.2 (fun z => ?_)) (by omega), ?_⟩
    · have := z.2
      rw [le_toInt, nI_toInt (by omega)] at this
      rw [le_toInt, nI_toInt (by omega)] at c2
      omega
    · unfold fX4_hasFunction
      rw [if_neg c1, e0, if_pos c2]; rfl
theorem g07 {γ : Type} (hb : b = 9 ∨ b = 24) (e : M.2.2 0 7 = some b) (G : Nat → Option γ) : mv_getp (M.2.2 0 7) G = G b := by
  have hb2 : (decide (b = 9) || decide (b = 24)) = true := by simpa using hb
  rw [e]
  show mv_chk (decide (b = 9) || decide (b = 24)) (G b) = G b
  rw [hb2]; rfl
/-- a row's number -/
theorem i_row (hW : WFp P F ND) (hp : PR b h P F ND M N) (e45 : N.1 62 45 ≠ 0) (e47 : N.1 62 47 = nI h) (e07 : M.2.2 0 7 = some b) (a a1 : Int32) : (∃ q d, q < F ∧ 0 < d ∧ d < dem (P 11 q) ∧ a = nI q ∧ a1 = nI d ∧ fX11_isRowThere a a1 N = some (nI 1, N) ∧ fX10_requireRow a a1 M = some (.inl (), M)) ∨ (fX11_isRowThere a a1 N = some (nI 0, N) ∧ fX10_requireRow a a1 M = some (.inr "java/lang/IndexOutOfBoundsException", M)) := by
  have hb := hp.1
  have hh := hp.2.1
  have hF := hW.2.1
  rcases i_fn hp hW.1 hW.2.1 e45 e47 a with ⟨q, hq, rfl, f1, f2⟩ | ⟨f1, f2⟩
  · have hdm := dem_le (t := P 11 q)
    have dp := dem_pos (t := P 11 q)
    have t4 := (hW.2.2.2 q hq).2.2.2.1
    have e65 := (hp.2.2.2.2.2 q hq).2.1.2.2.1
    have e4 := (hp.2.2.2.2.2 q hq).1.2.2.1
    have dmN := (cl_dem (t := P 11 q) (M := N) (by omega)).2
    have dmM := (cl_dem (t := P 11 q) (M := M) (by omega)).1
    have wi := i_wi (M := N) a1 1 (nI (dem (P 11 q) - 1))
    rw [show (1 : Int32).toInt64 = 1 from rfl] at wi
    have ev : (nI (dem (P 11 q)) - 1 : Int32) = nI (dem (P 11 q) - 1) := k_sub (b := 1) (by omega)
    have isr : ∀ v, fX11_within a1.toInt64 1 (nI (dem (P 11 q) - 1)).toInt64 N = some (nI v, N) → v ≤ 1 → fX11_isRowThere (nI q) a1 N = some (nI v, N) := by
      intro v hv h1
      unfold fX11_isRowThere fX11_isRowThere_35
      rw [f1, k_bs, if_neg (by rw [show (0 : Int32) = nI 0 from rfl, k_eq (by omega) (by omega)]; omega), f1, k_bs, if_neg (by rw [show (0 : Int32) = nI 0 from rfl, k_eq (by omega) (by omega)]; omega), e47, show (12 * nI h + nI q : Int32) = nI (12 * h + q) by simp (disch := omega) only [↓kN, kL, k_lt, k_le, k_eq, kn_le, kn_lt, kn_eq, kn_le', kn_lt', kn_eq', nI_clamp, nI_add, k_sub, k_mul, k_div, rd_hi, rd_mi, rd_hl, rd_ml, rd_hr, rd_mr, rd_si2, rd_sl1, rd_sl2, rd_sr1, rd_sr2], k_inb (by omega) (by omega), k_ck, nI_clamp (by omega), e65, dmN, k_bs, ev, hv, k_bs]
      rcases (show v = 0 ∨ v = 1 by omega) with rfl | rfl
      · simp (disch := omega) only [k_iT, k_iF, Bool.false_eq_true, eq_self, Nat.add_zero, k_lt', k_bs, k_T, k_F, k_inb, k_ck, k_nz, ↓kN, kL, k_lt, k_le, k_eq, kn_le, kn_lt, kn_eq, kn_le', kn_lt', kn_eq', nI_clamp, nI_add, k_sub, k_mul, k_div, rd_hi, rd_mi, rd_hl, rd_ml, rd_hr, rd_mr, rd_si2, rd_sl1, rd_sl2, rd_sr1, rd_sr2]
      · simp (disch := omega) only [k_iT, k_iF, Bool.false_eq_true, eq_self, Nat.add_zero, k_lt', k_bs, k_T, k_F, k_inb, k_ck, k_nz, ↓kN, kL, k_lt, k_le, k_eq, kn_le, kn_lt, kn_eq, kn_le', kn_lt', kn_eq', nI_clamp, nI_add, k_sub, k_mul, k_div, rd_hi, rd_mi, rd_hl, rd_ml, rd_hr, rd_mr, rd_si2, rd_sl1, rd_sl2, rd_sr1, rd_sr2]
    have rq : ∀ {o}, (if a1 < 1 then fX10_requireRow_32 M else (if a1 < nI (dem (P 11 q)) then some (.inl (), M) else fX10_requireRow_32 M)) = o → fX10_requireRow (nI q) a1 M = o := by
      intro o ho
      unfold fX10_requireRow
      rw [g07 hb e07, f2, k_bs, if_neg (by rw [show (0 : Int32) = nI 0 from rfl, k_eq (by omega) (by omega)]; omega), g07 hb e07, k_inb (by omega) (by omega), k_ck, nI_clamp (by omega), e4, dmM, k_bs]
      exact ho
    by_cases z : (1 : Int32) ≤ a1 ∧ a1 ≤ nI (dem (P 11 q) - 1)
    · have w := wi.1 z
      obtain ⟨z1, z2⟩ := z
      rw [le_toInt, show (1 : Int32).toInt = 1 from rfl] at z1
      rw [le_toInt, nI_toInt (by omega)] at z2
      refine .inl ⟨q, a1.toInt.toNat, hq, by omega, by omega, rfl, ?_, isr 1 w (by omega), rq ?_⟩
      · apply Int32.toInt_inj.1
        rw [nI_toInt (by omega)]
        omega
      · rw [if_neg (by rw [lt_toInt, show (1 : Int32).toInt = 1 from rfl]; omega), if_pos (by rw [lt_toInt, nI_toInt (by omega)]; omega)]
    · have w := wi.2 z
      refine .inr ⟨isr 0 w (by omega), rq ?_⟩
      by_cases y : a1 < 1
      · rw [if_pos y]; rfl
      · rw [if_neg y, if_neg (fun y2 => z ?_)]
        · rfl
        · rw [lt_toInt, show (1 : Int32).toInt = 1 from rfl] at y
          rw [lt_toInt, nI_toInt (by omega)] at y2
          rw [le_toInt, le_toInt, nI_toInt (by omega), show (1 : Int32).toInt = 1 from rfl]
          omega
  · refine .inr ⟨?_, ?_⟩
    · unfold fX11_isRowThere
      rw [f1, k_bs]
      simp (disch := omega) only [k_iT, k_iF, Bool.false_eq_true, eq_self, Nat.add_zero, k_lt', k_bs, k_T, k_F, k_inb, k_ck, k_nz, ↓kN, kL, k_lt, k_le, k_eq, kn_le, kn_lt, kn_eq, kn_le', kn_lt', kn_eq', nI_clamp, nI_add, k_sub, k_mul, k_div, rd_hi, rd_mi, rd_hl, rd_ml, rd_hr, rd_mr, rd_si2, rd_sl1, rd_sl2, rd_sr1, rd_sr2]
    · unfold fX10_requireRow fX10_requireRow_32
      rw [g07 hb e07, f2, k_bs]
      simp (disch := omega) only [k_iT, k_iF, Bool.false_eq_true, eq_self, Nat.add_zero, k_lt', k_bs, k_T, k_F, k_inb, k_ck, k_nz, ↓kN, kL, k_lt, k_le, k_eq, kn_le, kn_lt, kn_eq, kn_le', kn_lt', kn_eq', nI_clamp, nI_add, k_sub, k_mul, k_div, rd_hi, rd_mi, rd_hl, rd_ml, rd_hr, rd_mr, rd_si2, rd_sl1, rd_sl2, rd_sr1, rd_sr2]
/-- a parameter's number -/
theorem i_par (hW : WFp P F ND) (hp : PR b h P F ND M N) (e45 : N.1 62 45 ≠ 0) (e47 : N.1 62 47 = nI h) (e07 : M.2.2 0 7 = some b) (a a1 : Int32) : (∃ q k, q < F ∧ k < P 9 q ∧ a = nI q ∧ a1 = nI k ∧ fX11_isParamOf a a1 N = some (nI 1, N) ∧ fX4_hasParam b a a1 M = some (nI 1, M) ∧ fX10_requireParam a a1 M = some (.inl (), M)) ∨ (fX11_isParamOf a a1 N = some (nI 0, N) ∧ fX4_hasParam b a a1 M = some (nI 0, M) ∧ fX10_requireParam a a1 M = some (.inr "java/lang/IndexOutOfBoundsException", M)) := by
  have hb := hp.1
  have hh := hp.2.1
  have hF := hW.2.1
  have rp : ∀ v, v ≤ 1 → fX4_hasParam b a a1 M = some (nI v, M) → fX10_requireParam a a1 M = some (if v = 0 then .inr "java/lang/IndexOutOfBoundsException" else .inl (), M) := by
    intro v hv e
    unfold fX10_requireParam
    rw [g07 hb e07, e, k_bs]
    rcases (show v = 0 ∨ v = 1 by omega) with rfl | rfl
    · simp (disch := omega) only [k_iT, k_iF, Bool.false_eq_true, eq_self, Nat.add_zero, k_lt', k_bs, k_T, k_F, k_inb, k_ck, k_nz, ↓kN, kL, k_lt, k_le, k_eq, kn_le, kn_lt, kn_eq, kn_le', kn_lt', kn_eq', nI_clamp, nI_add, k_sub, k_mul, k_div, rd_hi, rd_mi, rd_hl, rd_ml, rd_hr, rd_mr, rd_si2, rd_sl1, rd_sl2, rd_sr1, rd_sr2]
    · simp (disch := omega) only [k_iT, k_iF, Bool.false_eq_true, eq_self, Nat.add_zero, k_lt', k_bs, k_T, k_F, k_inb, k_ck, k_nz, ↓kN, kL, k_lt, k_le, k_eq, kn_le, kn_lt, kn_eq, kn_le', kn_lt', kn_eq', nI_clamp, nI_add, k_sub, k_mul, k_div, rd_hi, rd_mi, rd_hl, rd_ml, rd_hr, rd_mr, rd_si2, rd_sl1, rd_sl2, rd_sr1, rd_sr2]
  rcases i_fn hp hW.1 hW.2.1 e45 e47 a with ⟨q, hq, rfl, f1, f2⟩ | ⟨f1, f2⟩
  · have hp4 := (hW.2.2.2 q hq).1
    have e66 := (hp.2.2.2.2.2 q hq).2.1.1
    have e2 := (hp.2.2.2.2.2 q hq).1.1
    have hpar : ∀ {o}, (if a1 < 0 then some (0, M) else (if nI (P 9 q) ≤ a1 then some (0, M) else some (1, M))) = o → fX4_hasParam b (nI q) a1 M = o := by
      intro o ho
      unfold fX4_hasParam
      rw [f2, k_bs, if_neg (by rw [show (0 : Int32) = nI 0 from rfl, k_eq (by omega) (by omega)]; omega), k_inb (by omega) (by omega), k_ck, nI_clamp (by omega), e2]
      exact ho
    have ispar : ∀ v, fX11_within a1.toInt64 0 (nI (P 9 q) - 1).toInt64 N = some (nI v, N) → v ≤ 1 → fX11_isParamOf (nI q) a1 N = some (nI v, N) := by
      intro v hv h1
      unfold fX11_isParamOf
      rw [f1, k_bs, if_neg (by rw [show (0 : Int32) = nI 0 from rfl, k_eq (by omega) (by omega)]; omega), e47, show (12 * nI h + nI q : Int32) = nI (12 * h + q) by simp (disch := omega) only [↓kN, kL, k_lt, k_le, k_eq, kn_le, kn_lt, kn_eq, kn_le', kn_lt', kn_eq', nI_clamp, nI_add, k_sub, k_mul, k_div, rd_hi, rd_mi, rd_hl, rd_ml, rd_hr, rd_mr, rd_si2, rd_sl1, rd_sl2, rd_sr1, rd_sr2], k_inb (by omega) (by omega), k_ck, nI_clamp (by omega), e66, hv, k_bs]
      rcases (show v = 0 ∨ v = 1 by omega) with rfl | rfl
      · simp (disch := omega) only [k_iT, k_iF, Bool.false_eq_true, eq_self, Nat.add_zero, k_lt', k_bs, k_T, k_F, k_inb, k_ck, k_nz, ↓kN, kL, k_lt, k_le, k_eq, kn_le, kn_lt, kn_eq, kn_le', kn_lt', kn_eq', nI_clamp, nI_add, k_sub, k_mul, k_div, rd_hi, rd_mi, rd_hl, rd_ml, rd_hr, rd_mr, rd_si2, rd_sl1, rd_sl2, rd_sr1, rd_sr2]
      · simp (disch := omega) only [k_iT, k_iF, Bool.false_eq_true, eq_self, Nat.add_zero, k_lt', k_bs, k_T, k_F, k_inb, k_ck, k_nz, ↓kN, kL, k_lt, k_le, k_eq, kn_le, kn_lt, kn_eq, kn_le', kn_lt', kn_eq', nI_clamp, nI_add, k_sub, k_mul, k_div, rd_hi, rd_mi, rd_hl, rd_ml, rd_hr, rd_mr, rd_si2, rd_sl1, rd_sl2, rd_sr1, rd_sr2]
    have wi := i_wi (M := N) a1 0 (nI (P 9 q) - 1)
    rw [show (0 : Int32).toInt64 = 0 from rfl] at wi
    have eint : (nI (P 9 q) - 1 : Int32).toInt = (P 9 q : Int) - 1 := by
      rw [show (nI (P 9 q) - 1 : Int32) = nI (P 9 q) - nI 1 from rfl, pk_sub_toInt (by omega) (by omega)]
      omega
    rcases i_cs a1 (show P 9 q < 2 ^ 31 by omega) with ⟨k, hk, rfl⟩ | c | ⟨c1, c2⟩
    · have e1 : fX4_hasParam b (nI q) (nI k) M = some (nI 1, M) := hpar (by simp (disch := omega) only [k_iT, k_iF, Bool.false_eq_true, eq_self, Nat.add_zero, k_lt', k_bs, k_T, k_F, k_inb, k_ck, k_nz, ↓kN, kL, k_lt, k_le, k_eq, kn_le, kn_lt, kn_eq, kn_le', kn_lt', kn_eq', nI_clamp, nI_add, k_sub, k_mul, k_div, rd_hi, rd_mi, rd_hl, rd_ml, rd_hr, rd_mr, rd_si2, rd_sl1, rd_sl2, rd_sr1, rd_sr2])
      refine .inl ⟨q, k, hq, hk, rfl, rfl, ispar 1 (wi.1 ⟨?_, ?_⟩) (by omega), e1, rp 1 (by omega) e1⟩
      · rw [show (0 : Int32) = nI 0 from rfl, k_le (by omega) (by omega)]; omega
      · rw [le_toInt, eint, nI_toInt (by omega)]; omega
    · have e1 : fX4_hasParam b (nI q) a1 M = some (nI 0, M) := hpar (by rw [if_pos c]; rfl)
      refine .inr ⟨ispar 0 (wi.2 (fun z => ?_)) (by omega), e1, rp 0 (by omega) e1⟩
      have := z.1
      rw [le_toInt] at this
      rw [lt_toInt] at c
      omega
    · have e1 : fX4_hasParam b (nI q) a1 M = some (nI 0, M) := hpar (by rw [if_neg c1, if_pos c2]; rfl)
      refine .inr ⟨ispar 0 (wi.2 (fun z => ?_)) (by omega), e1, rp 0 (by omega) e1⟩
      have := z.2
      rw [le_toInt, eint] at this
      rw [le_toInt, nI_toInt (by omega)] at c2
      omega
  · have e1 : fX4_hasParam b a a1 M = some (nI 0, M) := by
      unfold fX4_hasParam
      rw [f2, k_bs]
      simp (disch := omega) only [k_iT, k_iF, Bool.false_eq_true, eq_self, Nat.add_zero, k_lt', k_bs, k_T, k_F, k_inb, k_ck, k_nz, ↓kN, kL, k_lt, k_le, k_eq, kn_le, kn_lt, kn_eq, kn_le', kn_lt', kn_eq', nI_clamp, nI_add, k_sub, k_mul, k_div, rd_hi, rd_mi, rd_hl, rd_ml, rd_hr, rd_mr, rd_si2, rd_sl1, rd_sl2, rd_sr1, rd_sr2]
    refine .inr ⟨?_, e1, rp 0 (by omega) e1⟩
    unfold fX11_isParamOf
    rw [f1, k_bs]
    simp (disch := omega) only [k_iT, k_iF, Bool.false_eq_true, eq_self, Nat.add_zero, k_lt', k_bs, k_T, k_F, k_inb, k_ck, k_nz, ↓kN, kL, k_lt, k_le, k_eq, kn_le, kn_lt, kn_eq, kn_le', kn_lt', kn_eq', nI_clamp, nI_add, k_sub, k_mul, k_div, rd_hi, rd_mi, rd_hl, rd_ml, rd_hr, rd_mr, rd_si2, rd_sl1, rd_sl2, rd_sr1, rd_sr2]
end IX
