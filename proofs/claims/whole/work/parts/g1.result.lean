/-! result, on both sides -/
section RP1
variable {b h F ND n m pr cl q t st mx dp dd kp d e i k x g A p s s1 s2 ty j T f y : Nat} {P : Nat → Nat → Nat} {it sc sp ff K : Nat → Nat} {M N M' N' X : mv_M} {v w a : Int32}
theorem res_0 {X : mv_M} : fX11_result_97 0 X = some (0, mv_si X 62 0 1) := by
  unfold fX11_result_97 fX11_result_113 fX11_result_114
  rw [if_pos rfl, k_lt', rd_hi ⟨rfl, rfl⟩, if_neg (by decide)]
theorem prt_0 {X : mv_M} : fX11_parted 0 w X = some (0, X) := by
  unfold fX11_parted
  rw [if_pos rfl]
theorem res_no (N : mv_M) (a : Int32) : ∃ N', rTl N N' ∧ fX11_result_33 a 0 N = some (nI 0, N') ∧ N'.1 62 0 = nI 1 := by
  refine ⟨mv_si (mv_si (mv_si N 62 77 (N.1 62 79)) 62 78 (N.1 62 80)) 62 0 1, ⟨rfl, fun c k u => by simp (disch := omega) only [rd_hi, rd_mi, rd_hl, rd_ml, rd_hr, rd_mr, rd_si2, rd_sl1, rd_sl2, rd_sr1, rd_sr2]⟩, ?_, by simp (disch := omega) only [rd_hi, rd_mi, rd_hl, rd_ml, rd_hr, rd_mr, rd_si2, rd_sl1, rd_sl2, rd_sr1, rd_sr2]; rfl⟩
  have e : (mv_si N 62 77 (N.1 62 79)).1 62 80 = N.1 62 80 := by simp (disch := omega) only [rd_hi, rd_mi, rd_hl, rd_ml, rd_hr, rd_mr, rd_si2, rd_sl1, rd_sl2, rd_sr1, rd_sr2]
  have c75 : ∀ Y : mv_M, fX11_result_75 a 0 Y = some (0, mv_si Y 62 0 1) := by
    intro Y
    unfold fX11_result_75 fX11_result_93
    by_cases u : a ≤ 2
    · rw [if_pos u, res_0]
    · rw [if_neg u]
      by_cases u2 : a - a / 2 * 2 = 0
      · rw [if_pos u2, prt_0, k_bs, res_0]
      · rw [if_neg u2, prt_0, k_bs, res_0]
  have c71 : ∀ (s : Int32) (Y : mv_M), fX11_result_71 a s 0 Y = some (0, mv_si Y 62 0 1) := by
    intro s Y
    unfold fX11_result_71
    rw [prt_0, k_bs, c75]
  unfold fX11_result_33 fX11_result_66
  rw [k_lt', k_lt', e]
  by_cases u : a ≤ 0
  · rw [if_pos u, c75]; rfl
  · rw [if_neg u]
    by_cases u2 : a = 2
    · rw [if_pos u2, c71]; rfl
    · rw [if_neg u2]
      by_cases u3 : a < 5
      · rw [if_pos u3, c71]; rfl
      · rw [if_neg u3, c71]; rfl
/-- one part further -/
theorem pst (hC : Cr P F it n m pr cl ff M N) (hv : vV P it n m pr M N v ty) (h0 : 0 < ty) (hs : s ≤ 1) : ∃ p k st, v = nI p ∧ p < 1540 ∧ k < 1540 ∧ M.1 (60 + s) p = nI k ∧ N.1 (101 + s) p = nI (fi k) ∧ M.1 57 k = nI st ∧ N.1 97 (fi k) = nI st ∧ st ≤ 3 ∧ (st = 2 → M.1 58 k = N.1 99 (fi k) ∧ N.1 98 (fi k) = nI (kD (if s = 0 then (ty - 1) / 2 else (ty - 1) % 2)) ∧ vV P it n m pr M N (M.1 58 k) (if s = 0 then (ty - 1) / 2 else (ty - 1) % 2)) := by
  obtain ⟨p, k1, k2, v1, v2, v3, v4, v5, v6, v7, v8⟩ : ∃ p k1 k2, v = nI p ∧ (p < pr ∨ (1500 ≤ p ∧ p < 1540)) ∧ M.1 60 p = nI k1 ∧ M.1 61 p = nI k2 ∧ N.1 101 p = nI (fi k1) ∧ N.1 102 p = nI (fi k2) ∧ oT P it n m M k1 ((ty - 1) / 2) ∧ oT P it n m M k2 ((ty - 1) % 2) := by
    rcases hv with z | z
    · omega
    · exact z
  have hpb : p < 1540 := by have := hC.1; omega
  rcases (show s = 0 ∨ s = 1 by omega) with rfl | rfl
  · obtain ⟨st, a1, a2, a3, a4, a5, a6⟩ := hC.2.2.1 k1 _ v7
    exact ⟨p, k1, st, v1, hpb, oT_b hC.1.1 hC.1.2.2.2 v7, v3, v5, a1, a2, a3, a6⟩
  · obtain ⟨st, a1, a2, a3, a4, a5, a6⟩ := hC.2.2.1 k2 _ v8
    exact ⟨p, k2, st, v1, hpb, oT_b hC.1.1 hC.1.2.2.2 v8, v4, v6, a1, a2, a3, a6⟩
theorem prt_2 (hs : s ≤ 1) (e77 : X.1 62 77 = nI 1) (e78 : X.1 62 78 = nI p) (hp : p < 1540) (e1 : X.1 (101 + s) p = nI y) (hy : y < 1540) (e97 : X.1 97 y = nI 2) : fX11_parted 1 (nI s) X = some (1, mv_si (mv_si X 62 77 (X.1 98 y)) 62 78 (X.1 99 y)) := by
  unfold fX11_parted fX11_parted_39
  rcases (show s = 0 ∨ s = 1 by omega) with rfl | rfl
  · have e1 : X.1 101 p = nI y := e1
    simp (disch := omega) only [↓reduceIte, e77, e78, e1, e97, k_iT, k_iF, Bool.false_eq_true, eq_self, Nat.add_zero, k_lt', k_bs, k_T, k_F, k_inb, k_ck, k_nz, ↓kN, kL, k_lt, k_le, k_eq, kn_le, kn_lt, kn_eq, kn_le', kn_lt', kn_eq', nI_clamp, nI_add, k_sub, k_mul, k_div, rd_hi, rd_mi, rd_hl, rd_ml, rd_hr, rd_mr, rd_si2, rd_sl1, rd_sl2, rd_sr1, rd_sr2]
  · have e1 : X.1 102 p = nI y := e1
    simp (disch := omega) only [↓reduceIte, e77, e78, e1, e97, k_iT, k_iF, Bool.false_eq_true, eq_self, Nat.add_zero, k_lt', k_bs, k_T, k_F, k_inb, k_ck, k_nz, ↓kN, kL, k_lt, k_le, k_eq, kn_le, kn_lt, kn_eq, kn_le', kn_lt', kn_eq', nI_clamp, nI_add, k_sub, k_mul, k_div, rd_hi, rd_mi, rd_hl, rd_ml, rd_hr, rd_mr, rd_si2, rd_sl1, rd_sl2, rd_sr1, rd_sr2]
theorem prt_n (hs : s ≤ 1) (e77 : X.1 62 77 = nI 1) (e78 : X.1 62 78 = nI p) (hp : p < 1540) (e1 : X.1 (101 + s) p = nI y) (hy : y < 1540) (e97 : X.1 97 y = nI st) (h1 : st ≤ 3) (h2 : st ≠ 2) : fX11_parted 1 (nI s) X = some (0, X) := by
  unfold fX11_parted fX11_parted_39
  rcases (show s = 0 ∨ s = 1 by omega) with rfl | rfl
  · have e1 : X.1 101 p = nI y := e1
    simp (disch := omega) only [↓reduceIte, e77, e78, e1, e97, k_iT, k_iF, Bool.false_eq_true, eq_self, Nat.add_zero, k_lt', k_bs, k_T, k_F, k_inb, k_ck, k_nz, ↓kN, kL, k_lt, k_le, k_eq, kn_le, kn_lt, kn_eq, kn_le', kn_lt', kn_eq', nI_clamp, nI_add, k_sub, k_mul, k_div, rd_hi, rd_mi, rd_hl, rd_ml, rd_hr, rd_mr, rd_si2, rd_sl1, rd_sl2, rd_sr1, rd_sr2]
  · have e1 : X.1 102 p = nI y := e1
    simp (disch := omega) only [↓reduceIte, e77, e78, e1, e97, k_iT, k_iF, Bool.false_eq_true, eq_self, Nat.add_zero, k_lt', k_bs, k_T, k_F, k_inb, k_ck, k_nz, ↓kN, kL, k_lt, k_le, k_eq, kn_le, kn_lt, kn_eq, kn_le', kn_lt', kn_eq', nI_clamp, nI_add, k_sub, k_mul, k_div, rd_hi, rd_mi, rd_hl, rd_ml, rd_hr, rd_mr, rd_si2, rd_sl1, rd_sl2, rd_sr1, rd_sr2]
theorem prt_k (e77 : X.1 62 77 = nI 0) : fX11_parted 1 w X = some (0, X) := by
  unfold fX11_parted
  rw [if_neg (by decide), e77, if_neg (by decide)]
theorem res_1 (e77 : X.1 62 77 = nI 0) : fX11_result_97 1 X = some (X.1 62 78, mv_si X 62 0 0) := by
  unfold fX11_result_97 fX11_result_114
  rw [if_neg (by decide), e77, if_pos (by decide), k_lt', rd_hi ⟨rfl, rfl⟩, if_pos (by decide), rd_mi (by omega)]
theorem res_2 (e77 : X.1 62 77 = nI 1) : fX11_result_97 1 X = some (0, mv_si X 62 0 1) := by
  unfold fX11_result_97 fX11_result_113 fX11_result_114
  rw [if_neg (by decide), e77, if_neg (by decide), k_lt', rd_hi ⟨rfl, rfl⟩, if_neg (by decide)]
-- the class's way
theorem ta_0 (hb : b = 9 ∨ b = 24) (h76 : M.2.2 7 6 = some b) (e71 : M.1 7 1 = nI q) (hq : q < 12) (e4 : M.1 (b + 4) q = nI T) : RX2_typeAt (f + 1) x (nI 0) M = some (nI T, M) := by
  show fX2_typeAt _ (nI 0) M = _
  unfold fX2_typeAt
  rw [if_neg (by decide), h76, gp_b hb, e71, k_inb hq (by omega), k_ck, nI_clamp (by omega), e4]
theorem ta_n (hs : s ≤ 1) (hj : j ≤ 2) (h1 : RX2_typeAt f 0 (nI j) M = some (v, M)) (h2 : ¬ 0 < v) : RX2_typeAt (f + 1) x (nI (2 * j + 1 + s)) M = some (nN, M) := by
  show fX2_typeAt (RX2_typeAt f 0) (nI (2 * j + 1 + s)) M = _
  unfold fX2_typeAt
  have e : (nI (2 * j + 1 + s) - 1) / 2 = nI j := by rw [show (1 : Int32) = nI 1 from rfl, k_sub (by omega), show (2 : Int32) = nI 2 from rfl, k_div (by omega) (by omega) (by omega), show (2 * j + 1 + s - 1) / 2 = j by omega]
  rw [if_pos (by rw [kM, k_lt (by omega) (by omega)]; omega), e, h1, k_bs, if_neg h2]
  rfl
theorem ta_p (hs : s ≤ 1) (hj : j ≤ 2) (ht : 0 < t) (ht4 : t ≤ 4) (h1 : RX2_typeAt f 0 (nI j) M = some (nI t, M)) : RX2_typeAt (f + 1) x (nI (2 * j + 1 + s)) M = some (nI (if s = 0 then (t - 1) / 2 else (t - 1) % 2), M) := by
  show fX2_typeAt (RX2_typeAt f 0) (nI (2 * j + 1 + s)) M = _
  unfold fX2_typeAt
  have e : (nI (2 * j + 1 + s) - 1) / 2 = nI j := by rw [show (1 : Int32) = nI 1 from rfl, k_sub (by omega), show (2 : Int32) = nI 2 from rfl, k_div (by omega) (by omega) (by omega), show (2 * j + 1 + s - 1) / 2 = j by omega]
  have e2 : nI (2 * j + 1 + s) - nI (2 * j + 1 + s) / 2 * 2 = nI (1 - s) := by
    rw [show (2 : Int32) = nI 2 from rfl, k_div (by omega) (by omega) (by omega), k_mul, k_sub (by omega)]
    congr 1
    omega
  rw [if_pos (by rw [kM, k_lt (by omega) (by omega)]; omega), e, h1, k_bs, if_pos (by rw [kM, k_lt (by omega) (by omega)]; omega), e2]
  rcases (show s = 0 ∨ s = 1 by omega) with rfl | rfl
  · rw [if_pos (by decide), (f_first ht4 M).1, k_bs, if_pos rfl]
  · rw [if_neg (by decide), (f_second ht4 M).1, k_bs, if_neg (by decide)]
theorem th_43 (hs : s ≤ 1) (hj : j ≤ 2) (hp : p < 1540) {r : Int32 → mv_M → Option (Int32 × mv_M)} : fX2_thingAt_43 r (nI (2 * j + 1 + s)) (nI p) M = some (M.1 (60 + s) p, M) := by
  have e2 : nI (2 * j + 1 + s) - nI (2 * j + 1 + s) / 2 * 2 = nI (1 - s) := by
    rw [show (2 : Int32) = nI 2 from rfl, k_div (by omega) (by omega) (by omega), k_mul, k_sub (by omega)]
    congr 1
    omega
  unfold fX2_thingAt_43
  rw [c_has hp, k_bs, if_neg (by decide), e2]
  rcases (show s = 0 ∨ s = 1 by omega) with rfl | rfl
  · rw [if_pos (by decide), k_inb hp (by omega), k_ck, nI_clamp (by omega)]
  · rw [if_neg (by decide), k_inb hp (by omega), k_ck, nI_clamp (by omega)]
theorem th_1 (hs : s ≤ 1) (hp : p < 1540) (e : M.1 7 10 = nI p) : RX2_thingAt (f + 1) x (nI (2 * 0 + 1 + s)) M = some (M.1 (60 + s) p, M) := by
  show fX2_thingAt (RX2_thingAt f 0) (nI (2 * 0 + 1 + s)) M = _
  unfold fX2_thingAt
  rw [k_lt', if_pos (by rw [kM, k_le (by omega) (by omega)]; omega), e, th_43 hs (by omega) hp]
theorem hv_1 (hk : k < 1540) (e : M.1 57 k = nI st) (h3 : st ≤ 3) : fX7_hasValue (nI k) M = some (nI (if st = 2 then 1 else 0), M) := by
  unfold fX7_hasValue
  rw [c_has hk, k_bs, if_neg (by decide), k_inb hk (by omega), k_ck, nI_clamp (by omega), e]
  by_cases u : st = 2
  · rw [if_pos (by rw [u]; rfl), if_pos u]; rfl
  · rw [if_neg (by rw [kM, k_eq (by omega) (by omega)]; exact u), if_neg u]; rfl
theorem th_2 (hs1 : s1 ≤ 1) (hs2 : s2 ≤ 1) (hk : k < 1540) (h1 : RX2_thingAt f 0 (nI (1 + s1)) M = some (nI k, M)) (e : M.1 57 k = nI st) (h3 : st ≤ 3) : RX2_thingAt (f + 1) x (nI (2 * (1 + s1) + 1 + s2)) M = if st = 2 then fX2_thingAt_43 (RX2_thingAt f 0) (nI (2 * (1 + s1) + 1 + s2)) (M.1 58 k) M else some (nN, M) := by
  show fX2_thingAt (RX2_thingAt f 0) (nI (2 * (1 + s1) + 1 + s2)) M = _
  have e0 : (nI (2 * (1 + s1) + 1 + s2) - 1) / 2 = nI (1 + s1) := by rw [show (1 : Int32) = nI 1 from rfl, k_sub (by omega), show (2 : Int32) = nI 2 from rfl, k_div (by omega) (by omega) (by omega), show (2 * (1 + s1) + 1 + s2 - 1) / 2 = 1 + s1 by omega]
  unfold fX2_thingAt
  rw [k_lt', if_neg (by rw [kM, k_le (by omega) (by omega)]; omega), e0, h1, k_bs, hv_1 hk e h3, k_bs]
  by_cases u : st = 2
  · rw [if_pos u, if_pos u, if_neg (by decide), k_inb hk (by omega), k_ck, k_lt', nI_clamp (by omega)]
  · rw [if_neg u, if_neg u, if_pos (by decide)]
    rfl
theorem hv_n : fX7_hasValue nN M = some (0, M) := by
  unfold fX7_hasValue fX7_has
  rw [if_pos (by decide), k_bs, if_pos rfl]
theorem kD_1 (h : 0 < ty) : kD ty = 1 := if_neg (by omega)
theorem j_result (hW : WFp P F ND) (hp : PR b h P F ND M N) (hU : RU P F b M N) (a : Int32) : ∃ N', rTl N N' ∧ ((∃ v, fX10_result a M = some (.inl v, M) ∧ fX11_result a N = some (v, N') ∧ N'.1 62 0 = nI 0) ∨ (fX10_result a M = some (.inr mv_e3, M) ∧ fX11_result a N = some (nI 0, N') ∧ N'.1 62 0 = nI 1)) := by
  have hF := hW.2.1
  have hb := hp.1
  have cbad : fX2_hasNumber a M = some (0, M) → fX10_result a M = some (.inr mv_e3, M) := by
    intro z
    unfold fX10_result fX10_result_21
    by_cases u : a < 0
    · rw [if_pos u]; rfl
    · rw [if_neg u]
      by_cases u2 : 6 < a
      · rw [if_pos u2]; rfl
      · rw [if_neg u2, z, k_bs, if_pos rfl]; rfl
  have no : fX2_hasNumber a M = some (0, M) → fX11_result a N = fX11_result_33 a 0 N → ∃ N', rTl N N' ∧ ((∃ v, fX10_result a M = some (.inl v, M) ∧ fX11_result a N = some (v, N') ∧ N'.1 62 0 = nI 0) ∨ (fX10_result a M = some (.inr mv_e3, M) ∧ fX11_result a N = some (nI 0, N') ∧ N'.1 62 0 = nI 1)) := by
    intro z1 z2
    obtain ⟨N', r1, r2, r3⟩ := res_no N a
    exact ⟨N', r1, .inr ⟨cbad z1, z2.trans r2, r3⟩⟩
  rcases hU with ⟨h1, h2, h3, _⟩ | ⟨q, e, m0, ⟨h1, h2, h3, h4⟩, ⟨h5, h6, h7, h8⟩, h9, ⟨hA, hB, hC⟩, hD, hE, hFF, hG, hH, hI⟩
  · refine no ?_ ?_
    · unfold fX2_hasNumber
      rw [h3, if_neg (by decide)]
    · unfold fX11_result fX11_result_32
      rw [h2, if_pos (show nN = (-1 : Int32) from rfl)]
  have hne : ¬ N.1 62 75 = (-1 : Int32) := by rw [h3]; exact nI_ne_m1 (by omega)
  by_cases he : ¬ e = 1
  · refine no ?_ ?_
    · unfold fX2_hasNumber
      rw [h5, if_neg (by rw [kM, k_eq (by omega) (by omega)]; exact he)]
    · unfold fX11_result fX11_result_32
      rw [if_neg hne, h6, if_neg (by rw [kM, k_eq (by omega) (by omega)]; exact he)]
  have he : e = 1 := Classical.not_not.mp he
  subst he
  obtain ⟨it, n, m, pr, cl, ff, c1, c2, c3, c4⟩ := hI rfl
  have r0 : fX11_result a N = mv_bind (fX11_within (a.toInt64) 0 6 N) fun r1 M2 => if r1 = 0 then fX11_result_32 a M2 else fX11_result_33 a 1 M2 := by
    unfold fX11_result
    rw [if_neg hne, h6, if_pos (by decide)]
  rcases (w6 N a).symm with ⟨hw, hc⟩ | ⟨k, hk, rfl, hw⟩
  · rw [hw, k_bs, if_pos rfl] at r0
    obtain ⟨N', r1, r2, r3⟩ := res_no N a
    refine ⟨N', r1, .inr ⟨?_, r0.trans r2, r3⟩⟩
    unfold fX10_result fX10_result_21
    rcases hc with z | ⟨z1, z2⟩
    · rw [if_pos z]; rfl
    · rw [if_neg z1, if_pos z2]; rfl
  rw [hw, k_bs, if_neg (by decide)] at r0
  have wq := hW.2.2.2 q h1
  have hT4 := wq.2.2.2.1
  have e4 := (hp.2.2.2.2.2 q h1).1.2.2.1
  generalize hTT : P 11 q = T at c2 c4 hT4 e4
  -- the reference's beginning
  generalize hY : mv_si (mv_si N 62 77 (nI (kD T))) 62 78 (M.1 7 10) = Y
  have yN : ∀ c k, ¬ (c = 62 ∧ (k = 77 ∨ k = 78)) → Y.1 c k = N.1 c k := fun c k u => by rw [← hY]; simp (disch := omega) only [rd_hi, rd_mi, rd_hl, rd_ml, rd_hr, rd_mr, rd_si2, rd_sl1, rd_sl2, rd_sr1, rd_sr2]
  have y2 : Y.2 = N.2 := by rw [← hY]; rfl
  have y77 : Y.1 62 77 = nI (kD T) := by rw [← hY]; simp (disch := omega) only [rd_hi, rd_mi, rd_hl, rd_ml, rd_hr, rd_mr, rd_si2, rd_sl1, rd_sl2, rd_sr1, rd_sr2]
  have y78 : Y.1 62 78 = M.1 7 10 := by rw [← hY]; simp (disch := omega) only [rd_hi, rd_mi, rd_hl, rd_ml, rd_hr, rd_mr, rd_si2, rd_sl1, rd_sl2, rd_sr1, rd_sr2]
  have yrT : ∀ Z : mv_M, Z.2 = Y.2 → (∀ c k, ¬ (c = 62 ∧ (k = 0 ∨ k = 77 ∨ k = 78)) → Z.1 c k = Y.1 c k) → rTl N Z := fun Z z1 z2 => ⟨z1.trans y2, fun c k u => (z2 c k u).trans (yN c k (by omega))⟩
  have r33 : fX11_result_33 (nI k) 1 N = if nI k ≤ (0 : Int32) then fX11_result_75 (nI k) 1 Y else if nI k = (2 : Int32) then fX11_result_66 (nI k) 1 Y else if nI k < (5 : Int32) then fX11_result_71 (nI k) 0 1 Y else fX11_result_66 (nI k) 1 Y := by
    unfold fX11_result_33
    rw [k_lt', k_lt', c4, show (mv_si N 62 77 (nI (kD T))).1 62 80 = M.1 7 10 by simp (disch := omega) only [rd_hi, rd_mi, rd_hl, rd_ml, rd_hr, rd_mr, rd_si2, rd_sl1, rd_sl2, rd_sr1, rd_sr2]; exact c3, hY]
  rw [r33] at r0
  have crun : fX10_result (nI k) M = mv_bind (fX2_hasNumber (nI k) M) fun r1 M2 => if r1 = 0 then fX10_result_21 M2 else mv_bind (fX2_numberAt (nI k) M2) fun r3 M4 => some (.inl r3, M4) := by
    unfold fX10_result
    rw [if_neg (by rw [kM, k_lt (by omega) (by omega)]; omega), if_neg (by rw [kM, k_lt (by omega) (by omega)]; omega)]
  have chas : fX2_hasNumber (nI k) M = mv_bind (RX2_typeAt 12 0 (nI k) M) fun r1 M2 => if r1 = 0 then (if nI k = (0 : Int32) then fX2_hasNumber_37 M2 else mv_bind (RX2_thingAt 12 0 (nI k) M2) fun r3 M4 => mv_bind (fX7_hasValue r3 M4) fun r5 M6 => if r5 = 0 then some (0, M6) else fX2_hasNumber_37 M6) else some (0, M2) := by
    unfold fX2_hasNumber tX2_typeAt tX2_thingAt
    rw [h5, if_pos (by decide)]
  have bad : ∀ Z : mv_M, rTl N Z → fX2_hasNumber (nI k) M = some (0, M) → fX11_result (nI k) N = some (0, mv_si Z 62 0 1) → ∃ N', rTl N N' ∧ ((∃ v, fX10_result (nI k) M = some (.inl v, M) ∧ fX11_result (nI k) N = some (v, N') ∧ N'.1 62 0 = nI 0) ∨ (fX10_result (nI k) M = some (.inr mv_e3, M) ∧ fX11_result (nI k) N = some (nI 0, N') ∧ N'.1 62 0 = nI 1)) := by
    intro Z z1 z2 z3
    exact ⟨mv_si Z 62 0 1, ⟨z1.1, fun c k u => by rw [rd_mi (by omega)]; exact z1.2 c k u⟩, .inr ⟨cbad z2, z3, by simp (disch := omega) only [rd_hi, rd_mi, rd_hl, rd_ml, rd_hr, rd_mr, rd_si2, rd_sl1, rd_sl2, rd_sr1, rd_sr2]; rfl⟩⟩
  have good : ∀ (Z : mv_M) (v : Int32), rTl N Z → fX2_hasNumber (nI k) M = some (1, M) → fX2_numberAt (nI k) M = some (v, M) → fX11_result (nI k) N = some (v, mv_si Z 62 0 0) → ∃ N', rTl N N' ∧ ((∃ v, fX10_result (nI k) M = some (.inl v, M) ∧ fX11_result (nI k) N = some (v, N') ∧ N'.1 62 0 = nI 0) ∨ (fX10_result (nI k) M = some (.inr mv_e3, M) ∧ fX11_result (nI k) N = some (nI 0, N') ∧ N'.1 62 0 = nI 1)) := by
    intro Z v z1 z2 z3 z4
    refine ⟨mv_si Z 62 0 0, ⟨z1.1, fun c k u => by rw [rd_mi (by omega)]; exact z1.2 c k u⟩, .inl ⟨v, ?_, z4, by simp (disch := omega) only [rd_hi, rd_mi, rd_hl, rd_ml, rd_hr, rd_mr, rd_si2, rd_sl1, rd_sl2, rd_sr1, rd_sr2]; rfl⟩⟩
    rw [crun, z2, k_bs, if_neg (by decide), z3, k_bs]
  have t0 : ∀ f x, RX2_typeAt (f + 1) x (nI 0) M = some (nI T, M) := fun f x => ta_0 hb h4 h2 (by omega) e4
  have rY : rTl N Y := yrT Y rfl (fun _ _ _ => rfl)
  rcases (show k = 0 ∨ (1 ≤ k ∧ k ≤ 2) ∨ (3 ≤ k ∧ k ≤ 6) by omega) with rfl | hk2 | hk6
  · -- the answer itself
    rw [if_pos (by decide)] at r0
    have r75 : fX11_result_75 (nI 0) 1 Y = fX11_result_97 1 Y := by
      unfold fX11_result_75
      rw [if_pos (by decide)]
    rw [r75] at r0
    rw [t0 11 0, k_bs] at chas
    by_cases hz : T = 0
    · rw [if_pos (by rw [hz]; rfl), if_pos (by decide)] at chas
      rw [res_1 (by rw [y77, hz]; rfl), y78] at r0
      exact good Y _ rY chas (by unfold fX2_numberAt; rw [if_pos (by decide)]) r0
    · rw [if_neg (by rw [kM, k_eq (by omega) (by omega)]; exact hz)] at chas
      rw [res_2 (by rw [y77, kD_1 (by omega)])] at r0
      exact bad Y rY chas r0
  · -- a part
    obtain ⟨s, hs, rfl⟩ : ∃ s, s ≤ 1 ∧ k = 2 * 0 + 1 + s := ⟨k - 1, by omega, by omega⟩
    have hk0 : ¬ nI (2 * 0 + 1 + s) = (0 : Int32) := by rw [kM, k_eq (by omega) (by omega)]; omega
    have rst : fX11_result (nI (2 * 0 + 1 + s)) N = mv_bind (fX11_parted 1 (nI s) Y) fun r5 M6 => fX11_result_97 r5 M6 := by
      have e75 : ∀ r Z, fX11_result_75 (nI (2 * 0 + 1 + s)) r Z = fX11_result_97 r Z := fun r Z => by
        unfold fX11_result_75
        rw [if_pos (by rw [kM, k_le (by omega) (by omega)]; omega)]
      rw [r0, if_neg (by rw [kM, k_le (by omega) (by omega)]; omega)]
      rcases (show s = 0 ∨ s = 1 by omega) with rfl | rfl
      · rw [if_neg (by decide), if_pos (by decide)]
        unfold fX11_result_71
        congr 1
      · rw [if_pos (by decide)]
        unfold fX11_result_66 fX11_result_71
        congr 1
    by_cases hz : T = 0
    · rw [prt_k (by rw [y77, hz]; rfl), k_bs, res_0] at rst
      rw [ta_n hs (by omega) (t0 10 0) (by rw [hz]; decide), k_bs, if_neg (by decide)] at chas
      exact bad Y rY chas rst
    · obtain ⟨p, kk, st, v1, v2, v3, v4, v5, v6, v7, v8, v9⟩ := pst (s := s) c1 c2 (by omega) hs
      rw [ta_p hs (by omega) (show 0 < T by omega) hT4 (t0 10 0), k_bs, if_neg hk0, th_1 hs v2 v1, k_bs, v4, hv_1 v3 v6 v8, k_bs] at chas
      have y77' : Y.1 62 77 = nI 1 := by rw [y77, kD_1 (by omega)]
      have y1' : Y.1 (101 + s) p = nI (fi kk) := (yN _ _ (by omega)).trans v5
      have y97 : Y.1 97 (fi kk) = nI st := (yN _ _ (by omega)).trans v7
      by_cases hst : st = 2
      · subst hst
        obtain ⟨w1, w2, w3⟩ := v9 rfl
        rw [prt_2 hs y77' (y78.trans v1) v2 y1' (fi_b v3) y97, k_bs, yN _ _ (by omega), w2, yN _ _ (by omega), ← w1] at rst
        generalize hty : (if s = 0 then (T - 1) / 2 else (T - 1) % 2) = ty at chas rst w3
        have hty4 : ty ≤ 4 := by rw [← hty]; split <;> omega
        rw [if_pos rfl] at chas
        by_cases hz2 : ty = 0
        · rw [if_pos (by rw [hz2]; rfl), if_neg (by decide)] at chas
          rw [res_1 (by rw [hz2]; simp (disch := omega) only [rd_hi, rd_mi, rd_hl, rd_ml, rd_hr, rd_mr, rd_si2, rd_sl1, rd_sl2, rd_sr1, rd_sr2]; rfl)] at rst
          rw [show (mv_si (mv_si Y 62 77 (nI (kD ty))) 62 78 (M.1 58 kk)).1 62 78 = M.1 58 kk from rd_hi ⟨rfl, rfl⟩] at rst
          refine good _ (M.1 58 kk) ?_ chas ?_ rst
          · exact yrT _ rfl (fun c k u => by simp (disch := omega) only [rd_hi, rd_mi, rd_hl, rd_ml, rd_hr, rd_mr, rd_si2, rd_sl1, rd_sl2, rd_sr1, rd_sr2])
          unfold fX2_numberAt tX2_thingAt
          rw [if_neg hk0, th_1 hs v2 v1, k_bs, v4, c_has v3, k_bs, if_neg (by decide), k_inb v3 (by omega), k_ck, nI_clamp (by omega)]
        · rw [if_neg (by rw [kM, k_eq (by omega) (by omega)]; exact hz2)] at chas
          rw [res_2 (by simp (disch := omega) only [rd_hi, rd_mi, rd_hl, rd_ml, rd_hr, rd_mr, rd_si2, rd_sl1, rd_sl2, rd_sr1, rd_sr2]; rw [kD_1 (by omega)])] at rst
          refine bad _ ?_ chas rst
          exact yrT _ rfl (fun c k u => by simp (disch := omega) only [rd_hi, rd_mi, rd_hl, rd_ml, rd_hr, rd_mr, rd_si2, rd_sl1, rd_sl2, rd_sr1, rd_sr2])
      · rw [prt_n hs y77' (y78.trans v1) v2 y1' (fi_b v3) y97 v8 hst, k_bs, res_0] at rst
        rw [if_neg hst, if_pos (show nI 0 = (0 : Int32) by decide)] at chas
        refine bad Y rY ?_ rst
        rw [chas]
        exact ite_self _
  · -- a part of a part
    obtain ⟨s1, s2, hs1, hs2, rfl⟩ : ∃ s1 s2, s1 ≤ 1 ∧ s2 ≤ 1 ∧ k = 2 * (1 + s1) + 1 + s2 := ⟨(k - 3) / 2, (k - 3) % 2, by omega, by omega, by omega⟩
    have hk0 : ¬ nI (2 * (1 + s1) + 1 + s2) = (0 : Int32) := by rw [kM, k_eq (by omega) (by omega)]; omega
    have rst : fX11_result (nI (2 * (1 + s1) + 1 + s2)) N = mv_bind (fX11_parted 1 (nI s1) Y) fun r5 M6 => mv_bind (fX11_parted r5 (nI s2) M6) fun r7 M8 => fX11_result_97 r7 M8 := by
      have e2 : nI (2 * (1 + s1) + 1 + s2) - nI (2 * (1 + s1) + 1 + s2) / 2 * 2 = nI (1 - s2) := by
        rw [show (2 : Int32) = nI 2 from rfl, k_div (by omega) (by omega) (by omega), k_mul, k_sub (by omega)]
        congr 1
        omega
      have e75 : ∀ r Z, fX11_result_75 (nI (2 * (1 + s1) + 1 + s2)) r Z = mv_bind (fX11_parted r (nI s2) Z) fun r7 M8 => fX11_result_97 r7 M8 := fun r Z => by
        unfold fX11_result_75 fX11_result_93
        rw [if_neg (by rw [kM, k_le (by omega) (by omega)]; omega), e2]
        rcases (show s2 = 0 ∨ s2 = 1 by omega) with rfl | rfl
        · rw [if_neg (by decide)]; rfl
        · rw [if_pos (by decide)]; rfl
      rw [r0, if_neg (by rw [kM, k_le (by omega) (by omega)]; omega), if_neg (by rw [kM, k_eq (by omega) (by omega)]; omega)]
      rcases (show s1 = 0 ∨ s1 = 1 by omega) with rfl | rfl
      · rw [if_pos (by rw [kM, k_lt (by omega) (by omega)]; omega)]
        unfold fX11_result_71
        congr 1
        funext r5 M6
        exact e75 r5 M6
      · rw [if_neg (by rw [kM, k_lt (by omega) (by omega)]; omega)]
        unfold fX11_result_66 fX11_result_71
        congr 1
        funext r5 M6
        exact e75 r5 M6
    by_cases hz : T = 0
    · rw [prt_k (by rw [y77, hz]; rfl), k_bs, prt_0, k_bs, res_0] at rst
      have tn : RX2_typeAt 11 0 (nI (1 + s1)) M = some (nN, M) := by
        have := ta_n (x := 0) hs1 (show 0 ≤ 2 by omega) (t0 9 0) (by rw [hz]; decide)
        rw [show 2 * 0 + 1 + s1 = 1 + s1 by omega] at this
        exact this
      rw [ta_n hs2 (by omega) tn (by decide), k_bs, if_neg (by decide)] at chas
      exact bad Y rY chas rst
    · obtain ⟨p, kk, st, v1, v2, v3, v4, v5, v6, v7, v8, v9⟩ := pst (s := s1) c1 c2 (by omega) hs1
      have y77' : Y.1 62 77 = nI 1 := by rw [y77, kD_1 (by omega)]
      have y1' : Y.1 (101 + s1) p = nI (fi kk) := (yN _ _ (by omega)).trans v5
      have y97 : Y.1 97 (fi kk) = nI st := (yN _ _ (by omega)).trans v7
      have tp : RX2_typeAt 11 0 (nI (1 + s1)) M = some (nI (if s1 = 0 then (T - 1) / 2 else (T - 1) % 2), M) := by
        have := ta_p (x := 0) hs1 (show 0 ≤ 2 by omega) (show 0 < T by omega) hT4 (t0 9 0)
        rw [show 2 * 0 + 1 + s1 = 1 + s1 by omega] at this
        exact this
      have th : RX2_thingAt 11 0 (nI (1 + s1)) M = some (nI kk, M) := by
        have := th_1 (f := 10) (x := 0) hs1 v2 v1
        rw [show 2 * 0 + 1 + s1 = 1 + s1 by omega, v4] at this
        exact this
      generalize hty : (if s1 = 0 then (T - 1) / 2 else (T - 1) % 2) = t1 at tp v9
      have hty4 : t1 ≤ 4 := by rw [← hty]; split <;> omega
      by_cases hz1 : t1 = 0
      · -- it is a number
        rw [ta_n hs2 (by omega) tp (by rw [hz1]; decide), k_bs, if_neg (by decide)] at chas
        by_cases hst : st = 2
        · subst hst
          obtain ⟨w1, w2, w3⟩ := v9 rfl
          rw [prt_2 hs1 y77' (y78.trans v1) v2 y1' (fi_b v3) y97, k_bs, yN _ _ (by omega), w2, prt_k (by rw [hz1]; simp (disch := omega) only [rd_hi, rd_mi, rd_hl, rd_ml, rd_hr, rd_mr, rd_si2, rd_sl1, rd_sl2, rd_sr1, rd_sr2]; rfl), k_bs, res_0] at rst
          refine bad _ ?_ chas rst
          exact yrT _ rfl (fun c k u => by simp (disch := omega) only [rd_hi, rd_mi, rd_hl, rd_ml, rd_hr, rd_mr, rd_si2, rd_sl1, rd_sl2, rd_sr1, rd_sr2])
        · rw [prt_n hs1 y77' (y78.trans v1) v2 y1' (fi_b v3) y97 v8 hst, k_bs, prt_0, k_bs, res_0] at rst
          exact bad Y rY chas rst
      · rw [ta_p hs2 (by omega) (show 0 < t1 by omega) hty4 tp, k_bs, if_neg hk0, th_2 hs1 hs2 v3 th v6 v8] at chas
        by_cases hst : st = 2
        · subst hst
          obtain ⟨w1, w2, w3⟩ := v9 rfl
          rw [if_pos rfl] at chas
          obtain ⟨p', k', st', a1, a2, a3, a4, a5, a6, a7, a8, a9⟩ := pst (s := s2) c1 w3 (by omega) hs2
          rw [a1, th_43 hs2 (by omega) a2, k_bs, a4, hv_1 a3 a6 a8, k_bs] at chas
          rw [prt_2 hs1 y77' (y78.trans v1) v2 y1' (fi_b v3) y97, k_bs, yN _ _ (by omega), w2, yN _ _ (by omega), ← w1] at rst
          generalize hY2 : mv_si (mv_si Y 62 77 (nI (kD t1))) 62 78 (M.1 58 kk) = Y2 at rst
          have zN : ∀ c k, ¬ (c = 62 ∧ (k = 77 ∨ k = 78)) → Y2.1 c k = N.1 c k := fun c k u => by rw [← hY2, rd_mi (by omega), rd_mi (by omega)]; exact yN c k u
          have z2 : Y2.2 = Y.2 := by rw [← hY2]; rfl
          have zY : ∀ c k, ¬ (c = 62 ∧ (k = 0 ∨ k = 77 ∨ k = 78)) → Y2.1 c k = Y.1 c k := fun c k u => by rw [← hY2]; simp (disch := omega) only [rd_hi, rd_mi, rd_hl, rd_ml, rd_hr, rd_mr, rd_si2, rd_sl1, rd_sl2, rd_sr1, rd_sr2]
          have z77 : Y2.1 62 77 = nI 1 := by rw [← hY2]; simp (disch := omega) only [rd_hi, rd_mi, rd_hl, rd_ml, rd_hr, rd_mr, rd_si2, rd_sl1, rd_sl2, rd_sr1, rd_sr2]; rw [kD_1 (by omega)]
          have z78 : Y2.1 62 78 = nI p' := by rw [← hY2]; simp (disch := omega) only [rd_hi, rd_mi, rd_hl, rd_ml, rd_hr, rd_mr, rd_si2, rd_sl1, rd_sl2, rd_sr1, rd_sr2]; exact a1
          have z1' : Y2.1 (101 + s2) p' = nI (fi k') := (zN _ _ (by omega)).trans a5
          have z97 : Y2.1 97 (fi k') = nI st' := (zN _ _ (by omega)).trans a7
          by_cases hst2 : st' = 2
          · subst hst2
            obtain ⟨x1, x2, x3⟩ := a9 rfl
            rw [prt_2 hs2 z77 z78 a2 z1' (fi_b a3) z97, k_bs, zN _ _ (by omega), x2, zN _ _ (by omega), ← x1] at rst
            generalize hty2 : (if s2 = 0 then (t1 - 1) / 2 else (t1 - 1) % 2) = t2 at chas rst x3
            have hty24 : t2 ≤ 4 := by rw [← hty2]; split <;> omega
            rw [if_pos rfl] at chas
            by_cases hz2 : t2 = 0
            · rw [if_pos (by rw [hz2]; rfl), if_neg (by decide)] at chas
              rw [res_1 (by rw [hz2]; simp (disch := omega) only [rd_hi, rd_mi, rd_hl, rd_ml, rd_hr, rd_mr, rd_si2, rd_sl1, rd_sl2, rd_sr1, rd_sr2]; rfl)] at rst
              rw [show (mv_si (mv_si Y2 62 77 (nI (kD t2))) 62 78 (M.1 58 k')).1 62 78 = M.1 58 k' from rd_hi ⟨rfl, rfl⟩] at rst
              refine good _ (M.1 58 k') ?_ chas ?_ rst
              · exact yrT _ z2 (fun c k u => by simp (disch := omega) only [rd_hi, rd_mi, rd_hl, rd_ml, rd_hr, rd_mr, rd_si2, rd_sl1, rd_sl2, rd_sr1, rd_sr2]; exact zY c k u)
              unfold fX2_numberAt tX2_thingAt
              rw [if_neg hk0, th_2 hs1 hs2 v3 th v6 v8, if_pos rfl, a1, th_43 hs2 (by omega) a2, k_bs, a4, c_has a3, k_bs, if_neg (by decide), k_inb a3 (by omega), k_ck, nI_clamp (by omega)]
            · rw [if_neg (by rw [kM, k_eq (by omega) (by omega)]; exact hz2)] at chas
              rw [res_2 (by simp (disch := omega) only [rd_hi, rd_mi, rd_hl, rd_ml, rd_hr, rd_mr, rd_si2, rd_sl1, rd_sl2, rd_sr1, rd_sr2]; rw [kD_1 (by omega)])] at rst
              refine bad _ ?_ chas rst
              exact yrT _ z2 (fun c k u => by simp (disch := omega) only [rd_hi, rd_mi, rd_hl, rd_ml, rd_hr, rd_mr, rd_si2, rd_sl1, rd_sl2, rd_sr1, rd_sr2]; exact zY c k u)
          · rw [prt_n hs2 z77 z78 a2 z1' (fi_b a3) z97 a8 hst2, k_bs, res_0] at rst
            rw [if_neg hst2, if_pos (show nI 0 = (0 : Int32) by decide)] at chas
            refine bad Y2 (yrT _ z2 zY) ?_ rst
            rw [chas]
            exact ite_self _
        · rw [prt_n hs1 y77' (y78.trans v1) v2 y1' (fi_b v3) y97 v8 hst, k_bs, prt_0, k_bs, res_0] at rst
          rw [if_neg hst, k_bs, hv_n, k_bs, if_pos rfl] at chas
          refine bad Y rY ?_ rst
          rw [chas]
          exact ite_self _
end RP1
