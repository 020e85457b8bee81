/-! told, result, needed, on both sides -/
/-- no run, or what one left -/
def RU (P : Nat → Nat → Nat) (F b : Nat) (M N : mv_M) : Prop := (M.1 7 1 = nN ∧ N.1 62 75 = nN ∧ M.1 7 2 = nI 0 ∧ M.1 7 3 = nI 0 ∧ M.1 8 0 = nI 0 ∧ M.1 8 1 = nI 0 ∧ M.1 7 4 = nI 0 ∧ M.1 7 5 = nI 0) ∨ ∃ q, RN P F b q M N
/-- the reference's part of a telling call -/
def rTl (N N' : mv_M) : Prop := N'.2 = N.2 ∧ ∀ c k, ¬ (c = 62 ∧ (k = 0 ∨ k = 77 ∨ k = 78)) → N'.1 c k = N.1 c k
section RO1
variable {b h F ND n m pr cl q t st mx dp dd kp d e i k x g A p s ty j : Nat} {P : Nat → Nat → Nat} {it sc sp ff K : Nat → Nat} {V : Nat → Int32} {M N M' N' X : mv_M} {Z : Nat → Nat → Prop} {v w a a1 a2 x5 : Int32}
theorem rTl_0 {w : Int32} : rTl N (mv_si N 62 0 w) := ⟨rfl, fun c k u => by simp (disch := omega) only [rd_hi, rd_mi, rd_hl, rd_ml, rd_hr, rd_mr, rd_si2, rd_sl1, rd_sl2, rd_sr1, rd_sr2]⟩
theorem idle (h0 : M.1 8 0 = nI m) (h1 : N.1 62 67 = nI m) (hm : m ≤ 1500) (hr : N.1 62 75 = nI q) (hq : q < 12) (hg : ∀ k, k < m → M.1 59 k = N.1 100 (40 + k)) : ∀ i k x1, k + i = m → ∃ r, fX7_neverNeeded_4 x1 (nI k) M = some (r, M) ∧ fX11_told_49 a x1 (nI (40 + k)) N = fX11_told_91 a r N := by
  have hne : ¬ N.1 62 75 = (-1 : Int32) := by rw [hr]; exact nI_ne_m1 (by omega)
  intro i
  induction i with
  | zero =>
    intro k x1 hk
    obtain rfl : k = m := by omega
    refine ⟨x1, ?_, ?_⟩
    · unfold fX7_neverNeeded_4
      refine lp_out ?_
      show gX7_neverNeeded_4 x1 (nI k) M = _
      unfold gX7_neverNeeded_4
      rw [h0, if_pos (Int32.le_refl _)]
    · unfold fX11_told_49
      refine lp_inr ?_
      show gX11_told_49 a x1 (nI (40 + k)) N = _
      unfold gX11_told_49
      rw [h1, show (40 : Int32) + nI k = nI (40 + k) from nI_add 40 k, if_pos (Int32.le_refl _)]
  | succ i ih =>
    intro k x1 hk
    have e := hg k (by omega)
    by_cases u : M.1 59 k = 0
    · obtain ⟨r, r1, r2⟩ := ih (k + 1) (x1 + 1) (by omega)
      refine ⟨r, ?_, ?_⟩
      · unfold fX7_neverNeeded_4 at r1 ⊢
        refine Eq.trans (lp_go ?_) r1
        show gX7_neverNeeded_4 x1 (nI k) M = _
        unfold gX7_neverNeeded_4 fX7_neverNeeded_24
        rw [h0, if_neg (by rw [k_le (by omega) (by omega)]; omega), k_inb (by omega) (by omega), k_ck, nI_clamp (by omega), if_pos u, k_lt', k_lt', show nI k + (1 : Int32) = nI (k + 1) from nI_add k 1]
      · unfold fX11_told_49 at r2 ⊢
        refine Eq.trans (lp_go ?_) r2
        show gX11_told_49 a x1 (nI (40 + k)) N = _
        unfold gX11_told_49 fX11_told_83
        rw [h1, show (40 : Int32) + nI m = nI (40 + m) from nI_add 40 m, if_neg (by rw [k_le (by omega) (by omega)]; omega), if_neg hne, k_inb (by omega) (by omega), k_ck, nI_clamp (by omega), if_pos (by rw [← e]; exact u), k_lt', k_lt', show nI (40 + k) + (1 : Int32) = nI (40 + (k + 1)) from nI_add (40 + k) 1]
    · obtain ⟨r, r1, r2⟩ := ih (k + 1) x1 (by omega)
      refine ⟨r, ?_, ?_⟩
      · unfold fX7_neverNeeded_4 at r1 ⊢
        refine Eq.trans (lp_go ?_) r1
        show gX7_neverNeeded_4 x1 (nI k) M = _
        unfold gX7_neverNeeded_4 fX7_neverNeeded_24
        rw [h0, if_neg (by rw [k_le (by omega) (by omega)]; omega), k_inb (by omega) (by omega), k_ck, nI_clamp (by omega), if_neg u, k_lt', show nI k + (1 : Int32) = nI (k + 1) from nI_add k 1]
      · unfold fX11_told_49 at r2 ⊢
        refine Eq.trans (lp_go ?_) r2
        show gX11_told_49 a x1 (nI (40 + k)) N = _
        unfold gX11_told_49 fX11_told_83
        rw [h1, show (40 : Int32) + nI m = nI (40 + m) from nI_add 40 m, if_neg (by rw [k_le (by omega) (by omega)]; omega), if_neg hne, k_inb (by omega) (by omega), k_ck, nI_clamp (by omega), if_neg (by rw [← e]; exact u), k_lt', k_lt', show nI (40 + k) + (1 : Int32) = nI (40 + (k + 1)) from nI_add (40 + k) 1, show x1 + (0 : Int32) = x1 by simp]
theorem w6 (N : mv_M) (a : Int32) : (∃ k, k < 7 ∧ a = nI k ∧ fX11_within (a.toInt64) 0 6 N = some (1, N)) ∨ (fX11_within (a.toInt64) 0 6 N = some (0, N) ∧ (a < 0 ∨ (¬ a < 0 ∧ 6 < a))) := by
  have wi := i_wi (M := N) a 0 6
  have wT : (0 : Int32) ≤ a ∧ a ≤ 6 → fX11_within (a.toInt64) 0 6 N = some (1, N) := wi.1
  have wF : ¬ ((0 : Int32) ≤ a ∧ a ≤ 6) → fX11_within (a.toInt64) 0 6 N = some (0, N) := wi.2
  rcases i_cs a (n := 7) (by omega) with ⟨k, h1, rfl⟩ | z | ⟨z1, z2⟩
  · exact .inl ⟨k, h1, rfl, wT ⟨by rw [kM, k_le (by omega) (by omega)]; omega, by rw [kM, k_le (by omega) (by omega)]; omega⟩⟩
  · exact .inr ⟨wF (fun y => absurd z (Int32.not_lt.mpr y.1)), .inl z⟩
  · have z3 : (6 : Int32) < a := by
      refine Int32.not_le.mp (fun y => ?_)
      have : nI 7 ≤ (nI 6 : Int32) := Int32.le_trans z2 y
      rw [k_le (by omega) (by omega)] at this
      omega
    exact .inr ⟨wF (fun y => absurd z3 (Int32.not_lt.mpr y.2)), .inr ⟨z1, z3⟩⟩
theorem j_told (hU : RU P F b M N) (hF : F ≤ 12) (e6 : M.1 6 0 = N.1 62 55) (a : Int32) : ∃ N', rTl N N' ∧ ((∃ v, fX10_told a M = some (.inl v, M) ∧ fX11_told a N = some (v, N') ∧ N'.1 62 0 = nI 0) ∨ (fX10_told a M = some (.inr mv_e3, M) ∧ fX11_told a N = some (nI 0, N') ∧ N'.1 62 0 = nI 1)) := by
  rcases w6 N a with ⟨k, hk, rfl, hw⟩ | ⟨hw, hc⟩
  · refine ⟨mv_si N 62 0 0, rTl_0, .inl ?_⟩
    rcases hU with ⟨h1, h2, h3, h4, h5, h6, h7, h8⟩ | ⟨q, e, m, ⟨h1, h2, h3, h4⟩, ⟨h5, h6, h7, h8⟩, h9, ⟨hA, hB, hC⟩, hD, hE, hFF, hG, hH, hI⟩
    · have e75 : (mv_si N 62 0 0).1 62 75 = (-1 : Int32) := by rw [rd_mi (by omega)]; exact h2
      have r0 : k < 6 → fX11_told (nI k) N = some (0, mv_si N 62 0 0) := by
        intro hk6
        unfold fX11_told fX11_told_18
        rw [hw, k_bs, if_neg (by decide), k_lt', rd_hi ⟨rfl, rfl⟩, if_neg (by decide), if_neg (by rw [kM, k_le (by omega) (by omega)]; omega), if_pos e75]
      have nn : fX7_neverNeeded M = some (0, M) := by
        unfold fX7_neverNeeded fX7_neverNeeded_4
        refine lp_out ?_
        show gX7_neverNeeded_4 0 0 M = _
        unfold gX7_neverNeeded_4
        rw [h5, if_pos (by decide)]
      rcases (show k = 0 ∨ k = 1 ∨ k = 2 ∨ k = 3 ∨ k = 4 ∨ k = 5 ∨ k = 6 by omega) with rfl | rfl | rfl | rfl | rfl | rfl | rfl
      · exact ⟨0, by unfold fX10_told; rw [if_pos (by decide), h4]; rfl, r0 (by omega), by simp (disch := omega) only [rd_hi, rd_mi, rd_hl, rd_ml, rd_hr, rd_mr, rd_si2, rd_sl1, rd_sl2, rd_sr1, rd_sr2]; rfl⟩
      · exact ⟨0, by unfold fX10_told; rw [if_neg (by decide), if_pos (by decide), h5]; rfl, r0 (by omega), by simp (disch := omega) only [rd_hi, rd_mi, rd_hl, rd_ml, rd_hr, rd_mr, rd_si2, rd_sl1, rd_sl2, rd_sr1, rd_sr2]; rfl⟩
      · exact ⟨0, by unfold fX10_told; rw [if_neg (by decide), if_neg (by decide), if_pos (by decide), h6]; rfl, r0 (by omega), by simp (disch := omega) only [rd_hi, rd_mi, rd_hl, rd_ml, rd_hr, rd_mr, rd_si2, rd_sl1, rd_sl2, rd_sr1, rd_sr2]; rfl⟩
      · exact ⟨0, by unfold fX10_told; rw [if_neg (by decide), if_neg (by decide), if_neg (by decide), if_pos (by decide), h7]; rfl, r0 (by omega), by simp (disch := omega) only [rd_hi, rd_mi, rd_hl, rd_ml, rd_hr, rd_mr, rd_si2, rd_sl1, rd_sl2, rd_sr1, rd_sr2]; rfl⟩
      · exact ⟨0, by unfold fX10_told; rw [if_neg (by decide), if_neg (by decide), if_neg (by decide), if_neg (by decide), if_pos (by decide), h8]; rfl, r0 (by omega), by simp (disch := omega) only [rd_hi, rd_mi, rd_hl, rd_ml, rd_hr, rd_mr, rd_si2, rd_sl1, rd_sl2, rd_sr1, rd_sr2]; rfl⟩
      · exact ⟨0, by unfold fX10_told; rw [if_neg (by decide), if_neg (by decide), if_neg (by decide), if_neg (by decide), if_neg (by decide), if_pos (by decide), nn, k_bs], r0 (by omega), by simp (disch := omega) only [rd_hi, rd_mi, rd_hl, rd_ml, rd_hr, rd_mr, rd_si2, rd_sl1, rd_sl2, rd_sr1, rd_sr2]; rfl⟩
      · refine ⟨M.1 6 0, by unfold fX10_told; rw [if_neg (by decide), if_neg (by decide), if_neg (by decide), if_neg (by decide), if_neg (by decide), if_neg (by decide), if_pos (by decide)], ?_, by simp (disch := omega) only [rd_hi, rd_mi, rd_hl, rd_ml, rd_hr, rd_mr, rd_si2, rd_sl1, rd_sl2, rd_sr1, rd_sr2]; rfl⟩
        unfold fX11_told fX11_told_18 fX11_told_44 fX11_told_49
        rw [hw, k_bs, if_neg (by decide), k_lt', rd_hi ⟨rfl, rfl⟩, if_neg (by decide), if_pos (by decide)]
        refine lp_inr (o := some (M.1 6 0, mv_si N 62 0 0)) ?_
        show gX11_told_49 (nI 6) 0 40 (mv_si N 62 0 0) = _
        have e91 : fX11_told_91 (nI 6) 0 (mv_si N 62 0 0) = some (M.1 6 0, mv_si N 62 0 0) := by
          unfold fX11_told_91
          rw [if_neg (by decide), if_neg (by decide), if_neg (by decide), if_neg (by decide), if_neg (by decide), if_neg (by decide), rd_mi (by omega), e6]
        unfold gX11_told_49
        rw [e91]
        by_cases u : 40 + (mv_si N 62 0 0).1 62 67 ≤ (40 : Int32)
        · rw [if_pos u]
        · rw [if_neg u, if_pos e75]
    · obtain ⟨r, r1, r2⟩ := idle (a := nI k) (N := mv_si N 62 0 0) (q := q) hA (by simp (disch := omega) only [rd_hi, rd_mi, rd_hl, rd_ml, rd_hr, rd_mr, rd_si2, rd_sl1, rd_sl2, rd_sr1, rd_sr2]; exact hB) hC (by simp (disch := omega) only [rd_hi, rd_mi, rd_hl, rd_ml, rd_hr, rd_mr, rd_si2, rd_sl1, rd_sl2, rd_sr1, rd_sr2]; exact h3) (by omega) (fun k hk => by simp (disch := omega) only [rd_hi, rd_mi, rd_hl, rd_ml, rd_hr, rd_mr, rd_si2, rd_sl1, rd_sl2, rd_sr1, rd_sr2]; exact hG k hk) m 0 0 (by omega)
      have r0 : fX11_told (nI k) N = fX11_told_91 (nI k) r (mv_si N 62 0 0) := by
        unfold fX11_told fX11_told_18 fX11_told_44
        rw [hw, k_bs, if_neg (by decide), k_lt', rd_hi ⟨rfl, rfl⟩, if_neg (by decide)]
        by_cases u : (6 : Int32) ≤ nI k
        · rw [if_pos u]; exact r2
        · rw [if_neg u, if_neg (by rw [rd_mi (by omega), h3]; exact nI_ne_m1 (by omega))]; exact r2
      have nn : fX7_neverNeeded M = some (r, M) := r1
      rw [r0]
      rcases (show k = 0 ∨ k = 1 ∨ k = 2 ∨ k = 3 ∨ k = 4 ∨ k = 5 ∨ k = 6 by omega) with rfl | rfl | rfl | rfl | rfl | rfl | rfl
      · exact ⟨M.1 7 3, by unfold fX10_told; rw [if_pos (by decide)], by unfold fX11_told_91; rw [if_pos (by decide), rd_mi (by omega), h9], by simp (disch := omega) only [rd_hi, rd_mi, rd_hl, rd_ml, rd_hr, rd_mr, rd_si2, rd_sl1, rd_sl2, rd_sr1, rd_sr2]; rfl⟩
      · exact ⟨M.1 8 0, by unfold fX10_told; rw [if_neg (by decide), if_pos (by decide)], by unfold fX11_told_91; rw [if_neg (by decide), if_pos (by decide), rd_mi (by omega), hB, hA], by simp (disch := omega) only [rd_hi, rd_mi, rd_hl, rd_ml, rd_hr, rd_mr, rd_si2, rd_sl1, rd_sl2, rd_sr1, rd_sr2]; rfl⟩
      · exact ⟨M.1 8 1, by unfold fX10_told; rw [if_neg (by decide), if_neg (by decide), if_pos (by decide)], by unfold fX11_told_91; rw [if_neg (by decide), if_neg (by decide), if_pos (by decide), rd_mi (by omega), hD], by simp (disch := omega) only [rd_hi, rd_mi, rd_hl, rd_ml, rd_hr, rd_mr, rd_si2, rd_sl1, rd_sl2, rd_sr1, rd_sr2]; rfl⟩
      · exact ⟨M.1 7 4, by unfold fX10_told; rw [if_neg (by decide), if_neg (by decide), if_neg (by decide), if_pos (by decide)], by unfold fX11_told_91; rw [if_neg (by decide), if_neg (by decide), if_neg (by decide), if_pos (by decide), rd_mi (by omega), hE], by simp (disch := omega) only [rd_hi, rd_mi, rd_hl, rd_ml, rd_hr, rd_mr, rd_si2, rd_sl1, rd_sl2, rd_sr1, rd_sr2]; rfl⟩
      · exact ⟨M.1 7 5, by unfold fX10_told; rw [if_neg (by decide), if_neg (by decide), if_neg (by decide), if_neg (by decide), if_pos (by decide)], by unfold fX11_told_91; rw [if_neg (by decide), if_neg (by decide), if_neg (by decide), if_neg (by decide), if_pos (by decide), rd_mi (by omega), hFF], by simp (disch := omega) only [rd_hi, rd_mi, rd_hl, rd_ml, rd_hr, rd_mr, rd_si2, rd_sl1, rd_sl2, rd_sr1, rd_sr2]; rfl⟩
      · exact ⟨r, by unfold fX10_told; rw [if_neg (by decide), if_neg (by decide), if_neg (by decide), if_neg (by decide), if_neg (by decide), if_pos (by decide), nn, k_bs], by unfold fX11_told_91; rw [if_neg (by decide), if_neg (by decide), if_neg (by decide), if_neg (by decide), if_neg (by decide), if_pos (by decide)], by simp (disch := omega) only [rd_hi, rd_mi, rd_hl, rd_ml, rd_hr, rd_mr, rd_si2, rd_sl1, rd_sl2, rd_sr1, rd_sr2]; rfl⟩
      · exact ⟨M.1 6 0, by unfold fX10_told; rw [if_neg (by decide), if_neg (by decide), if_neg (by decide), if_neg (by decide), if_neg (by decide), if_neg (by decide), if_pos (by decide)], by unfold fX11_told_91; rw [if_neg (by decide), if_neg (by decide), if_neg (by decide), if_neg (by decide), if_neg (by decide), if_neg (by decide), rd_mi (by omega), e6], by simp (disch := omega) only [rd_hi, rd_mi, rd_hl, rd_ml, rd_hr, rd_mr, rd_si2, rd_sl1, rd_sl2, rd_sr1, rd_sr2]; rfl⟩
  · have hne : ∀ k, k < 7 → ¬ a = nI k := by
      intro k hk z
      subst z
      rcases hc with z | ⟨_, z⟩
      · rw [kM, k_lt (by omega) (by omega)] at z; omega
      · rw [kM, k_lt (by omega) (by omega)] at z; omega
    refine ⟨mv_si N 62 0 1, rTl_0, .inr ⟨?_, ?_, by simp (disch := omega) only [rd_hi, rd_mi, rd_hl, rd_ml, rd_hr, rd_mr, rd_si2, rd_sl1, rd_sl2, rd_sr1, rd_sr2]; rfl⟩⟩
    · unfold fX10_told
      rw [if_neg (show ¬ a = (0 : Int32) from hne 0 (by omega)), if_neg (show ¬ a = (1 : Int32) from hne 1 (by omega)), if_neg (show ¬ a = (2 : Int32) from hne 2 (by omega)), if_neg (show ¬ a = (3 : Int32) from hne 3 (by omega)), if_neg (show ¬ a = (4 : Int32) from hne 4 (by omega)), if_neg (show ¬ a = (5 : Int32) from hne 5 (by omega)), if_neg (show ¬ a = (6 : Int32) from hne 6 (by omega))]
      rfl
    · unfold fX11_told fX11_told_18
      rw [hw, k_bs, if_pos rfl, k_lt', rd_hi ⟨rfl, rfl⟩, if_pos (by decide)]
      rfl
theorem j_needed (hW : WFp P F ND) (hp : PR b h P F ND M N) (hU : RU P F b M N) (e45 : N.1 62 45 ≠ 0) (e47 : N.1 62 47 = nI h) (e07 : M.2.2 0 7 = some b) (a : Int32) : ∃ N', rTl N N' ∧ ((∃ v, v ≤ 1 ∧ fX10_needed a M = some (.inl (nI v), M) ∧ fX11_needed a N = some (nI v, N') ∧ N'.1 62 0 = nI 0) ∨ (fX10_needed a M = some (.inr mv_e3, M) ∧ fX11_needed a N = some (nI 0, N') ∧ N'.1 62 0 = nI 1)) := by
  have gp := fun {γ : Type} (G : Nat → Option γ) => g07 (γ := γ) hp.1 e07 G
  rcases hU with ⟨h1, h2, _⟩ | ⟨q, e, m, ⟨h1, h2, h3, h4⟩, ⟨h5, h6, h7, h8⟩, h9, ⟨hA, hB, hC⟩, hD, hE, hFF, hG, hH, hI⟩
  · refine ⟨mv_si N 62 0 1, rTl_0, .inr ⟨?_, ?_, by simp (disch := omega) only [rd_hi, rd_mi, rd_hl, rd_ml, rd_hr, rd_mr, rd_si2, rd_sl1, rd_sl2, rd_sr1, rd_sr2]; rfl⟩⟩
    · unfold fX10_needed fX4_hasParam fX4_hasFunction
      rw [gp, h1, if_pos (show nN < (0 : Int32) by decide), k_bs, if_pos rfl, k_bs, if_pos rfl]
      rfl
    · unfold fX11_needed fX11_needed_25 fX11_needed_26
      rw [h2, if_pos (show nN = (-1 : Int32) from rfl), k_lt', rd_hi ⟨rfl, rfl⟩, if_neg (by decide)]
      rfl
  · have hF := hW.2.1
    have ip := i_par hW hp e45 e47 e07 (nI q) a
    have hne : ¬ N.1 62 75 = (-1 : Int32) := by rw [h3]; exact nI_ne_m1 (by omega)
    rcases ip with ⟨q', k, p1, p2, p3, rfl, p5, p6, _⟩ | ⟨p5, p6, _⟩
    · rw [k_eq (by omega) (by omega)] at p3
      subst p3
      obtain ⟨s, s1, s2, s3, s4⟩ := hH k p2
      have hp4 := (hW.2.2.2 q p1).1
      refine ⟨mv_si N 62 0 0, rTl_0, .inl ⟨if M.1 59 (1500 + s) = 0 then 0 else 1, by split <;> omega, ?_, ?_, by simp (disch := omega) only [rd_hi, rd_mi, rd_hl, rd_ml, rd_hr, rd_mr, rd_si2, rd_sl1, rd_sl2, rd_sr1, rd_sr2]; rfl⟩⟩
      · unfold fX10_needed fX2_wasParamNeeded
        rw [gp, h2, p6, k_bs, if_neg (by decide), show (0 : Int32) = nI 0 from rfl, c_thingOf (by omega) (by omega), k_bs, s2, c_has (by omega), k_bs, if_neg (by decide), k_inb (by omega) (by omega), k_ck, nI_clamp (by omega)]
        by_cases u : M.1 59 (1500 + s) = nI 0
        · rw [if_pos u, if_pos u, k_bs]; rfl
        · rw [if_neg u, if_neg u, k_bs]; rfl
      · unfold fX11_needed fX11_needed_26
        rw [if_neg hne, h3, p5, k_bs, if_neg (by decide), k_lt', rd_hi ⟨rfl, rfl⟩, if_pos rfl, k_inb (by omega) (by omega), k_ck, nI_clamp (by omega), rd_mi (by omega), s3, k_inb (by omega) (by omega), k_ck, nI_clamp (by omega), rd_mi (by omega), ← s4]
        by_cases u : M.1 59 (1500 + s) = 0
        · rw [if_pos u, if_pos u]; rfl
        · rw [if_neg u, if_neg u]; rfl
    · refine ⟨mv_si N 62 0 1, rTl_0, .inr ⟨?_, ?_, by simp (disch := omega) only [rd_hi, rd_mi, rd_hl, rd_ml, rd_hr, rd_mr, rd_si2, rd_sl1, rd_sl2, rd_sr1, rd_sr2]; rfl⟩⟩
      · unfold fX10_needed
        rw [gp, h2, p6, k_bs, if_pos (by decide)]
        rfl
      · unfold fX11_needed fX11_needed_25 fX11_needed_26
        rw [if_neg hne, h3, p5, k_bs, if_pos (by decide), k_lt', rd_hi ⟨rfl, rfl⟩, if_neg (by decide)]
        rfl
end RO1
