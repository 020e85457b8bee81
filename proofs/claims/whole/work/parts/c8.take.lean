/-! ROUNDS of the class: one row -/
def wP (b h : Nat) (P : Nat → Nat → Nat) (F ND f : Nat) (N M : mv_M) : Prop := WFp P F ND ∧ f < F ∧ PR b h P F ND M N ∧ M.2.2 5 1 = some b ∧ M.1 5 2 = nI f
section CT
variable {b h F ND f a q n i k c d g : Nat} {M M' M0 M1 N : mv_M} {P : Nat → Nat → Nat} {R : Nat → Nat → Option (Nat → Nat)} {ty w u y old : Nat → Nat} {X : Option (Nat → Nat)}
theorem wS_P (hs : wS b h P F ND f R N M) : wP b h P F ND f N M := ⟨hs.1, hs.2.2.1, hs.2.2.2.1, hs.2.2.2.2.1, hs.2.2.2.2.2.1⟩
theorem wP_F (hs : wP b h P F ND f N M) (h2 : M'.2 = M.2) (e : ∀ a p, a ≤ 40 → M'.1 a p = M.1 a p) : wP b h P F ND f N M' := by
  obtain ⟨s1, s3, s4, s5, s6⟩ := hs
  have hb := s4.1
  exact ⟨s1, s3, PR_F s4 (fun c k u1 u2 => e c k (by omega)) (fun _ _ _ _ => rfl), by rw [h2]; exact s5, (e 5 2 (by omega)).trans s6⟩
theorem g_get {γ : Type} (hs : wP b h P F ND f N M) (G : Nat → Option γ) : mv_getp (M.2.2 5 1) G = G b := by
  have hb := hs.2.2.1.1
  have hb2 : (decide (b = 9) || decide (b = 24)) = true := by simpa using hb
  rw [hs.2.2.2.1]
  show mv_chk (decide (b = 9) || decide (b = 24)) (G b) = G b
  rw [hb2]; rfl
theorem g_nty (hs : wP b h P F ND f N M) (hk : k < P 9 f) : fX4_nameType b (nI f) (nI k) M = some (nI (P 13 (16 * f + k)), M) ∧ P 13 (16 * f + k) ≤ 4 := by
  have e := hs.2.2.1.2.2.1
  have hf := hs.2.1
  have hF := hs.1.2.1
  have e2 := (hs.2.2.1.2.2.2.2.2 f hf).1.2.1
  have wf := hs.1.2.2.2 f hs.2.1
  have h2 := wf.2.2.1
  have h1 := wf.2.1
  have h4 := wf.2.2.2.2.2.2.2.1 k hk
  have h3 := ((hs.2.2.1.2.2.2.2.2 f hf).2.2.1 k (by omega) h4).1
  refine ⟨?_, h4⟩
  unfold fX4_nameType fX4_hasName fX4_hasFunction
  simp (disch := omega) only [e, e2, h3, k_iT, k_iF, Bool.false_eq_true, eq_self, Nat.add_zero, k_lt', k_bs, k_T, k_F, k_inb, k_ck, k_nz, ↓kN, kL, k_lt, k_le, k_eq, kn_le, kn_lt, kn_eq, kn_le', kn_lt', kn_eq', nI_clamp, nI_add, k_sub, k_mul, k_div, rd_hi, rd_mi, rd_hl, rd_ml, rd_hr, rd_mr, rd_si2, rd_sl1, rd_sl2, rd_sr1, rd_sr2]
theorem c_all {t : Nat} (ht : t ≤ 4) : fX6_allOf (nI t) M = some (nI (dem t - 1), M) := by
  have h1 := (cl_dem (t := t) (M := M) (by omega)).1
  have := dem_pos (t := t)
  unfold fX6_allOf
  simp (disch := omega) only [h1, k_iT, k_iF, Bool.false_eq_true, eq_self, Nat.add_zero, k_lt', k_bs, k_T, k_F, k_inb, k_ck, k_nz, ↓kN, kL, k_lt, k_le, k_eq, kn_le, kn_lt, kn_eq, kn_le', kn_lt', kn_eq', nI_clamp, nI_add, k_sub, k_mul, k_div, rd_hi, rd_mi, rd_hl, rd_ml, rd_hr, rd_mr, rd_si2, rd_sl1, rd_sl2, rd_sr1, rd_sr2]
theorem bt0 : mv_bt (nI 0) = true := rfl
theorem bt1 : mv_bt (nI 1) = true := rfl
theorem c_53 {fl : Nat} (hs : wP b h P F ND f N M) (hfl : fl ≤ 1) (e47 : M.1 47 0 = nI fl) (hd : d < 26) (hw : ∀ k, k < P 9 f → w k < 26 ∧ (fl = 0 → M.1 46 k = nI (w k)) ∧ (fl = 1 → w k = dem (P 13 (16 * f + k)) - 1)) : ∀ j i c, i + j = P 9 f → c ≤ 1 → ∃ c', c' ≤ 1 ∧ (c' = 0 ↔ c = 0 ∧ ∀ m, i ≤ m → m < P 9 f → M.1 44 ((26 * f + d) * 4 + m) = nI (w m)) ∧ fX5_takeFirstSheet_53 (nI (26 * f + d)) (nI c) (nI i) (pB 44 M ((26 * f + d) * 4) i w) = some (nI c', pB 44 M ((26 * f + d) * 4) (P 9 f) w) := by
  have hp := (hs.1.2.2.2 f hs.2.1).1
  have hF := hs.1.2.1
  have hf := hs.2.1
  intro j
  induction j with
  | zero =>
    intro i c hi hc
    have hs' := wP_F (M' := pB 44 M ((26 * f + d) * 4) i w) hs rfl (fun a p ha => pB_out (by omega))
    have e6 := hs'.2.2.2.2
    have e2 := (hs'.2.2.1.2.2.2.2.2 f hf).1.1
    obtain rfl : i = P 9 f := by omega
    refine ⟨c, hc, ⟨fun z => ⟨z, fun m h1 h2 => by omega⟩, fun z => z.1⟩, ?_⟩
    unfold fX5_takeFirstSheet_53
    refine lp_out ?_
    unfold gX5_takeFirstSheet_53
    rw [g_get hs']
    rcases (show c = 0 ∨ c = 1 by omega) with rfl | rfl
    · simp (disch := omega) only [e6, e2, bt0, k_iT, k_iF, Bool.false_eq_true, eq_self, Nat.add_zero, k_lt', k_bs, k_T, k_F, k_inb, k_ck, k_nz, ↓kN, kL, k_lt, k_le, k_eq, kn_le, kn_lt, kn_eq, kn_le', kn_lt', kn_eq', nI_clamp, nI_add, k_sub, k_mul, k_div, rd_hi, rd_mi, rd_hl, rd_ml, rd_hr, rd_mr, rd_si2, rd_sl1, rd_sl2, rd_sr1, rd_sr2]
    · simp (disch := omega) only [e6, e2, bt1, k_iT, k_iF, Bool.false_eq_true, eq_self, Nat.add_zero, k_lt', k_bs, k_T, k_F, k_inb, k_ck, k_nz, ↓kN, kL, k_lt, k_le, k_eq, kn_le, kn_lt, kn_eq, kn_le', kn_lt', kn_eq', nI_clamp, nI_add, k_sub, k_mul, k_div, rd_hi, rd_mi, rd_hl, rd_ml, rd_hr, rd_mr, rd_si2, rd_sl1, rd_sl2, rd_sr1, rd_sr2]
  | succ j ih =>
    intro i c hi hc
    have hs' := wP_F (M' := pB 44 M ((26 * f + d) * 4) i w) hs rfl (fun a p ha => pB_out (by omega))
    have e6 := hs'.2.2.2.2
    have e2 := (hs'.2.2.1.2.2.2.2.2 f hf).1.1
    obtain ⟨w26, ew0, ew1⟩ := hw i (by omega)
    have eo : (pB 44 M ((26 * f + d) * 4) i w).1 44 ((26 * f + d) * 4 + i) = M.1 44 ((26 * f + d) * 4 + i) := by rw [pB_out (by omega)]
    have e7 : (pB 44 M ((26 * f + d) * 4) i w).1 47 0 = nI fl := by rw [pB_out (by omega), e47]
    obtain ⟨nt, t4⟩ := g_nty hs' (k := i) (by omega)
    have al := c_all (M := pB 44 M ((26 * f + d) * 4) i w) t4
    -- the step
    have step : ∀ s0, s0 = nI (w i) → ∃ c1, c1 ≤ 1 ∧ (c1 = 0 ↔ c = 0 ∧ M.1 44 ((26 * f + d) * 4 + i) = nI (w i)) ∧ fX5_takeFirstSheet_105 (nI (26 * f + d)) (nI c) (nI i) s0 (pB 44 M ((26 * f + d) * 4) i w) = some (.inl (nI (26 * f + d), nI c1, nI (i + 1)), pB 44 M ((26 * f + d) * 4) (i + 1) w) := by
      intro s0 hs0
      subst hs0
      rw [← pB_s]
      by_cases c0 : c = 0
      · by_cases eq : M.1 44 ((26 * f + d) * 4 + i) = nI (w i)
        · refine ⟨0, by omega, ⟨fun _ => ⟨c0, eq⟩, fun _ => rfl⟩, ?_⟩
          have eq' : (M.1 44 ((26 * f + d) * 4 + i) = nI (w i)) = True := eq_true eq
          unfold fX5_takeFirstSheet_105 fX5_takeFirstSheet_132
          simp (disch := omega) only [c0, eo, eq', k_iT, k_iF, Bool.false_eq_true, eq_self, Nat.add_zero, k_lt', k_bs, k_T, k_F, k_inb, k_ck, k_nz, ↓kN, kL, k_lt, k_le, k_eq, kn_le, kn_lt, kn_eq, kn_le', kn_lt', kn_eq', nI_clamp, nI_add, k_sub, k_mul, k_div, rd_hi, rd_mi, rd_hl, rd_ml, rd_hr, rd_mr, rd_si2, rd_sl1, rd_sl2, rd_sr1, rd_sr2]
        · refine ⟨1, by omega, ⟨fun z => by omega, fun z => absurd z.2 eq⟩, ?_⟩
          have eq' : (M.1 44 ((26 * f + d) * 4 + i) = nI (w i)) = False := eq_false eq
          unfold fX5_takeFirstSheet_105 fX5_takeFirstSheet_127 fX5_takeFirstSheet_132
          simp (disch := omega) only [c0, eo, eq', k_iT, k_iF, Bool.false_eq_true, eq_self, Nat.add_zero, k_lt', k_bs, k_T, k_F, k_inb, k_ck, k_nz, ↓kN, kL, k_lt, k_le, k_eq, kn_le, kn_lt, kn_eq, kn_le', kn_lt', kn_eq', nI_clamp, nI_add, k_sub, k_mul, k_div, rd_hi, rd_mi, rd_hl, rd_ml, rd_hr, rd_mr, rd_si2, rd_sl1, rd_sl2, rd_sr1, rd_sr2]
      · refine ⟨1, by omega, ⟨fun z => by omega, fun z => absurd z.1 c0⟩, ?_⟩
        unfold fX5_takeFirstSheet_105 fX5_takeFirstSheet_127 fX5_takeFirstSheet_132
        simp (disch := omega) only [k_iT, k_iF, Bool.false_eq_true, eq_self, Nat.add_zero, k_lt', k_bs, k_T, k_F, k_inb, k_ck, k_nz, ↓kN, kL, k_lt, k_le, k_eq, kn_le, kn_lt, kn_eq, kn_le', kn_lt', kn_eq', nI_clamp, nI_add, k_sub, k_mul, k_div, rd_hi, rd_mi, rd_hl, rd_ml, rd_hr, rd_mr, rd_si2, rd_sl1, rd_sl2, rd_sr1, rd_sr2]
    have g1 : ∃ s0, s0 = nI (w i) ∧ gX5_takeFirstSheet_53 (nI (26 * f + d)) (nI c) (nI i) (pB 44 M ((26 * f + d) * 4) i w) = fX5_takeFirstSheet_105 (nI (26 * f + d)) (nI c) (nI i) s0 (pB 44 M ((26 * f + d) * 4) i w) := by
      rcases (show fl = 0 ∨ fl = 1 by omega) with rfl | rfl
      · have ew := ew0 rfl
        have e4 : (pB 44 M ((26 * f + d) * 4) i w).1 46 i = nI (w i) := by rw [pB_out (by omega), ew]
        refine ⟨_, rfl, ?_⟩
        unfold gX5_takeFirstSheet_53
        rw [g_get hs']
        simp (disch := omega) only [e6, e2, e7, e4, k_iT, k_iF, Bool.false_eq_true, eq_self, Nat.add_zero, k_lt', k_bs, k_T, k_F, k_inb, k_ck, k_nz, ↓kN, kL, k_lt, k_le, k_eq, kn_le, kn_lt, kn_eq, kn_le', kn_lt', kn_eq', nI_clamp, nI_add, k_sub, k_mul, k_div, rd_hi, rd_mi, rd_hl, rd_ml, rd_hr, rd_mr, rd_si2, rd_sl1, rd_sl2, rd_sr1, rd_sr2]
      · have ew := ew1 rfl
        refine ⟨_, rfl, ?_⟩
        unfold gX5_takeFirstSheet_53
        rw [g_get hs']
        simp (disch := omega) only [e6, e2, e7, k_iT, k_iF, Bool.false_eq_true, eq_self, Nat.add_zero, k_lt', k_bs, k_T, k_F, k_inb, k_ck, k_nz, ↓kN, kL, k_lt, k_le, k_eq, kn_le, kn_lt, kn_eq, kn_le', kn_lt', kn_eq', nI_clamp, nI_add, k_sub, k_mul, k_div, rd_hi, rd_mi, rd_hl, rd_ml, rd_hr, rd_mr, rd_si2, rd_sl1, rd_sl2, rd_sr1, rd_sr2]
        rw [g_get hs']
        simp (disch := omega) only [nt, al, ew, k_iT, k_iF, Bool.false_eq_true, eq_self, Nat.add_zero, k_lt', k_bs, k_T, k_F, k_inb, k_ck, k_nz, ↓kN, kL, k_lt, k_le, k_eq, kn_le, kn_lt, kn_eq, kn_le', kn_lt', kn_eq', nI_clamp, nI_add, k_sub, k_mul, k_div, rd_hi, rd_mi, rd_hl, rd_ml, rd_hr, rd_mr, rd_si2, rd_sl1, rd_sl2, rd_sr1, rd_sr2]
    obtain ⟨s0, hs0, g1⟩ := g1
    obtain ⟨c1, hc1, ic1, E1⟩ := step s0 hs0
    obtain ⟨c2, hc2, ic2, E2⟩ := ih (i + 1) c1 (by omega) hc1
    refine ⟨c2, hc2, ?_, ?_⟩
    · rw [ic2, ic1]
      refine ⟨fun z => ⟨z.1.1, fun m h1 h2 => ?_⟩, fun z => ⟨⟨z.1, z.2 i (Nat.le_refl _) (by omega)⟩, fun m h1 h2 => z.2 m (by omega) h2⟩⟩
      by_cases e : m = i
      · rw [e]; exact z.1.2
      · exact z.2 m (by omega) h2
    · unfold fX5_takeFirstSheet_53 at E2 ⊢
      exact Eq.trans (lp_go (g1.trans E1)) E2
theorem c_take {fl : Nat} (hs : wP b h P F ND f N M) (hfl : fl ≤ 1) (e47 : M.1 47 0 = nI fl) (hd : d < 26) (hw : ∀ k, k < P 9 f → w k < 26 ∧ (fl = 0 → M.1 46 k = nI (w k)) ∧ (fl = 1 → w k = dem (P 13 (16 * f + k)) - 1)) : ∃ ch, ch ≤ 1 ∧ (ch = 0 ↔ M.1 45 (26 * f + d) = nI fl ∧ ∀ m, m < P 9 f → M.1 44 ((26 * f + d) * 4 + m) = nI (w m)) ∧ fX5_takeFirstSheet (nI d) M = some (nI ch, pB 44 (mv_si M 45 (26 * f + d) (nI fl)) ((26 * f + d) * 4) (P 9 f) w) := by
  have hF := hs.1.2.1
  have hf := hs.2.1
  have e6 := hs.2.2.2.2
  have er : f * 26 + d = 26 * f + d := by omega
  have ev : vp_nar .boolean (nI fl) = nI fl := by
    rcases (show fl = 0 ∨ fl = 1 by omega) with rfl | rfl
    · exact vp0
    · exact vp1
  have hs5 := wP_F (M' := mv_si M 45 (26 * f + d) (nI fl)) hs rfl (fun a p ha => by simp (disch := omega) only [rd_hi, rd_mi, rd_hl, rd_ml, rd_hr, rd_mr, rd_si2, rd_sl1, rd_sl2, rd_sr1, rd_sr2])
  have K := c_53 hs5 hfl (by simp (disch := omega) only [rd_hi, rd_mi, rd_hl, rd_ml, rd_hr, rd_mr, rd_si2, rd_sl1, rd_sl2, rd_sr1, rd_sr2]; exact e47) hd (fun k hk => ⟨(hw k hk).1, fun z => by simp (disch := omega) only [rd_hi, rd_mi, rd_hl, rd_ml, rd_hr, rd_mr, rd_si2, rd_sl1, rd_sl2, rd_sr1, rd_sr2]; exact (hw k hk).2.1 z, (hw k hk).2.2⟩) (P 9 f) 0
  by_cases e45 : M.1 45 (26 * f + d) = nI fl
  · obtain ⟨c', h1, h2, h3⟩ := K 0 (by omega) (by omega)
    rw [pB_0] at h3
    have e45' : (M.1 45 (26 * f + d) = nI fl) = True := eq_true e45
    refine ⟨c', h1, ?_, ?_⟩
    · rw [h2]
      refine ⟨fun z => ⟨e45, fun m hm => ?_⟩, fun z => ⟨rfl, fun m _ hm => ?_⟩⟩
      · have := z.2 m (by omega) hm
        rw [← this]; simp (disch := omega) only [rd_hi, rd_mi, rd_hl, rd_ml, rd_hr, rd_mr, rd_si2, rd_sl1, rd_sl2, rd_sr1, rd_sr2]
      · rw [← z.2 m hm]; simp (disch := omega) only [rd_hi, rd_mi, rd_hl, rd_ml, rd_hr, rd_mr, rd_si2, rd_sl1, rd_sl2, rd_sr1, rd_sr2]
    · unfold fX5_takeFirstSheet fX5_takeFirstSheet_37 fX5_rowOf
      simp (disch := omega) only [e6, er, e47, e45', ev, k_iT, k_iF, Bool.false_eq_true, eq_self, Nat.add_zero, k_lt', k_bs, k_T, k_F, k_inb, k_ck, k_nz, ↓kN, kL, k_lt, k_le, k_eq, kn_le, kn_lt, kn_eq, kn_le', kn_lt', kn_eq', nI_clamp, nI_add, k_sub, k_mul, k_div, rd_hi, rd_mi, rd_hl, rd_ml, rd_hr, rd_mr, rd_si2, rd_sl1, rd_sl2, rd_sr1, rd_sr2]
      exact h3
  · obtain ⟨c', h1, h2, h3⟩ := K 1 (by omega) (by omega)
    rw [pB_0] at h3
    have e45' : (M.1 45 (26 * f + d) = nI fl) = False := eq_false e45
    refine ⟨c', h1, ?_, ?_⟩
    · rw [h2]
      exact ⟨fun z => by omega, fun z => absurd z.1 e45⟩
    · unfold fX5_takeFirstSheet fX5_takeFirstSheet_37 fX5_rowOf
      simp (disch := omega) only [e6, er, e47, e45', ev, k_iT, k_iF, Bool.false_eq_true, eq_self, Nat.add_zero, k_lt', k_bs, k_T, k_F, k_inb, k_ck, k_nz, ↓kN, kL, k_lt, k_le, k_eq, kn_le, kn_lt, kn_eq, kn_le', kn_lt', kn_eq', nI_clamp, nI_add, k_sub, k_mul, k_div, rd_hi, rd_mi, rd_hl, rd_ml, rd_hr, rd_mr, rd_si2, rd_sl1, rd_sl2, rd_sr1, rd_sr2]
      exact h3
end CT
