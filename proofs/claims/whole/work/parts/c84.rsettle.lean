/-! ROUNDS of the reference: from the beginning to the end -/
section RS
variable {b h F ND f a q n i k c d g x : Nat} {M N N' N1 : mv_M} {P : Nat → Nat → Nat} {R : Nat → Nat → Option (Nat → Nat)} {ty w u y : Nat → Nat} {X : Option (Nat → Nat)}
theorem r_80 (hf : f < F) {x1 : Int32} : ∀ n d R N c, d + n = dem (P 11 f) → 0 < d → rT b h P F ND R M N → c ≤ 1 → ∃ c' N', fX11_rounds_80 x1 (nI c) (nI f) (nI d) N = some (.inl (x1, nI c', nI (f + 1)), N') ∧ c' ≤ 1 ∧ (c' = 0 ↔ c = 0 ∧ ¬ cg1 P f n d R) ∧ rT b h P F ND (rd1 P f n d R) M N' := by
  intro n
  induction n with
  | zero =>
    intro d R N c hd h0 hs hc
    have hF := hs.1.2.1
    have hh := hs.2.2.1.2.1
    have hdm := dem_le (t := P 11 f)
    have e47 := hs.2.2.2.1
    have e65 := (hs.2.2.1.2.2.2.2.2 f hf).2.1.2.2.1
    have t4 := (hs.1.2.2.2 f hf).2.2.2.1
    have dm := (cl_dem (t := P 11 f) (M := N) (by omega)).2
    refine ⟨c, N, ?_, hc, ⟨fun z => ⟨z, id⟩, fun z => z.1⟩, hs⟩
    unfold fX11_rounds_80
    refine lp_out ?_
    unfold gX11_rounds_80
    simp (disch := omega) only [e47, e65, dm, k_iT, k_iF, Bool.false_eq_true, eq_self, Nat.add_zero, k_lt', k_bs, k_T, k_F, k_inb, k_ck, k_nz, ↓kN, kL, k_lt, k_le, k_eq, kn_le, kn_lt, kn_eq, kn_le', kn_lt', kn_eq', nI_clamp, nI_add, k_sub, k_mul, k_div, rd_hi, rd_mi, rd_hl, rd_ml, rd_hr, rd_mr, rd_si2, rd_sl1, rd_sl2, rd_sr1, rd_sr2]
  | succ n ih =>
    intro d R N c hd h0 hs hc
    have hF := hs.1.2.1
    have hh := hs.2.2.1.2.1
    have hdm := dem_le (t := P 11 f)
    have e47 := hs.2.2.2.1
    have e65 := (hs.2.2.1.2.2.2.2.2 f hf).2.1.2.2.1
    have t4 := (hs.1.2.2.2 f hf).2.2.2.1
    have dm := (cl_dem (t := P 11 f) (M := N) (by omega)).2
    obtain ⟨N2, ch, E2, c1, c2, s2⟩ := r_new hs hf h0 (by omega)
    have key : ∀ cc, cc ≤ 1 → gX11_rounds_80 x1 (nI c) (nI f) (nI d) N = some (.inl (x1, nI cc, nI f, nI (d + 1)), N2) → (cc = 0 ↔ c = 0 ∧ ch = 0) → ∃ c' N', fX11_rounds_80 x1 (nI c) (nI f) (nI d) N = some (.inl (x1, nI c', nI (f + 1)), N') ∧ c' ≤ 1 ∧ (c' = 0 ↔ c = 0 ∧ ¬ cg1 P f (n + 1) d R) ∧ rT b h P F ND (rd1 P f (n + 1) d R) M N' := by
      intro cc hcc G hci
      obtain ⟨c', M', E', k1, k2, k3⟩ := ih (d + 1) _ N2 cc (by omega) (by omega) s2 hcc
      refine ⟨c', M', ?_, k1, ?_, k3⟩
      · unfold fX11_rounds_80 at E' ⊢
        exact Eq.trans (lp_go G) E'
      · rw [k2, hci, c2]
        show _ ↔ c = 0 ∧ ¬ (¬ rsame (P 9 f) (R f d) (bE P R f d) ∨ cg1 P f n (d + 1) (upR R f d (bE P R f d)))
        refine ⟨fun z => ⟨z.1.1, fun y => y.elim (fun y => y z.1.2) z.2⟩, fun z => ⟨⟨z.1, Classical.byContradiction fun y => z.2 (.inl y)⟩, fun y => z.2 (.inr y)⟩⟩
    by_cases q2 : c = 0
    · by_cases q1 : ch = 0
      · refine key 0 (by omega) ?_ (by omega)
        unfold gX11_rounds_80 fX11_rounds_125
        simp (disch := omega) only [e47, e65, dm, E2, q1, q2, k_iT, k_iF, Bool.false_eq_true, eq_self, Nat.add_zero, k_lt', k_bs, k_T, k_F, k_inb, k_ck, k_nz, ↓kN, kL, k_lt, k_le, k_eq, kn_le, kn_lt, kn_eq, kn_le', kn_lt', kn_eq', nI_clamp, nI_add, k_sub, k_mul, k_div, rd_hi, rd_mi, rd_hl, rd_ml, rd_hr, rd_mr, rd_si2, rd_sl1, rd_sl2, rd_sr1, rd_sr2]
      · refine key 1 (by omega) ?_ (by omega)
        unfold gX11_rounds_80 fX11_rounds_120 fX11_rounds_125
        simp (disch := omega) only [e47, e65, dm, E2, q2, k_iT, k_iF, Bool.false_eq_true, eq_self, Nat.add_zero, k_lt', k_bs, k_T, k_F, k_inb, k_ck, k_nz, ↓kN, kL, k_lt, k_le, k_eq, kn_le, kn_lt, kn_eq, kn_le', kn_lt', kn_eq', nI_clamp, nI_add, k_sub, k_mul, k_div, rd_hi, rd_mi, rd_hl, rd_ml, rd_hr, rd_mr, rd_si2, rd_sl1, rd_sl2, rd_sr1, rd_sr2]
    · refine key 1 (by omega) ?_ (by omega)
      unfold gX11_rounds_80 fX11_rounds_120 fX11_rounds_125
      simp (disch := omega) only [e47, e65, dm, E2, k_iT, k_iF, Bool.false_eq_true, eq_self, Nat.add_zero, k_lt', k_bs, k_T, k_F, k_inb, k_ck, k_nz, ↓kN, kL, k_lt, k_le, k_eq, kn_le, kn_lt, kn_eq, kn_le', kn_lt', kn_eq', nI_clamp, nI_add, k_sub, k_mul, k_div, rd_hi, rd_mi, rd_hl, rd_ml, rd_hr, rd_mr, rd_si2, rd_sl1, rd_sl2, rd_sr1, rd_sr2]
theorem r_64 (hx : x < 2 ^ 30) : ∀ n f R N c, f + n = F → rT b h P F ND R M N → c ≤ 1 → ∃ c' N', fX11_rounds_64 (nI x) (nI c) (nI f) N = some (.inl (nI (x + 1), nI c'), N') ∧ c' ≤ 1 ∧ (c' = 0 ↔ c = 0 ∧ ¬ cgF P n f R) ∧ rT b h P F ND (rdF P n f R) M N' := by
  intro n
  induction n with
  | zero =>
    intro f R N c hf hs hc
    have hF := hs.1.2.1
    have hh := hs.2.2.1.2.1
    have e47 := hs.2.2.2.1
    have e79 := hs.2.2.1.2.2.2.2.1
    refine ⟨c, N, ?_, hc, ⟨fun z => ⟨z, id⟩, fun z => z.1⟩, hs⟩
    unfold fX11_rounds_64
    refine lp_out ?_
    unfold gX11_rounds_64
    simp (disch := omega) only [e47, e79, k_iT, k_iF, Bool.false_eq_true, eq_self, Nat.add_zero, k_lt', k_bs, k_T, k_F, k_inb, k_ck, k_nz, ↓kN, kL, k_lt, k_le, k_eq, kn_le, kn_lt, kn_eq, kn_le', kn_lt', kn_eq', nI_clamp, nI_add, k_sub, k_mul, k_div, rd_hi, rd_mi, rd_hl, rd_ml, rd_hr, rd_mr, rd_si2, rd_sl1, rd_sl2, rd_sr1, rd_sr2]
  | succ n ih =>
    intro f R N c hf hs hc
    have hF := hs.1.2.1
    have hh := hs.2.2.1.2.1
    have e47 := hs.2.2.2.1
    have e79 := hs.2.2.1.2.2.2.2.1
    have hpos := dem_pos (t := P 11 f)
    obtain ⟨c1, N1, E1, k1, k2, k3⟩ := r_80 (x1 := nI x) (show f < F by omega) (dem (P 11 f) - 1) 1 R N c (by omega) (by omega) hs hc
    obtain ⟨c2, N2, E2, j1, j2, j3⟩ := ih (f + 1) _ N1 c1 (by omega) k3 k1
    refine ⟨c2, N2, ?_, j1, ?_, j3⟩
    · unfold fX11_rounds_64 at E2 ⊢
      refine Eq.trans (lp_go ?_) E2
      unfold gX11_rounds_64
      simp (disch := omega) only [e47, e79, k_iT, k_iF, Bool.false_eq_true, eq_self, Nat.add_zero, k_lt', k_bs, k_T, k_F, k_inb, k_ck, k_nz, ↓kN, kL, k_lt, k_le, k_eq, kn_le, kn_lt, kn_eq, kn_le', kn_lt', kn_eq', nI_clamp, nI_add, k_sub, k_mul, k_div, rd_hi, rd_mi, rd_hl, rd_ml, rd_hr, rd_mr, rd_si2, rd_sl1, rd_sl2, rd_sr1, rd_sr2]
      exact E1
    · rw [j2, k2]
      show _ ↔ c = 0 ∧ ¬ (cg1 P f (dem (P 11 f) - 1) 1 R ∨ cgF P n (f + 1) (rd1 P f (dem (P 11 f) - 1) 1 R))
      exact ⟨fun z => ⟨z.1.1, fun y => y.elim z.1.2 z.2⟩, fun z => ⟨⟨z.1, fun y => z.2 (.inl y)⟩, fun y => z.2 (.inr y)⟩⟩
theorem r_set {K : Nat} (hK : K ≤ 62400) (hstop : ¬ cgF P F 0 (Rk P F K)) : ∀ j k N, k + j = K → rT b h P F ND (Rk P F k) M N → ∃ N' K', fX11_rounds_56 (nI k) (nI 1) N = some (nI (K' + 1), N') ∧ k ≤ K' ∧ ¬ cgF P F 0 (Rk P F K') ∧ (∀ i, k ≤ i → i < K' → cgF P F 0 (Rk P F i)) ∧ rT b h P F ND (Rk P F (K' + 1)) M N' := by
  intro j
  have stp : ∀ k N, k ≤ 62400 → rT b h P F ND (Rk P F k) M N → ∃ c' N', c' ≤ 1 ∧ (c' = 0 ↔ ¬ cgF P F 0 (Rk P F k)) ∧ rT b h P F ND (Rk P F (k + 1)) M N' ∧ fX11_rounds_56 (nI k) (nI 1) N = fX11_rounds_56 (nI (k + 1)) (nI c') N' := by
    intro k N hk hs
    obtain ⟨c', N', E, k1, k2, k3⟩ := r_64 (x := k) (by omega) F 0 (Rk P F k) N 0 (by omega) hs (by omega)
    refine ⟨c', N', k1, ?_, k3, ?_⟩
    · rw [k2]; exact ⟨fun z => z.2, fun z => ⟨rfl, z⟩⟩
    · unfold fX11_rounds_56
      refine lp_go ?_
      unfold gX11_rounds_56
      simp (disch := omega) only [k_iT, k_iF, Bool.false_eq_true, eq_self, Nat.add_zero, k_lt', k_bs, k_T, k_F, k_inb, k_ck, k_nz, ↓kN, kL, k_lt, k_le, k_eq, kn_le, kn_lt, kn_eq, kn_le', kn_lt', kn_eq', nI_clamp, nI_add, k_sub, k_mul, k_div, rd_hi, rd_mi, rd_hl, rd_ml, rd_hr, rd_mr, rd_si2, rd_sl1, rd_sl2, rd_sr1, rd_sr2]
      exact E
  have endd : ∀ k N, k ≤ 62401 → fX11_rounds_56 (nI k) (nI 0) N = some (nI k, N) := by
    intro k N hk
    unfold fX11_rounds_56
    refine lp_out ?_
    unfold gX11_rounds_56
    simp (disch := omega) only [k_iT, k_iF, Bool.false_eq_true, eq_self, Nat.add_zero, k_lt', k_bs, k_T, k_F, k_inb, k_ck, k_nz, ↓kN, kL, k_lt, k_le, k_eq, kn_le, kn_lt, kn_eq, kn_le', kn_lt', kn_eq', nI_clamp, nI_add, k_sub, k_mul, k_div, rd_hi, rd_mi, rd_hl, rd_ml, rd_hr, rd_mr, rd_si2, rd_sl1, rd_sl2, rd_sr1, rd_sr2]
  induction j with
  | zero =>
    intro k N hk hs
    obtain rfl : k = K := by omega
    obtain ⟨c', N', k1, k2, k3, E⟩ := stp k N (by omega) hs
    have c0 : c' = 0 := k2.2 hstop
    subst c0
    exact ⟨N', k, E.trans (endd _ _ (by omega)), Nat.le_refl _, hstop, fun i h1 h2 => by omega, k3⟩
  | succ j ih =>
    intro k N hk hs
    obtain ⟨c', N', k1, k2, k3, E⟩ := stp k N (by omega) hs
    by_cases c0 : c' = 0
    · subst c0
      exact ⟨N', k, E.trans (endd _ _ (by omega)), Nat.le_refl _, k2.1 rfl, fun i h1 h2 => by omega, k3⟩
    · obtain rfl : c' = 1 := by omega
      obtain ⟨N2, K', E2, l1, l3, l4, l5⟩ := ih (k + 1) N' (by omega) k3
      refine ⟨N2, K', E.trans E2, by omega, l3, fun i h1 h2 => ?_, l5⟩
      by_cases e : i = k
      · subst e
        exact Classical.byContradiction fun z => c0 (k2.2 z)
      · exact l4 i (by omega) h2
theorem r_32 : ∀ j i, i + j = 312 → fX11_rounds_32 (nI i) (pB 91 N 0 i (fun _ => 1)) = fX11_rounds_56 (nI 0) (nI 1) (pB 91 N 0 312 (fun _ => 1)) := by
  intro j
  induction j with
  | zero =>
    intro i hi
    obtain rfl : i = 312 := by omega
    unfold fX11_rounds_32
    refine lp_inr ?_
    unfold gX11_rounds_32
    simp (disch := omega) only [k_iT, k_iF, Bool.false_eq_true, eq_self, Nat.add_zero, k_lt', k_bs, k_T, k_F, k_inb, k_ck, k_nz, ↓kN, kL, k_lt, k_le, k_eq, kn_le, kn_lt, kn_eq, kn_le', kn_lt', kn_eq', nI_clamp, nI_add, k_sub, k_mul, k_div, rd_hi, rd_mi, rd_hl, rd_ml, rd_hr, rd_mr, rd_si2, rd_sl1, rd_sl2, rd_sr1, rd_sr2]
  | succ j ih =>
    intro i hi
    have h1 := ih (i + 1) (by omega)
    have v1 : vp_nar .boolean (nI 1) = nI 1 := vp1
    unfold fX11_rounds_32 at h1 ⊢
    refine Eq.trans (lp_go (s' := nI (i + 1)) (M' := pB 91 N 0 (i + 1) (fun _ => 1)) ?_) h1
    unfold gX11_rounds_32
    rw [← pB_s, Nat.zero_add]
    simp (disch := omega) only [v1, k_iT, k_iF, Bool.false_eq_true, eq_self, Nat.add_zero, k_lt', k_bs, k_T, k_F, k_inb, k_ck, k_nz, ↓kN, kL, k_lt, k_le, k_eq, kn_le, kn_lt, kn_eq, kn_le', kn_lt', kn_eq', nI_clamp, nI_add, k_sub, k_mul, k_div, rd_hi, rd_mi, rd_hl, rd_ml, rd_hr, rd_mr, rd_si2, rd_sl1, rd_sl2, rd_sr1, rd_sr2]
theorem r_settle (hW : WFp P F ND) (hp : PR b h P F ND M N) (e45 : N.1 62 45 ≠ 0) (e47 : N.1 62 47 = nI h) : ∃ N' K, fX11_rounds N = some (nI (K + 1), N') ∧ ¬ cgF P F 0 (Rk P F K) ∧ (∀ i, i < K → cgF P F 0 (Rk P F i)) ∧ rT b h P F ND (Rk P F (K + 1)) M N' := by
  obtain ⟨K0, hK0, hst⟩ := Rk_stop hW
  have hs : rT b h P F ND (Rk P F 0) M (pB 91 (mv_si (mv_si N 62 0 (nI 0)) 62 46 (nI 1)) 0 312 (fun _ => 1)) := by
    refine ⟨hW, rOK_0, PR_F hp (fun _ _ _ _ => rfl) (fun c k u1 u2 => by rw [pB_out (by omega)]; simp (disch := omega) only [rd_hi, rd_mi, rd_hl, rd_ml, rd_hr, rd_mr, rd_si2, rd_sl1, rd_sl2, rd_sr1, rd_sr2]), by rw [pB_out (by omega)]; simp (disch := omega) only [rd_hi, rd_mi, rd_hl, rd_ml, rd_hr, rd_mr, rd_si2, rd_sl1, rd_sl2, rd_sr1, rd_sr2]; exact e47, fun q hq d h0 hd => ⟨fun _ => ?_, fun r z => by cases z⟩⟩
    have := dem_le (t := P 11 q)
    have := hW.2.1
    have := pB_in (a := 91) (M := mv_si (mv_si N 62 0 (nI 0)) 62 46 (nI 1)) (q := 0) (n := 312) (w := fun _ => 1) (k := 26 * q + d) (by omega)
    rw [Nat.zero_add] at this
    exact this
  obtain ⟨N', K, E, _, l3, l4, l5⟩ := r_set hK0 hst K0 0 _ (by omega) hs
  refine ⟨N', K, ?_, l3, fun i hi => l4 i (by omega) hi, l5⟩
  have e32 := r_32 (N := mv_si (mv_si N 62 0 (nI 0)) 62 46 (nI 1)) 312 0 (by omega)
  rw [pB_0] at e32
  unfold fX11_rounds fX11_rounds_13
  rw [if_neg e45]
  simp (disch := omega) only [k_iT, k_iF, Bool.false_eq_true, eq_self, Nat.add_zero, k_lt', k_bs, k_T, k_F, k_inb, k_ck, k_nz, ↓kN, kL, k_lt, k_le, k_eq, kn_le, kn_lt, kn_eq, kn_le', kn_lt', kn_eq', nI_clamp, nI_add, k_sub, k_mul, k_div, rd_hi, rd_mi, rd_hl, rd_ml, rd_hr, rd_mr, rd_si2, rd_sl1, rd_sl2, rd_sr1, rd_sr2]
  rw [e32]
  exact E
/-- both sides -/
theorem j_rounds (hW : WFp P F ND) {M0 : mv_M} (hp : PR b h P F ND M N) (e45 : N.1 62 45 ≠ 0) (e47 : N.1 62 47 = nI h) : ∃ K M' N', fX5_settle b M = some (nI (K + 1), M') ∧ fX11_rounds N = some (nI (K + 1), N') ∧ K ≤ 62400 ∧ cT b h P F ND (Rk P F (K + 1)) N M' ∧ M'.1 5 0 = nI 1 ∧ rT b h P F ND (Rk P F (K + 1)) M N' := by
  obtain ⟨M', K, E, k0, k1, k2, k3, k4⟩ := c_settle hW hp
  obtain ⟨N', K', E', l1, l2, l3⟩ := r_settle hW hp e45 e47
  have : K = K' := by
    apply Classical.byContradiction
    intro hne
    rcases (show K < K' ∨ K' < K by omega) with z | z
    · exact k1 (l2 K z)
    · exact l1 (k2 K' z)
  subst this
  exact ⟨K, M', N', E, E', k0, k3, k4, l3⟩
end RS
