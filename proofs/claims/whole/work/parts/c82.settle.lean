/-! ROUNDS of the class: from the beginning to the end -/
/-- rows before (f, d) are dead -/
def kR (P : Nat → Nat → Nat) (F f d : Nat) (M : mv_M) : Prop := ∀ q, q < F → ∀ e, 0 < e → e < dem (P 11 q) → (q < f ∨ (q = f ∧ e < d)) → M.1 45 (26 * q + e) = nI 1 ∧ ∀ k, k < P 9 q → M.1 44 ((26 * q + e) * 4 + k) = nI (dem (P 13 (16 * q + k)) - 1)
section CW
variable {b h F ND f a q n i k c d g : Nat} {M M' M0 M1 N : mv_M} {P : Nat → Nat → Nat} {R : Nat → Nat → Option (Nat → Nat)} {ty w u y : Nat → Nat} {X : Option (Nat → Nat)}
def wQ (b h : Nat) (P : Nat → Nat → Nat) (F ND : Nat) (N M : mv_M) : Prop := WFp P F ND ∧ PR b h P F ND M N ∧ M.2.2 5 1 = some b
theorem wQ_F (hs : wQ b h P F ND N M) (h2 : M'.2 = M.2) (e : ∀ a p, (a = 5 → p = 2) → a ≤ 40 → a ≠ 5 → M'.1 a p = M.1 a p) : wQ b h P F ND N M' := by
  obtain ⟨s1, s4, s5⟩ := hs
  have hb := s4.1
  exact ⟨s1, PR_F s4 (fun c k u1 u2 => e c k (by omega) (by omega) (by omega)) (fun _ _ _ _ => rfl), by rw [h2]; exact s5⟩
theorem k_37 (hf : f < F) : ∀ n d M, d + n = dem (P 11 f) → 0 < d → wQ b h P F ND N M → M.1 5 2 = nI f → kR P F f d M → ∃ M', fX5_killAll_36 (nI f) (nI (dem (P 11 f))) (nI d) M = some (.inl (nI (f + 1)), M') ∧ wQ b h P F ND N M' ∧ kR P F (f + 1) 1 M' := by
  intro n
  induction n with
  | zero =>
    intro d M hd h0 hs e6 hk
    have hF := hs.1.2.1
    have hdm := dem_le (t := P 11 f)
    refine ⟨M, ?_, hs, ?_⟩
    · unfold fX5_killAll_36
      refine lp_out ?_
      unfold gX5_killAll_36
      simp (disch := omega) only [k_iT, k_iF, Bool.false_eq_true, eq_self, Nat.add_zero, k_lt', k_bs, k_T, k_F, k_inb, k_ck, k_nz, ↓kN, kL, k_lt, k_le, k_eq, kn_le, kn_lt, kn_eq, kn_le', kn_lt', kn_eq', nI_clamp, nI_add, k_sub, k_mul, k_div, rd_hi, rd_mi, rd_hl, rd_ml, rd_hr, rd_mr, rd_si2, rd_sl1, rd_sl2, rd_sr1, rd_sr2]
    · intro q hq e e0 e1 ho
      have hh := hk q hq e e0 e1 (by
        rcases ho with ho | ho
        · by_cases z : q = f
          · subst z; exact .inr ⟨rfl, by omega⟩
          · exact .inl (by omega)
        · omega)
      exact hh
  | succ n ih =>
    intro d M hd h0 hs e6 hk
    have hF := hs.1.2.1
    have hdm := dem_le (t := P 11 f)
    have hs8 : wP b h P F ND f N (mv_si M 47 0 (nI 1)) := wP_F (M := M) ⟨hs.1, hf, hs.2.1, hs.2.2, e6⟩ rfl (fun a p ha => by simp (disch := omega) only [rd_hi, rd_mi, rd_hl, rd_ml, rd_hr, rd_mr, rd_si2, rd_sl1, rd_sl2, rd_sr1, rd_sr2])
    obtain ⟨ch, _, _, E1⟩ := c_take (fl := 1) (d := d) (w := fun k => dem (P 13 (16 * f + k)) - 1) hs8 (by omega) (by simp (disch := omega) only [rd_hi, rd_mi, rd_hl, rd_ml, rd_hr, rd_mr, rd_si2, rd_sl1, rd_sl2, rd_sr1, rd_sr2]) (by omega) (fun k hk' => ⟨by have := dem_le (t := P 13 (16 * f + k)); omega, fun z => by omega, fun _ => rfl⟩)
    generalize eM : pB 44 (mv_si (mv_si M 47 0 (nI 1)) 45 (26 * f + d) (nI 1)) ((26 * f + d) * 4) (P 9 f) (fun k => dem (P 13 (16 * f + k)) - 1) = M1 at E1
    have fr : ∀ a p, ¬ (a = 44 ∧ (26 * f + d) * 4 ≤ p ∧ p < (26 * f + d) * 4 + P 9 f) → ¬ (a = 45 ∧ p = 26 * f + d) → ¬ (a = 47 ∧ p = 0) → M1.1 a p = M.1 a p := by
      intro a p z1 z2 z3
      rw [← eM, pB_out z1, rd_mi z2, rd_mi z3]
    have f2 : M1.2 = M.2 := by rw [← eM]; rfl
    have hp := (hs.1.2.2.2 f hf).1
    obtain ⟨M', E', k1, k2⟩ := ih (d + 1) M1 (by omega) (by omega) (wQ_F hs f2 (fun a p _ h4 h5 => fr a p (by omega) (by omega) (by omega))) ((fr 5 2 (by omega) (by omega) (by omega)).trans e6) (by
      intro q hq e e0 e1 ho
      have he := dem_le (t := P 11 q)
      have hpq := (hs.1.2.2.2 q hq).1
      by_cases z : q = f ∧ e = d
      · obtain ⟨rfl, rfl⟩ := z
        rw [← eM]
        exact ⟨by rw [pB_out (by omega)]; simp (disch := omega) only [rd_hi, rd_mi, rd_hl, rd_ml, rd_hr, rd_mr, rd_si2, rd_sl1, rd_sl2, rd_sr1, rd_sr2], fun k hk' => by rw [pB_in hk']⟩
      · have hh := hk q hq e e0 e1 (by omega)
        exact ⟨(fr _ _ (by omega) (by omega) (by omega)).trans hh.1, fun k hk' => (fr _ _ (by omega) (by omega) (by omega)).trans (hh.2 k hk')⟩)
    refine ⟨M', ?_, k1, k2⟩
    have v1 : vp_nar .boolean (nI 1) = nI 1 := vp1
    unfold fX5_killAll_36 at E' ⊢
    refine Eq.trans (lp_go ?_) E'
    unfold gX5_killAll_36
    simp (disch := omega) only [v1, E1, k_iT, k_iF, Bool.false_eq_true, eq_self, Nat.add_zero, k_lt', k_bs, k_T, k_F, k_inb, k_ck, k_nz, ↓kN, kL, k_lt, k_le, k_eq, kn_le, kn_lt, kn_eq, kn_le', kn_lt', kn_eq', nI_clamp, nI_add, k_sub, k_mul, k_div, rd_hi, rd_mi, rd_hl, rd_ml, rd_hr, rd_mr, rd_si2, rd_sl1, rd_sl2, rd_sr1, rd_sr2]
theorem k_5 : ∀ n f M, f + n = F → wQ b h P F ND N M → kR P F f 1 M → ∃ M', fX5_killAll_2 (nI f) M = some ((), M') ∧ wQ b h P F ND N M' ∧ kR P F F 1 M' := by
  intro n
  induction n with
  | zero =>
    intro f M hf hs hk
    have hF := hs.1.2.1
    have e0 := hs.2.1.2.2.1
    have hb2 : (decide (b = 9) || decide (b = 24)) = true := by simpa using hs.2.1.1
    have gt : ∀ {γ : Type} (G : Nat → Option γ), mv_getp (M.2.2 5 1) G = G b := by
      intro γ G
      rw [hs.2.2]
      show mv_chk (decide (b = 9) || decide (b = 24)) (G b) = G b
      rw [hb2]; rfl
    obtain rfl : f = F := by omega
    refine ⟨M, ?_, hs, hk⟩
    unfold fX5_killAll_2
    refine lp_out ?_
    unfold gX5_killAll_2
    rw [gt]
    simp (disch := omega) only [e0, k_iT, k_iF, Bool.false_eq_true, eq_self, Nat.add_zero, k_lt', k_bs, k_T, k_F, k_inb, k_ck, k_nz, ↓kN, kL, k_lt, k_le, k_eq, kn_le, kn_lt, kn_eq, kn_le', kn_lt', kn_eq', nI_clamp, nI_add, k_sub, k_mul, k_div, rd_hi, rd_mi, rd_hl, rd_ml, rd_hr, rd_mr, rd_si2, rd_sl1, rd_sl2, rd_sr1, rd_sr2]
  | succ n ih =>
    intro f M hf hs hk
    have hF := hs.1.2.1
    have e0 := hs.2.1.2.2.1
    have hb := hs.2.1.1
    have hb2 : (decide (b = 9) || decide (b = 24)) = true := by simpa using hs.2.1.1
    have gt : ∀ {γ : Type} (G : Nat → Option γ), mv_getp (M.2.2 5 1) G = G b := by
      intro γ G
      rw [hs.2.2]
      show mv_chk (decide (b = 9) || decide (b = 24)) (G b) = G b
      rw [hb2]; rfl
    have hsf : wQ b h P F ND N (mv_si M 5 2 (nI f)) := wQ_F hs rfl (fun a p _ _ h5 => by simp (disch := omega) only [rd_hi, rd_mi, rd_hl, rd_ml, rd_hr, rd_mr, rd_si2, rd_sl1, rd_sl2, rd_sr1, rd_sr2])
    have hkf : kR P F f 1 (mv_si M 5 2 (nI f)) := fun q hq e z0 z1 ho => by
      have hh := hk q hq e z0 z1 ho
      exact ⟨by simp (disch := omega) only [rd_hi, rd_mi, rd_hl, rd_ml, rd_hr, rd_mr, rd_si2, rd_sl1, rd_sl2, rd_sr1, rd_sr2]; exact hh.1, fun k hk' => by simp (disch := omega) only [rd_hi, rd_mi, rd_hl, rd_ml, rd_hr, rd_mr, rd_si2, rd_sl1, rd_sl2, rd_sr1, rd_sr2]; exact hh.2 k hk'⟩
    have hw : wP b h P F ND f N (mv_si M 5 2 (nI f)) := ⟨hsf.1, by omega, hsf.2.1, hsf.2.2, by simp (disch := omega) only [rd_hi, rd_mi, rd_hl, rd_ml, rd_hr, rd_mr, rd_si2, rd_sl1, rd_sl2, rd_sr1, rd_sr2]⟩
    have e4 := (hs.2.1.2.2.2.2.2 f (by omega)).1.2.2.1
    have t4 := (hs.1.2.2.2 f (by omega)).2.2.2.1
    have dm := (cl_dem (t := P 11 f) (M := mv_si M 5 2 (nI f)) (by omega)).1
    have hpos := dem_pos (t := P 11 f)
    obtain ⟨M1, E1, k1, k2⟩ := k_37 (show f < F by omega) (dem (P 11 f) - 1) 1 (mv_si M 5 2 (nI f)) (by omega) (by omega) hsf (by simp (disch := omega) only [rd_hi, rd_mi, rd_hl, rd_ml, rd_hr, rd_mr, rd_si2, rd_sl1, rd_sl2, rd_sr1, rd_sr2]) hkf
    obtain ⟨M2, E2, j1, j2⟩ := ih (f + 1) M1 (by omega) k1 k2
    refine ⟨M2, ?_, j1, j2⟩
    unfold fX5_killAll_2 at E2 ⊢
    refine Eq.trans (lp_go ?_) E2
    unfold gX5_killAll_2
    rw [gt]
    simp (disch := omega) only [k_F, k_iF, k_iT, e0, ↓kN, kL, k_lt, k_le, k_eq, kn_le, kn_lt, kn_eq, kn_le', kn_lt', kn_eq', nI_clamp, nI_add, k_sub, k_mul, k_div, rd_hi, rd_mi, rd_hl, rd_ml, rd_hr, rd_mr, rd_si2, rd_sl1, rd_sl2, rd_sr1, rd_sr2]
    rw [k_lt', g_get hw]
    simp (disch := omega) only [e4, dm, k_iT, k_iF, Bool.false_eq_true, eq_self, Nat.add_zero, k_lt', k_bs, k_T, k_F, k_inb, k_ck, k_nz, ↓kN, kL, k_lt, k_le, k_eq, kn_le, kn_lt, kn_eq, kn_le', kn_lt', kn_eq', nI_clamp, nI_add, k_sub, k_mul, k_div, rd_hi, rd_mi, rd_hl, rd_ml, rd_hr, rd_mr, rd_si2, rd_sl1, rd_sl2, rd_sr1, rd_sr2]
    exact E1
theorem k_all (hs : wQ b h P F ND N M) : ∃ M', fX5_killAll M = some ((), M') ∧ cT b h P F ND (fun _ _ => none) N M' ∧ M'.1 5 0 = M.1 5 0 := by
  obtain ⟨M', E, k1, k2⟩ := k_5 F 0 M (by omega) hs (fun q _ e h0 _ ho => by omega)
  have E' : fX5_killAll M = some ((), M') := by
    unfold fX5_killAll
    exact E
  refine ⟨M', E', ⟨k1.1, rOK_0, k1.2.1, k1.2.2, fun q hq d h0 hd => ⟨fun _ => k2 q hq d h0 hd (.inl hq), fun r z => by cases z⟩⟩, ?_⟩
  exact (qX5_killAll M _ _ E' 5 0 (by decide)).1
theorem c_set (hW : WFp P F ND) {K : Nat} (hK : K ≤ 62400) (hstop : ¬ cgF P F 0 (Rk P F K)) : ∀ j k M, k + j = K → cT b h P F ND (Rk P F k) N M → M.1 5 0 = nI 1 → ∃ M' K', fX5_settle_16 (nI (k + 1)) M = some (nI (K' + 1), M') ∧ k ≤ K' ∧ K' ≤ 62400 ∧ ¬ cgF P F 0 (Rk P F K') ∧ (∀ i, k ≤ i → i < K' → cgF P F 0 (Rk P F i)) ∧ cT b h P F ND (Rk P F (K' + 1)) N M' ∧ M'.1 5 0 = nI 1 := by
  intro j
  induction j with
  | zero =>
    intro k M hk hs e50
    obtain rfl : k = K := by omega
    obtain ⟨c', M', E, k1, k2, k3⟩ := c_round hs
    have c0 : c' = 0 := k2.2 hstop
    subst c0
    refine ⟨M', k, ?_, Nat.le_refl _, hK, hstop, fun i h1 h2 => by omega, k3, ((qX5_changesInRound M _ _ E 5 0 (by decide)).1).trans e50⟩
    unfold fX5_settle_16
    refine lp_out ?_
    unfold gX5_settle_16
    simp (disch := omega) only [E, k_iT, k_iF, Bool.false_eq_true, eq_self, Nat.add_zero, k_lt', k_bs, k_T, k_F, k_inb, k_ck, k_nz, ↓kN, kL, k_lt, k_le, k_eq, kn_le, kn_lt, kn_eq, kn_le', kn_lt', kn_eq', nI_clamp, nI_add, k_sub, k_mul, k_div, rd_hi, rd_mi, rd_hl, rd_ml, rd_hr, rd_mr, rd_si2, rd_sl1, rd_sl2, rd_sr1, rd_sr2]
  | succ j ih =>
    intro k M hk hs e50
    obtain ⟨c', M', E, k1, k2, k3⟩ := c_round hs
    have e50' := ((qX5_changesInRound M _ _ E 5 0 (by decide)).1).trans e50
    by_cases c0 : c' = 0
    · subst c0
      refine ⟨M', k, ?_, Nat.le_refl _, by omega, k2.1 rfl, fun i h1 h2 => by omega, k3, e50'⟩
      unfold fX5_settle_16
      refine lp_out ?_
      unfold gX5_settle_16
      simp (disch := omega) only [E, k_iT, k_iF, Bool.false_eq_true, eq_self, Nat.add_zero, k_lt', k_bs, k_T, k_F, k_inb, k_ck, k_nz, ↓kN, kL, k_lt, k_le, k_eq, kn_le, kn_lt, kn_eq, kn_le', kn_lt', kn_eq', nI_clamp, nI_add, k_sub, k_mul, k_div, rd_hi, rd_mi, rd_hl, rd_ml, rd_hr, rd_mr, rd_si2, rd_sl1, rd_sl2, rd_sr1, rd_sr2]
    · obtain ⟨M2, K', E2, l1, l2, l3, l4, l5, l6⟩ := ih (k + 1) M' (by omega) k3 e50'
      refine ⟨M2, K', ?_, by omega, l2, l3, fun i h1 h2 => ?_, l5, l6⟩
      · unfold fX5_settle_16 at E2 ⊢
        refine Eq.trans (lp_go ?_) E2
        unfold gX5_settle_16
        simp (disch := omega) only [E, k_iT, k_iF, Bool.false_eq_true, eq_self, Nat.add_zero, k_lt', k_bs, k_T, k_F, k_inb, k_ck, k_nz, ↓kN, kL, k_lt, k_le, k_eq, kn_le, kn_lt, kn_eq, kn_le', kn_lt', kn_eq', nI_clamp, nI_add, k_sub, k_mul, k_div, rd_hi, rd_mi, rd_hl, rd_ml, rd_hr, rd_mr, rd_si2, rd_sl1, rd_sl2, rd_sr1, rd_sr2]
      · by_cases e : i = k
        · subst e
          exact Classical.byContradiction fun z => c0 (k2.2 z)
        · exact l4 i (by omega) h2
theorem c_settle (hW : WFp P F ND) (hp : PR b h P F ND M N) : ∃ M' K, fX5_settle b M = some (nI (K + 1), M') ∧ K ≤ 62400 ∧ ¬ cgF P F 0 (Rk P F K) ∧ (∀ i, i < K → cgF P F 0 (Rk P F i)) ∧ cT b h P F ND (Rk P F (K + 1)) N M' ∧ M'.1 5 0 = nI 1 := by
  obtain ⟨K0, hK0, hst⟩ := Rk_stop hW
  have hb := hp.1
  have hq : wQ b h P F ND N (mv_si (mv_sr M 5 1 (some b)) 5 0 (nI 1)) := ⟨hW, PR_F hp (fun c k u1 u2 => by simp (disch := omega) only [rd_hi, rd_mi, rd_hl, rd_ml, rd_hr, rd_mr, rd_si2, rd_sl1, rd_sl2, rd_sr1, rd_sr2]) (fun _ _ _ _ => rfl), by simp (disch := omega) only [rd_hi, rd_mi, rd_hl, rd_ml, rd_hr, rd_mr, rd_si2, rd_sl1, rd_sl2, rd_sr1, rd_sr2]⟩
  obtain ⟨M1, E1, s1, e50⟩ := k_all hq
  obtain ⟨M', K, E, l1, l2, l3, l4, l5, l6⟩ := c_set hW hK0 hst K0 0 M1 (by omega) s1 (e50.trans (by simp (disch := omega) only [rd_hi, rd_mi, rd_hl, rd_ml, rd_hr, rd_mr, rd_si2, rd_sl1, rd_sl2, rd_sr1, rd_sr2]))
  refine ⟨M', K, ?_, l2, l3, fun i hi => l4 i (by omega) hi, l5, l6⟩
  unfold fX5_settle
  simp (disch := omega) only [E1, k_iT, k_iF, Bool.false_eq_true, eq_self, Nat.add_zero, k_lt', k_bs, k_T, k_F, k_inb, k_ck, k_nz, ↓kN, kL, k_lt, k_le, k_eq, kn_le, kn_lt, kn_eq, kn_le', kn_lt', kn_eq', nI_clamp, nI_add, k_sub, k_mul, k_div, rd_hi, rd_mi, rd_hl, rd_ml, rd_hr, rd_mr, rd_si2, rd_sl1, rd_sl2, rd_sr1, rd_sr2]
  exact E
end CW
