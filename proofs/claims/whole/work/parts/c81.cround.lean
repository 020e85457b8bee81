/-! ROUNDS of the class -/
def cT (b h : Nat) (P : Nat → Nat → Nat) (F ND : Nat) (R : Nat → Nat → Option (Nat → Nat)) (N M : mv_M) : Prop := WFp P F ND ∧ rOK P F R ∧ PR b h P F ND M N ∧ M.2.2 5 1 = some b ∧ rowC P F R M
section CV
variable {b h F ND f a q n i k c d g : Nat} {M M' M0 M1 N : mv_M} {P : Nat → Nat → Nat} {R : Nat → Nat → Option (Nat → Nat)} {ty w u y : Nat → Nat} {X : Option (Nat → Nat)}
theorem cT_wS (hs : cT b h P F ND R N M) (hf : f < F) (e : M.1 5 2 = nI f) : wS b h P F ND f R N M := ⟨hs.1, hs.2.1, hf, hs.2.2.1, hs.2.2.2.1, e, hs.2.2.2.2⟩
theorem wS_cT (hs : wS b h P F ND f R N M) : cT b h P F ND R N M := ⟨hs.1, hs.2.1, hs.2.2.2.1, hs.2.2.2.2.1, hs.2.2.2.2.2.2⟩
theorem cT_52 {v : Int32} (hs : cT b h P F ND R N M) : cT b h P F ND R N (mv_si M 5 2 v) := by
  obtain ⟨s1, s2, s3, s4, s5⟩ := hs
  have hb := s3.1
  exact ⟨s1, s2, PR_F s3 (fun c k u1 u2 => by simp (disch := omega) only [rd_hi, rd_mi, rd_hl, rd_ml, rd_hr, rd_mr, rd_si2, rd_sl1, rd_sl2, rd_sr1, rd_sr2]) (fun _ _ _ _ => rfl), s4, rowC_F s5 (fun a p ha => by simp (disch := omega) only [rd_hi, rd_mi, rd_hl, rd_ml, rd_hr, rd_mr, rd_si2, rd_sl1, rd_sl2, rd_sr1, rd_sr2])⟩
theorem nI_inj26 {x y : Nat} (hx : x < 26) (hy : y < 26) : (nI x = nI y) ↔ x = y := by rw [k_eq (by omega) (by omega)]
theorem c_rnew (hs : wS b h P F ND f R N M) (h0 : 0 < d) (hd : d < dem (P 11 f)) : ∃ M1 M' ch, tX5_weigh (nI (P 12 f)) (nI d) (nI 0) M = some ((), M1) ∧ fX5_takeFirstSheet (nI d) M1 = some (nI ch, M') ∧ ch ≤ 1 ∧ (ch = 0 ↔ rsame (P 9 f) (R f d) (bE P R f d)) ∧ wS b h P F ND f (upR R f d (bE P R f d)) N M' := by
  have wf := hs.1.2.2.2 f hs.2.2.1
  have hl := (wf.2.2.2.2.2.2.2.2.2 (P 12 f) wf.2.2.2.2.1 (Nat.le_refl _)).2.1
  have hdm := dem_le (t := P 11 f)
  have hp := wf.1
  obtain ⟨M1, E1, L1, u, hu, hx⟩ := w_main 81 M hs 0 (P 12 f) d wf.2.2.2.2.1 (Nat.le_refl _) (by omega) h0 (by rw [wf.2.2.2.2.2.2.1]; exact hd) (by omega) 320 (by omega)
  have hs1 := wS_F hs L1.1
  have hok := rOK_up hs.1 hs.2.1 hs.2.2.1 h0 hd
  have bok := bE_ok hs.1 hs.2.1 hs.2.2.1 h0 hd
  change (bE P R f d = none ∧ _) ∨ (∃ x, bE P R f d = some x ∧ _) at hx
  have d26 := fun t => dem_le (t := t)
  have fin : ∀ (fl : Nat) (w : Nat → Nat), M1.1 47 0 = nI fl → fl ≤ 1 → (∀ k, k < P 9 f → w k < 26 ∧ (fl = 0 → M1.1 46 k = nI (w k)) ∧ (fl = 1 → w k = dem (P 13 (16 * f + k)) - 1)) → (bE P R f d = none → fl = 1) → (∀ x, bE P R f d = some x → fl = 0 ∧ ∀ k, k < P 9 f → w k = x k) → ∃ M1 M' ch, tX5_weigh (nI (P 12 f)) (nI d) (nI 0) M = some ((), M1) ∧ fX5_takeFirstSheet (nI d) M1 = some (nI ch, M') ∧ ch ≤ 1 ∧ (ch = 0 ↔ rsame (P 9 f) (R f d) (bE P R f d)) ∧ wS b h P F ND f (upR R f d (bE P R f d)) N M' := by
    intro fl w e47 hfl hw hn hsm
    obtain ⟨ch, c1, c2, c3⟩ := c_take (wS_P hs1) hfl e47 (show d < 26 by omega) hw
    have rr := hs1.2.2.2.2.2.2 f hs.2.2.1 d h0 hd
    have P2 := wP_F (M' := pB 44 (mv_si M1 45 (26 * f + d) (nI fl)) ((26 * f + d) * 4) (P 9 f) w) (wS_P hs1) rfl (fun a p ha => by rw [pB_out (by omega)]; simp (disch := omega) only [rd_hi, rd_mi, rd_hl, rd_ml, rd_hr, rd_mr, rd_si2, rd_sl1, rd_sl2, rd_sr1, rd_sr2])
    refine ⟨M1, _, ch, E1, c3, c1, ?_, hs.1, hok, hs.2.2.1, P2.2.2.1, P2.2.2.2.1, P2.2.2.2.2, ?_⟩
    · rw [c2]
      cases hR : R f d with
      | none =>
        obtain ⟨q1, q2⟩ := rr.1 hR
        cases hB : bE P R f d with
        | none =>
          have := hn hB
          subst this
          exact ⟨fun _ => .inl ⟨rfl, rfl⟩, fun _ => ⟨q1, fun m hm => by rw [q2 m hm, (hw m hm).2.2 rfl]⟩⟩
        | some x =>
          have := (hsm x hB).1
          subst this
          refine ⟨fun z => ?_, fun z => ?_⟩
          · rw [q1, nI_inj26 (by omega) (by omega)] at z; omega
          · rcases z with ⟨_, z⟩ | ⟨_, _, z, _⟩ <;> cases z
      | some r =>
        obtain ⟨q1, q2⟩ := rr.2 r hR
        cases hB : bE P R f d with
        | none =>
          have := hn hB
          subst this
          refine ⟨fun z => ?_, fun z => ?_⟩
          · rw [q1, nI_inj26 (by omega) (by omega)] at z; omega
          · rcases z with ⟨z, _⟩ | ⟨_, _, _, z, _⟩ <;> cases z
        | some x =>
          obtain ⟨e0, e1⟩ := hsm x hB
          subst e0
          have b26 : ∀ m, m < P 9 f → r m < 26 := fun m hm => by
            have := hs.2.1 f hs.2.2.1 d h0 hd r hR m hm
            have := d26 (P 13 (16 * f + m))
            omega
          refine ⟨fun z => .inr ⟨r, x, rfl, rfl, fun m hm => ?_⟩, fun z => ⟨q1, fun m hm => ?_⟩⟩
          · have := z.2 m hm
            rw [q2 m hm, nI_inj26 (b26 m hm) (hw m hm).1] at this
            rw [this, e1 m hm]
          · rcases z with ⟨z, _⟩ | ⟨r', x', z1, z2, z3⟩
            · cases z
            · cases z1; cases z2
              rw [q2 m hm, z3 m hm, e1 m hm]
    · intro q hq e h0' he
      have he' := d26 (P 11 q)
      have hpq := (hs.1.2.2.2 q hq).1
      by_cases eq : q = f ∧ e = d
      · obtain ⟨rfl, rfl⟩ := eq
        unfold upR
        rw [if_pos ⟨rfl, rfl⟩]
        refine ⟨fun z => ?_, fun x z => ?_⟩
        · have := hn z
          subst this
          refine ⟨by rw [pB_out (by omega)]; simp (disch := omega) only [rd_hi, rd_mi, rd_hl, rd_ml, rd_hr, rd_mr, rd_si2, rd_sl1, rd_sl2, rd_sr1, rd_sr2], fun m hm => ?_⟩
          rw [pB_in hm, (hw m hm).2.2 rfl]
        · obtain ⟨e0, e1⟩ := hsm x z
          subst e0
          refine ⟨by rw [pB_out (by omega)]; simp (disch := omega) only [rd_hi, rd_mi, rd_hl, rd_ml, rd_hr, rd_mr, rd_si2, rd_sl1, rd_sl2, rd_sr1, rd_sr2], fun m hm => ?_⟩
          rw [pB_in hm, e1 m hm]
      · unfold upR
        rw [if_neg eq]
        obtain ⟨r1, r2⟩ := hs1.2.2.2.2.2.2 q hq e h0' he
        have g45 : (pB 44 (mv_si M1 45 (26 * f + d) (nI fl)) ((26 * f + d) * 4) (P 9 f) w).1 45 (26 * q + e) = M1.1 45 (26 * q + e) := by
          rw [pB_out (by omega), rd_mi (by omega)]
        have g44 : ∀ k, k < P 9 q → (pB 44 (mv_si M1 45 (26 * f + d) (nI fl)) ((26 * f + d) * 4) (P 9 f) w).1 44 ((26 * q + e) * 4 + k) = M1.1 44 ((26 * q + e) * 4 + k) := fun k hk => by
          rw [pB_out (by omega), rd_mi (by omega)]
        exact ⟨fun z => ⟨g45.trans (r1 z).1, fun k hk => (g44 k hk).trans ((r1 z).2 k hk)⟩, fun r z => ⟨g45.trans (r2 r z).1, fun k hk => (g44 k hk).trans ((r2 r z).2 k hk)⟩⟩
  rcases hx with ⟨hB, e47⟩ | ⟨x, hB, e47, ex⟩
  · exact fin 1 (fun k => dem (P 13 (16 * f + k)) - 1) e47 (by omega) (fun k hk => ⟨by have := d26 (P 13 (16 * f + k)); omega, fun z => by omega, fun _ => rfl⟩) (fun _ => rfl) (fun x hx' => by rw [hB] at hx'; cases hx')
  · refine fin 0 x e47 (by omega) (fun k hk => ⟨?_, fun _ => ?_, fun z => by omega⟩) (fun z => by rw [hB] at z; cases z) (fun x' hx' => ?_)
    · have : x k < dem (P 13 (16 * f + k)) := bok x hB k hk
      have := d26 (P 13 (16 * f + k))
      omega
    · have h1 := (hu k (by omega)).2
      rw [show 16 * 0 + k = k by omega, ex k (by omega)] at h1
      exact h1
    · rw [hB] at hx'
      cases hx'
      exact ⟨rfl, fun _ _ => rfl⟩
theorem c_39 (hf : f < F) : ∀ n d R M c, d + n = dem (P 11 f) → 0 < d → cT b h P F ND R N M → M.1 5 2 = nI f → c ≤ 1 → ∃ c' M', fX5_changesInRound_39 (nI c) (nI f) (nI (dem (P 11 f))) (nI d) M = some (.inl (nI c', nI (f + 1)), M') ∧ c' ≤ 1 ∧ (c' = 0 ↔ c = 0 ∧ ¬ cg1 P f n d R) ∧ cT b h P F ND (rd1 P f n d R) N M' := by
  intro n
  induction n with
  | zero =>
    intro d R M c hd h0 hs e6 hc
    have hF := hs.1.2.1
    have hdm := dem_le (t := P 11 f)
    refine ⟨c, M, ?_, hc, ⟨fun z => ⟨z, id⟩, fun z => z.1⟩, hs⟩
    unfold fX5_changesInRound_39
    refine lp_out ?_
    unfold gX5_changesInRound_39
    simp (disch := omega) only [k_iT, k_iF, Bool.false_eq_true, eq_self, Nat.add_zero, k_lt', k_bs, k_T, k_F, k_inb, k_ck, k_nz, ↓kN, kL, k_lt, k_le, k_eq, kn_le, kn_lt, kn_eq, kn_le', kn_lt', kn_eq', nI_clamp, nI_add, k_sub, k_mul, k_div, rd_hi, rd_mi, rd_hl, rd_ml, rd_hr, rd_mr, rd_si2, rd_sl1, rd_sl2, rd_sr1, rd_sr2]
  | succ n ih =>
    intro d R M c hd h0 hs e6 hc
    have hF := hs.1.2.1
    have hdm := dem_le (t := P 11 f)
    have hw := cT_wS hs hf e6
    obtain ⟨M1, M2, ch, E1, E2, c1, c2, s2⟩ := c_rnew hw h0 (by omega)
    have e5 := (hs.2.2.1.2.2.2.2.2 f hf).1.2.2.2
    have key : ∀ cc, cc ≤ 1 → gX5_changesInRound_39 (nI c) (nI f) (nI (dem (P 11 f))) (nI d) M = some (.inl (nI cc, nI f, nI (dem (P 11 f)), nI (d + 1)), M2) → (cc = 0 ↔ c = 0 ∧ ch = 0) → ∃ c' M', fX5_changesInRound_39 (nI c) (nI f) (nI (dem (P 11 f))) (nI d) M = some (.inl (nI c', nI (f + 1)), M') ∧ c' ≤ 1 ∧ (c' = 0 ↔ c = 0 ∧ ¬ cg1 P f (n + 1) d R) ∧ cT b h P F ND (rd1 P f (n + 1) d R) N M' := by
      intro cc hcc G hci
      obtain ⟨c', M', E', k1, k2, k3⟩ := ih (d + 1) _ M2 cc (by omega) (by omega) (wS_cT s2) s2.2.2.2.2.2.1 hcc
      refine ⟨c', M', ?_, k1, ?_, k3⟩
      · unfold fX5_changesInRound_39 at E' ⊢
        exact Eq.trans (lp_go G) E'
      · rw [k2, hci, c2]
        show _ ↔ c = 0 ∧ ¬ (¬ rsame (P 9 f) (R f d) (bE P R f d) ∨ cg1 P f n (d + 1) (upR R f d (bE P R f d)))
        refine ⟨fun z => ⟨z.1.1, fun y => y.elim (fun y => y z.1.2) z.2⟩, fun z => ⟨⟨z.1, Classical.byContradiction fun y => z.2 (.inl y)⟩, fun y => z.2 (.inr y)⟩⟩
    by_cases q1 : ch = 0
    · by_cases q2 : c = 0
      · refine key 0 (by omega) ?_ (by omega)
        unfold gX5_changesInRound_39 fX5_changesInRound_82
        simp (disch := omega) only [k_F, k_iF, k_iT, ↓kN, kL, k_lt, k_le, k_eq, kn_le, kn_lt, kn_eq, kn_le', kn_lt', kn_eq', nI_clamp, nI_add, k_sub, k_mul, k_div, rd_hi, rd_mi, rd_hl, rd_ml, rd_hr, rd_mr, rd_si2, rd_sl1, rd_sl2, rd_sr1, rd_sr2]
        rw [w_get hw]
        simp (disch := omega) only [e6, e5, E1, E2, q1, q2, k_iT, k_iF, Bool.false_eq_true, eq_self, Nat.add_zero, k_lt', k_bs, k_T, k_F, k_inb, k_ck, k_nz, ↓kN, kL, k_lt, k_le, k_eq, kn_le, kn_lt, kn_eq, kn_le', kn_lt', kn_eq', nI_clamp, nI_add, k_sub, k_mul, k_div, rd_hi, rd_mi, rd_hl, rd_ml, rd_hr, rd_mr, rd_si2, rd_sl1, rd_sl2, rd_sr1, rd_sr2]
      · refine key 1 (by omega) ?_ (by omega)
        unfold gX5_changesInRound_39 fX5_changesInRound_77 fX5_changesInRound_82
        simp (disch := omega) only [k_F, k_iF, k_iT, ↓kN, kL, k_lt, k_le, k_eq, kn_le, kn_lt, kn_eq, kn_le', kn_lt', kn_eq', nI_clamp, nI_add, k_sub, k_mul, k_div, rd_hi, rd_mi, rd_hl, rd_ml, rd_hr, rd_mr, rd_si2, rd_sl1, rd_sl2, rd_sr1, rd_sr2]
        rw [w_get hw]
        simp (disch := omega) only [e6, e5, E1, E2, q1, k_iT, k_iF, Bool.false_eq_true, eq_self, Nat.add_zero, k_lt', k_bs, k_T, k_F, k_inb, k_ck, k_nz, ↓kN, kL, k_lt, k_le, k_eq, kn_le, kn_lt, kn_eq, kn_le', kn_lt', kn_eq', nI_clamp, nI_add, k_sub, k_mul, k_div, rd_hi, rd_mi, rd_hl, rd_ml, rd_hr, rd_mr, rd_si2, rd_sl1, rd_sl2, rd_sr1, rd_sr2]
    · refine key 1 (by omega) ?_ (by omega)
      unfold gX5_changesInRound_39 fX5_changesInRound_77 fX5_changesInRound_82
      simp (disch := omega) only [k_F, k_iF, k_iT, ↓kN, kL, k_lt, k_le, k_eq, kn_le, kn_lt, kn_eq, kn_le', kn_lt', kn_eq', nI_clamp, nI_add, k_sub, k_mul, k_div, rd_hi, rd_mi, rd_hl, rd_ml, rd_hr, rd_mr, rd_si2, rd_sl1, rd_sl2, rd_sr1, rd_sr2]
      rw [w_get hw]
      simp (disch := omega) only [e6, e5, E1, E2, k_iT, k_iF, Bool.false_eq_true, eq_self, Nat.add_zero, k_lt', k_bs, k_T, k_F, k_inb, k_ck, k_nz, ↓kN, kL, k_lt, k_le, k_eq, kn_le, kn_lt, kn_eq, kn_le', kn_lt', kn_eq', nI_clamp, nI_add, k_sub, k_mul, k_div, rd_hi, rd_mi, rd_hl, rd_ml, rd_hr, rd_mr, rd_si2, rd_sl1, rd_sl2, rd_sr1, rd_sr2]
theorem c_7 : ∀ n f R M c, f + n = F → cT b h P F ND R N M → c ≤ 1 → ∃ c' M', fX5_changesInRound_4 (nI c) (nI f) M = some (nI c', M') ∧ c' ≤ 1 ∧ (c' = 0 ↔ c = 0 ∧ ¬ cgF P n f R) ∧ cT b h P F ND (rdF P n f R) N M' := by
  intro n
  induction n with
  | zero =>
    intro f R M c hf hs hc
    have hF := hs.1.2.1
    have e0 := hs.2.2.1.2.2.1
    have hb2 : (decide (b = 9) || decide (b = 24)) = true := by simpa using hs.2.2.1.1
    have gt : ∀ {γ : Type} (G : Nat → Option γ), mv_getp (M.2.2 5 1) G = G b := by
      intro γ G
      rw [hs.2.2.2.1]
      show mv_chk (decide (b = 9) || decide (b = 24)) (G b) = G b
      rw [hb2]; rfl
    refine ⟨c, M, ?_, hc, ⟨fun z => ⟨z, id⟩, fun z => z.1⟩, hs⟩
    unfold fX5_changesInRound_4
    refine lp_out ?_
    unfold gX5_changesInRound_4
    rw [gt]
    rcases (show c = 0 ∨ c = 1 by omega) with rfl | rfl
    · simp (disch := omega) only [e0, bt0, k_iT, k_iF, Bool.false_eq_true, eq_self, Nat.add_zero, k_lt', k_bs, k_T, k_F, k_inb, k_ck, k_nz, ↓kN, kL, k_lt, k_le, k_eq, kn_le, kn_lt, kn_eq, kn_le', kn_lt', kn_eq', nI_clamp, nI_add, k_sub, k_mul, k_div, rd_hi, rd_mi, rd_hl, rd_ml, rd_hr, rd_mr, rd_si2, rd_sl1, rd_sl2, rd_sr1, rd_sr2]
    · simp (disch := omega) only [e0, bt1, k_iT, k_iF, Bool.false_eq_true, eq_self, Nat.add_zero, k_lt', k_bs, k_T, k_F, k_inb, k_ck, k_nz, ↓kN, kL, k_lt, k_le, k_eq, kn_le, kn_lt, kn_eq, kn_le', kn_lt', kn_eq', nI_clamp, nI_add, k_sub, k_mul, k_div, rd_hi, rd_mi, rd_hl, rd_ml, rd_hr, rd_mr, rd_si2, rd_sl1, rd_sl2, rd_sr1, rd_sr2]
  | succ n ih =>
    intro f R M c hf hs hc
    have hF := hs.1.2.1
    have e0 := hs.2.2.1.2.2.1
    have hb := hs.2.2.1.1
    have hb2 : (decide (b = 9) || decide (b = 24)) = true := by simpa using hs.2.2.1.1
    have gt : ∀ {γ : Type} (G : Nat → Option γ), mv_getp (M.2.2 5 1) G = G b := by
      intro γ G
      rw [hs.2.2.2.1]
      show mv_chk (decide (b = 9) || decide (b = 24)) (G b) = G b
      rw [hb2]; rfl
    have hsf : cT b h P F ND R N (mv_si M 5 2 (nI f)) := cT_52 hs
    have hw := cT_wS hsf (show f < F by omega) (by simp (disch := omega) only [rd_hi, rd_mi, rd_hl, rd_ml, rd_hr, rd_mr, rd_si2, rd_sl1, rd_sl2, rd_sr1, rd_sr2])
    have e4 := (hs.2.2.1.2.2.2.2.2 f (by omega)).1.2.2.1
    have t4 := (hs.1.2.2.2 f (by omega)).2.2.2.1
    have dm := (cl_dem (t := P 11 f) (M := mv_si M 5 2 (nI f)) (by omega)).1
    have hpos := dem_pos (t := P 11 f)
    obtain ⟨c1, M1, E1, k1, k2, k3⟩ := c_39 (show f < F by omega) (dem (P 11 f) - 1) 1 R (mv_si M 5 2 (nI f)) c (by omega) (by omega) hsf (by simp (disch := omega) only [rd_hi, rd_mi, rd_hl, rd_ml, rd_hr, rd_mr, rd_si2, rd_sl1, rd_sl2, rd_sr1, rd_sr2]) hc
    obtain ⟨c2, M2, E2, j1, j2, j3⟩ := ih (f + 1) _ M1 c1 (by omega) k3 k1
    refine ⟨c2, M2, ?_, j1, ?_, j3⟩
    · unfold fX5_changesInRound_4 at E2 ⊢
      refine Eq.trans (lp_go ?_) E2
      unfold gX5_changesInRound_4
      rw [gt]
      simp (disch := omega) only [k_F, k_iF, k_iT, e0, ↓kN, kL, k_lt, k_le, k_eq, kn_le, kn_lt, kn_eq, kn_le', kn_lt', kn_eq', nI_clamp, nI_add, k_sub, k_mul, k_div, rd_hi, rd_mi, rd_hl, rd_ml, rd_hr, rd_mr, rd_si2, rd_sl1, rd_sl2, rd_sr1, rd_sr2]
      rw [k_lt', w_get hw]
      simp (disch := omega) only [e4, dm, k_iT, k_iF, Bool.false_eq_true, eq_self, Nat.add_zero, k_lt', k_bs, k_T, k_F, k_inb, k_ck, k_nz, ↓kN, kL, k_lt, k_le, k_eq, kn_le, kn_lt, kn_eq, kn_le', kn_lt', kn_eq', nI_clamp, nI_add, k_sub, k_mul, k_div, rd_hi, rd_mi, rd_hl, rd_ml, rd_hr, rd_mr, rd_si2, rd_sl1, rd_sl2, rd_sr1, rd_sr2]
      exact E1
    · rw [j2, k2]
      show _ ↔ c = 0 ∧ ¬ (cg1 P f (dem (P 11 f) - 1) 1 R ∨ cgF P n (f + 1) (rd1 P f (dem (P 11 f) - 1) 1 R))
      exact ⟨fun z => ⟨z.1.1, fun y => y.elim z.1.2 z.2⟩, fun z => ⟨⟨z.1, fun y => z.2 (.inl y)⟩, fun y => z.2 (.inr y)⟩⟩
theorem c_round (hs : cT b h P F ND R N M) : ∃ c' M', fX5_changesInRound M = some (nI c', M') ∧ c' ≤ 1 ∧ (c' = 0 ↔ ¬ cgF P F 0 R) ∧ cT b h P F ND (rdF P F 0 R) N M' := by
  obtain ⟨c', M', E, k1, k2, k3⟩ := c_7 F 0 R M 0 (by omega) hs (by omega)
  refine ⟨c', M', ?_, k1, ?_, k3⟩
  · unfold fX5_changesInRound
    exact E
  · rw [k2]; exact ⟨fun z => z.2, fun z => ⟨rfl, z⟩⟩
end CV
