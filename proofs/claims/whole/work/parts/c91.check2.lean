/-! CHECK by the reference, and whole -/
section CL
variable {b h F ND f a q n i k c d g : Nat} {M M1 N N' N1 : mv_M} {P : Nat → Nat → Nat} {R : Nat → Nat → Option (Nat → Nat)} {ty w u y r x : Nat → Nat} {X : Option (Nat → Nat)}
theorem r_all (hs : rT b h P F ND R M N) (hf : f < F) (hk : k < P 9 f) : fX11_all (nI f) (nI k) N = some (nI (dem (P 13 (16 * f + k)) - 1), N) ∧ P 13 (16 * f + k) ≤ 4 := by
  have hF := hs.1.2.1
  have hh := hs.2.2.1.2.1
  have wf := hs.1.2.2.2 f hf
  have e47 := hs.2.2.2.1
  have t4 := wf.2.2.2.2.2.2.2.1 k hk
  have h1 := wf.2.1
  have h2 := wf.2.2.1
  have e70 := ((hs.2.2.1.2.2.2.2.2 f hf).2.2.1 k (by omega) t4).2
  have dm := (cl_dem (t := P 13 (16 * f + k)) (M := N) (by omega)).2
  have dp := dem_pos (t := P 13 (16 * f + k))
  refine ⟨?_, t4⟩
  unfold fX11_all
  simp (disch := omega) only [e47, e70, dm, k_iT, k_iF, Bool.false_eq_true, eq_self, Nat.add_zero, k_lt', k_bs, k_T, k_F, k_inb, k_ck, k_nz, ↓kN, kL, k_lt, k_le, k_eq, kn_le, kn_lt, kn_eq, kn_le', kn_lt', kn_eq', nI_clamp, nI_add, k_sub, k_mul, k_div, rd_hi, rd_mi, rd_hl, rd_ml, rd_hr, rd_mr, rd_si2, rd_sl1, rd_sl2, rd_sr1, rd_sr2]
theorem r_has (hs : rT b h P F ND R M N) (hf : f < F) (h0 : 0 < d) (hd : d < dem (P 11 f)) (hk : k < P 9 f) : (R f d = none → fX11_has (nI f) (nI d) (nI k) N = some (nI (dem (P 13 (16 * f + k)) - 1), N)) ∧ ∀ r, R f d = some r → fX11_has (nI f) (nI d) (nI k) N = some (nI (r k), N) := by
  have hF := hs.1.2.1
  have hdm := dem_le (t := P 11 f)
  have hp := (hs.1.2.2.2 f hf).1
  obtain ⟨r1, r2⟩ := hs.2.2.2.2 f hf d h0 hd
  refine ⟨fun z => ?_, fun r z => ?_⟩
  · have e := r1 z
    have al := (r_all hs hf hk).1
    unfold fX11_has
    simp (disch := omega) only [e, al, k_iT, k_iF, Bool.false_eq_true, eq_self, Nat.add_zero, k_lt', k_bs, k_T, k_F, k_inb, k_ck, k_nz, ↓kN, kL, k_lt, k_le, k_eq, kn_le, kn_lt, kn_eq, kn_le', kn_lt', kn_eq', nI_clamp, nI_add, k_sub, k_mul, k_div, rd_hi, rd_mi, rd_hl, rd_ml, rd_hr, rd_mr, rd_si2, rd_sl1, rd_sl2, rd_sr1, rd_sr2]
  · obtain ⟨e, e2⟩ := r2 r z
    have e2 := e2 k hk
    unfold fX11_has
    simp (disch := omega) only [e, e2, k_iT, k_iF, Bool.false_eq_true, eq_self, Nat.add_zero, k_lt', k_bs, k_T, k_F, k_inb, k_ck, k_nz, ↓kN, kL, k_lt, k_le, k_eq, kn_le, kn_lt, kn_eq, kn_le', kn_lt', kn_eq', nI_clamp, nI_add, k_sub, k_mul, k_div, rd_hi, rd_mi, rd_hl, rd_ml, rd_hr, rd_mr, rd_si2, rd_sl1, rd_sl2, rd_sr1, rd_sr2]
theorem r_58 {fl : Nat} (hs : rT b h P F ND R M N) (hf : f < F) (e33 : N.1 62 33 = nI (12 * h + f)) (h0 : 0 < d) (hd : d < dem (P 11 f)) (hR : R f d = some r) (hfl : fl ≤ 1) (hx : fl = 0 → ∀ k, k < P 9 f → x k < dem (P 13 (16 * f + k)) ∧ N.1 88 k = nI (x k)) : ∀ j i c, i + j = P 9 f → c ≤ 1 → ∃ v, v ≤ 1 ∧ (v = 0 ↔ c = 0 ∧ (fl = 1 ∨ ∀ m, i ≤ m → m < P 9 f → ei (P 13 (16 * f + m)) (r m) (x m) = r m)) ∧ fX11_tellsTooMuch_58 (nI f) (nI d) (nI fl) (nI c) (nI i) N = some (nI v, N) := by
  have hF := hs.1.2.1
  have hh := hs.2.2.1.2.1
  have wf := hs.1.2.2.2 f hf
  have hp := wf.1
  have e66 := (hs.2.2.1.2.2.2.2.2 f hf).2.1.1
  intro j
  induction j with
  | zero =>
    intro i c hi hc
    obtain rfl : i = P 9 f := by omega
    refine ⟨c, hc, ⟨fun z => ⟨z, .inr (fun m h1 h2 => by omega)⟩, fun z => z.1⟩, ?_⟩
    unfold fX11_tellsTooMuch_58
    refine lp_out ?_
    unfold gX11_tellsTooMuch_58
    rcases (show c = 0 ∨ c = 1 by omega) with rfl | rfl
    · simp (disch := omega) only [e33, e66, bt0, k_iT, k_iF, Bool.false_eq_true, eq_self, Nat.add_zero, k_lt', k_bs, k_T, k_F, k_inb, k_ck, k_nz, ↓kN, kL, k_lt, k_le, k_eq, kn_le, kn_lt, kn_eq, kn_le', kn_lt', kn_eq', nI_clamp, nI_add, k_sub, k_mul, k_div, rd_hi, rd_mi, rd_hl, rd_ml, rd_hr, rd_mr, rd_si2, rd_sl1, rd_sl2, rd_sr1, rd_sr2]
    · simp (disch := omega) only [e33, e66, bt1, k_iT, k_iF, Bool.false_eq_true, eq_self, Nat.add_zero, k_lt', k_bs, k_T, k_F, k_inb, k_ck, k_nz, ↓kN, kL, k_lt, k_le, k_eq, kn_le, kn_lt, kn_eq, kn_le', kn_lt', kn_eq', nI_clamp, nI_add, k_sub, k_mul, k_div, rd_hi, rd_mi, rd_hl, rd_ml, rd_hr, rd_mr, rd_si2, rd_sl1, rd_sl2, rd_sr1, rd_sr2]
  | succ j ih =>
    intro i c hi hc
    have hv := (r_has hs hf h0 hd (k := i) (by omega)).2 r hR
    obtain ⟨al, t4⟩ := r_all hs hf (k := i) (by omega)
    have rb := hs.2.1 f hf d h0 hd r hR i (by omega)
    have d26 := dem_le (t := P 13 (16 * f + i))
    have dp := dem_pos (t := P 13 (16 * f + i))
    have e70 := ((hs.2.2.1.2.2.2.2.2 f hf).2.2.1 i (by have := wf.2.1; omega) t4).2
    have step : ∃ c1, c1 ≤ 1 ∧ (c1 = 0 ↔ c = 0 ∧ (fl = 1 ∨ ei (P 13 (16 * f + i)) (r i) (x i) = r i)) ∧ gX11_tellsTooMuch_58 (nI f) (nI d) (nI fl) (nI c) (nI i) N = some (.inl (nI f, nI d, nI fl, nI c1, nI (i + 1)), N) := by
      by_cases c0 : c = 0
      · rcases (show fl = 0 ∨ fl = 1 by omega) with rfl | rfl
        · obtain ⟨x1, x2⟩ := hx rfl i (by omega)
          have jr := (jn_row (M := N) (t := P 13 (16 * f + i)) (by omega) rb x1).2
          rw [kL] at jr
          have eb := (tg_row (t := P 13 (16 * f + i)) (by omega) rb x1).2.2.1
          by_cases eq : ei (P 13 (16 * f + i)) (r i) (x i) = r i
          · refine ⟨0, by omega, ⟨fun _ => ⟨c0, .inr eq⟩, fun _ => rfl⟩, ?_⟩
            unfold gX11_tellsTooMuch_58 fX11_tellsTooMuch_125 fX11_tellsTooMuch_139
            simp (disch := omega) only [e33, e66, hv, c0, x2, e70, jr, eq, k_iT, k_iF, Bool.false_eq_true, eq_self, Nat.add_zero, k_lt', k_bs, k_T, k_F, k_inb, k_ck, k_nz, ↓kN, kL, k_lt, k_le, k_eq, kn_le, kn_lt, kn_eq, kn_le', kn_lt', kn_eq', nI_clamp, nI_add, k_sub, k_mul, k_div, rd_hi, rd_mi, rd_hl, rd_ml, rd_hr, rd_mr, rd_si2, rd_sl1, rd_sl2, rd_sr1, rd_sr2]
          · refine ⟨1, by omega, ⟨fun z => by omega, fun z => ?_⟩, ?_⟩
            · rcases z.2 with z | z
              · omega
              · exact absurd z eq
            unfold gX11_tellsTooMuch_58 fX11_tellsTooMuch_125 fX11_tellsTooMuch_134 fX11_tellsTooMuch_139
            simp (disch := omega) only [e33, e66, hv, c0, x2, e70, jr, eq, k_iT, k_iF, Bool.false_eq_true, eq_self, Nat.add_zero, k_lt', k_bs, k_T, k_F, k_inb, k_ck, k_nz, ↓kN, kL, k_lt, k_le, k_eq, kn_le, kn_lt, kn_eq, kn_le', kn_lt', kn_eq', nI_clamp, nI_add, k_sub, k_mul, k_div, rd_hi, rd_mi, rd_hl, rd_ml, rd_hr, rd_mr, rd_si2, rd_sl1, rd_sl2, rd_sr1, rd_sr2]
        · have jr := (jn_row (M := N) (t := P 13 (16 * f + i)) (b := dem (P 13 (16 * f + i)) - 1) (by omega) rb (by omega)).2
          rw [kL, ei_all (by omega) rb] at jr
          refine ⟨0, by omega, ⟨fun _ => ⟨c0, .inl rfl⟩, fun _ => rfl⟩, ?_⟩
          unfold gX11_tellsTooMuch_58 fX11_tellsTooMuch_125 fX11_tellsTooMuch_139
          simp (disch := omega) only [e33, e66, hv, c0, al, e70, jr, k_iT, k_iF, Bool.false_eq_true, eq_self, Nat.add_zero, k_lt', k_bs, k_T, k_F, k_inb, k_ck, k_nz, ↓kN, kL, k_lt, k_le, k_eq, kn_le, kn_lt, kn_eq, kn_le', kn_lt', kn_eq', nI_clamp, nI_add, k_sub, k_mul, k_div, rd_hi, rd_mi, rd_hl, rd_ml, rd_hr, rd_mr, rd_si2, rd_sl1, rd_sl2, rd_sr1, rd_sr2]
      · refine ⟨1, by omega, ⟨fun z => by omega, fun z => absurd z.1 c0⟩, ?_⟩
        unfold gX11_tellsTooMuch_58 fX11_tellsTooMuch_134 fX11_tellsTooMuch_139
        simp (disch := omega) only [e33, e66, hv, k_iT, k_iF, Bool.false_eq_true, eq_self, Nat.add_zero, k_lt', k_bs, k_T, k_F, k_inb, k_ck, k_nz, ↓kN, kL, k_lt, k_le, k_eq, kn_le, kn_lt, kn_eq, kn_le', kn_lt', kn_eq', nI_clamp, nI_add, k_sub, k_mul, k_div, rd_hi, rd_mi, rd_hl, rd_ml, rd_hr, rd_mr, rd_si2, rd_sl1, rd_sl2, rd_sr1, rd_sr2]
    obtain ⟨c1, hc1, ic1, E1⟩ := step
    obtain ⟨c2, hc2, ic2, E2⟩ := ih (i + 1) c1 (by omega) hc1
    refine ⟨c2, hc2, ?_, ?_⟩
    · rw [ic2, ic1]
      refine ⟨fun z => ⟨z.1.1, ?_⟩, fun z => ⟨⟨z.1, ?_⟩, ?_⟩⟩
      · rcases z.1.2 with y | y
        · exact .inl y
        · rcases z.2 with v | v
          · exact .inl v
          · refine .inr (fun m h1 h2 => ?_)
            by_cases e : m = i
            · rw [e]; exact y
            · exact v m (by omega) h2
      · rcases z.2 with v | v
        · exact .inl v
        · exact .inr (v i (Nat.le_refl _) (by omega))
      · rcases z.2 with v | v
        · exact .inl v
        · exact .inr (fun m h1 h2 => v m (by omega) h2)
    · unfold fX11_tellsTooMuch_58 at E2 ⊢
      exact Eq.trans (lp_go E1) E2
theorem r_tm (hs : rT b h P F ND R M N) (hf : f < F) (h0 : 0 < d) (hd : d < dem (P 11 f)) : ∃ N' v, fX11_tellsTooMuch (nI f) (nI d) N = some (nI v, N') ∧ v ≤ 1 ∧ (v = 0 ↔ ¬ tm P R f d) ∧ rT b h P F ND R M N' := by
  have hF := hs.1.2.1
  have hh := hs.2.2.1.2.1
  have hdm := dem_le (t := P 11 f)
  have wf := hs.1.2.2.2 f hf
  have e47 := hs.2.2.2.1
  have hs1 := rT_si (p := 33) (v := nI (12 * h + f)) hs (by omega)
  have a1 := rT_aS hs1 hf (by simp (disch := omega) only [rd_hi, rd_mi, rd_hl, rd_ml, rd_hr, rd_mr, rd_si2, rd_sl1, rd_sl2, rd_sr1, rd_sr2])
  have e68 := (a1.2.2.2.1.2.2.2.2.2 f hf).2.1.2.2.2
  obtain ⟨N5, fl, E5, hfl, F5, hn, hsm⟩ := r_asks a1 h0 hd
  have a5 := aS_F a1 F5
  have e5_47 : N5.1 62 47 = nI h := (F5.2 62 47 (by unfold aC; omega)).trans (by simp (disch := omega) only [rd_hi, rd_mi, rd_hl, rd_ml, rd_hr, rd_mr, rd_si2, rd_sl1, rd_sl2, rd_sr1, rd_sr2]; exact e47)
  have s5 : rT b h P F ND R M N5 := ⟨a5.1, a5.2.1, a5.2.2.2.1, e5_47, a5.2.2.2.2.2⟩
  have rr := a5.2.2.2.2.2 f hf d h0 hd
  have bok := bE_ok hs.1 hs.2.1 hf h0 hd
  cases hR : R f d with
  | none =>
    have e91 := rr.1 hR
    rcases (show fl = 0 ∨ fl = 1 by omega) with rfl | rfl
    · refine ⟨N5, 1, ?_, by omega, ⟨fun z => by omega, fun z => ?_⟩, s5⟩
      · unfold fX11_tellsTooMuch
        simp (disch := omega) only [e47, e68, E5, e91, k_iT, k_iF, Bool.false_eq_true, eq_self, Nat.add_zero, k_lt', k_bs, k_T, k_F, k_inb, k_ck, k_nz, ↓kN, kL, k_lt, k_le, k_eq, kn_le, kn_lt, kn_eq, kn_le', kn_lt', kn_eq', nI_clamp, nI_add, k_sub, k_mul, k_div, rd_hi, rd_mi, rd_hl, rd_ml, rd_hr, rd_mr, rd_si2, rd_sl1, rd_sl2, rd_sr1, rd_sr2]
      · exfalso
        cases hB : bE P R f d with
        | none => have := hn hB; omega
        | some x => exact z ⟨x, hB, .inl hR⟩
    · refine ⟨N5, 0, ?_, by omega, ⟨fun _ z => ?_, fun _ => rfl⟩, s5⟩
      · unfold fX11_tellsTooMuch
        simp (disch := omega) only [e47, e68, E5, e91, k_iT, k_iF, Bool.false_eq_true, eq_self, Nat.add_zero, k_lt', k_bs, k_T, k_F, k_inb, k_ck, k_nz, ↓kN, kL, k_lt, k_le, k_eq, kn_le, kn_lt, kn_eq, kn_le', kn_lt', kn_eq', nI_clamp, nI_add, k_sub, k_mul, k_div, rd_hi, rd_mi, rd_hl, rd_ml, rd_hr, rd_mr, rd_si2, rd_sl1, rd_sl2, rd_sr1, rd_sr2]
      · obtain ⟨x, hx, _⟩ := z
        have := (hsm x hx).1
        omega
  | some r =>
    have e91 := (rr.2 r hR).1
    have go : ∀ x : Nat → Nat, (fl = 0 → ∀ k, k < P 9 f → x k < dem (P 13 (16 * f + k)) ∧ N5.1 88 k = nI (x k)) → (v' : Prop) → (v' ↔ (fl = 1 ∨ ∀ m, 0 ≤ m → m < P 9 f → ei (P 13 (16 * f + m)) (r m) (x m) = r m)) → ∃ v, fX11_tellsTooMuch (nI f) (nI d) N = some (nI v, N5) ∧ v ≤ 1 ∧ (v = 0 ↔ v') := by
      intro x hx v' hv'
      obtain ⟨v, v1, v2, v3⟩ := r_58 s5 hf a5.2.2.2.2.1 h0 hd hR hfl hx (P 9 f) 0 0 (by omega) (by omega)
      refine ⟨v, ?_, v1, ?_⟩
      · unfold fX11_tellsTooMuch
        simp (disch := omega) only [e47, e68, E5, e91, k_iT, k_iF, Bool.false_eq_true, eq_self, Nat.add_zero, k_lt', k_bs, k_T, k_F, k_inb, k_ck, k_nz, ↓kN, kL, k_lt, k_le, k_eq, kn_le, kn_lt, kn_eq, kn_le', kn_lt', kn_eq', nI_clamp, nI_add, k_sub, k_mul, k_div, rd_hi, rd_mi, rd_hl, rd_ml, rd_hr, rd_mr, rd_si2, rd_sl1, rd_sl2, rd_sr1, rd_sr2]
        exact v3
      · rw [v2, hv']
        exact ⟨fun z => z.2, fun z => ⟨rfl, z⟩⟩
    cases hB : bE P R f d with
    | none =>
      have f1 := hn hB
      obtain ⟨v, E, v1, v2⟩ := go (fun _ => 0) (fun z => by omega) (¬ tm P R f d) ⟨fun _ => .inl f1, fun _ z => by
        obtain ⟨x, hx, _⟩ := z
        rw [hB] at hx; cases hx⟩
      exact ⟨N5, v, E, v1, v2, s5⟩
    | some x =>
      obtain ⟨f0, ex⟩ := hsm x hB
      obtain ⟨v, E, v1, v2⟩ := go x (fun _ k hk => ⟨bok x hB k hk, ex k (by have := wf.2.1; omega)⟩) (¬ tm P R f d) (by
        refine ⟨fun z => .inr (fun m _ hm => ?_), fun z y => ?_⟩
        · exact Classical.byContradiction fun y => z ⟨x, hB, .inr ⟨r, hR, m, hm, y⟩⟩
        · obtain ⟨x', hx', y⟩ := y
          rw [hB] at hx'; cases hx'
          rcases y with y | ⟨r', hr', m, hm, y⟩
          · rw [hR] at y; cases y
          · rw [hR] at hr'; cases hr'
            rcases z with z | z
            · omega
            · exact y (z m (by omega) hm))
      exact ⟨N5, v, E, v1, v2, s5⟩
/-- what the check answers -/
noncomputable def ck1 (P : Nat → Nat → Nat) (R : Nat → Nat → Option (Nat → Nat)) (f : Nat) : Nat → Nat → Option Nat
  | 0, _ => none
  | n + 1, d => @ite _ (tm P R f d) (Classical.propDecidable _) (some (32 * f + d)) (ck1 P R f n (d + 1))
noncomputable def ckF (P : Nat → Nat → Nat) (R : Nat → Nat → Option (Nat → Nat)) : Nat → Nat → Option Nat
  | 0, _ => none
  | n + 1, f => match ck1 P R f (dem (P 11 f) - 1) 1 with
    | some v => some v
    | none => ckF P R n (f + 1)
def ckV : Option Nat → Int32
  | none => -1
  | some v => nI v
theorem ck1_T (z : tm P R f d) : ck1 P R f (n + 1) d = some (32 * f + d) := by
  rw [ck1, if_pos z]
theorem ck1_F (z : ¬ tm P R f d) : ck1 P R f (n + 1) d = ck1 P R f n (d + 1) := by
  rw [ck1, if_neg z]
theorem c_37 (hf : f < F) : ∀ n d M, d + n = dem (P 11 f) → 0 < d → cT b h P F ND R N M → M.1 5 2 = nI f → ∃ M', cT b h P F ND R N M' ∧ ((ck1 P R f n d = none ∧ fX5_firstTooMuch_36 (nI f) (nI (dem (P 11 f))) (nI d) M = some (.inl (nI (f + 1)), M')) ∨ ∃ v, ck1 P R f n d = some v ∧ fX5_firstTooMuch_36 (nI f) (nI (dem (P 11 f))) (nI d) M = some (.inr (nI v), M')) := by
  intro n
  induction n with
  | zero =>
    intro d M hd h0 hs e6
    have hF := hs.1.2.1
    have hdm := dem_le (t := P 11 f)
    refine ⟨M, hs, .inl ⟨rfl, ?_⟩⟩
    unfold fX5_firstTooMuch_36
    refine lp_out ?_
    unfold gX5_firstTooMuch_36
    simp (disch := omega) only [k_iT, k_iF, Bool.false_eq_true, eq_self, Nat.add_zero, k_lt', k_bs, k_T, k_F, k_inb, k_ck, k_nz, ↓kN, kL, k_lt, k_le, k_eq, kn_le, kn_lt, kn_eq, kn_le', kn_lt', kn_eq', nI_clamp, nI_add, k_sub, k_mul, k_div, rd_hi, rd_mi, rd_hl, rd_ml, rd_hr, rd_mr, rd_si2, rd_sl1, rd_sl2, rd_sr1, rd_sr2]
  | succ n ih =>
    intro d M hd h0 hs e6
    have hF := hs.1.2.1
    have hdm := dem_le (t := P 11 f)
    have hw := cT_wS hs hf e6
    obtain ⟨M1, v, E1, E2, v1, v2, s2⟩ := c_tm hw h0 (by omega)
    have e5 := (hs.2.2.1.2.2.2.2.2 f hf).1.2.2.2
    have e6' := s2.2.2.2.2.2.1
    by_cases z : tm P R f d
    · have v0 : v = 1 := by
        have : v ≠ 0 := fun y => (v2.1 y) z
        omega
      subst v0
      refine ⟨M1, wS_cT s2, .inr ⟨_, ck1_T z, ?_⟩⟩
      unfold fX5_firstTooMuch_36
      refine lp_out ?_
      unfold gX5_firstTooMuch_36
      simp (disch := omega) only [k_F, k_iF, k_iT, ↓kN, kL, k_lt, k_le, k_eq, kn_le, kn_lt, kn_eq, kn_le', kn_lt', kn_eq', nI_clamp, nI_add, k_sub, k_mul, k_div, rd_hi, rd_mi, rd_hl, rd_ml, rd_hr, rd_mr, rd_si2, rd_sl1, rd_sl2, rd_sr1, rd_sr2]
      rw [w_get hw]
      simp (disch := omega) only [e6, e5, E1, E2, e6', k_iT, k_iF, Bool.false_eq_true, eq_self, Nat.add_zero, k_lt', k_bs, k_T, k_F, k_inb, k_ck, k_nz, ↓kN, kL, k_lt, k_le, k_eq, kn_le, kn_lt, kn_eq, kn_le', kn_lt', kn_eq', nI_clamp, nI_add, k_sub, k_mul, k_div, rd_hi, rd_mi, rd_hl, rd_ml, rd_hr, rd_mr, rd_si2, rd_sl1, rd_sl2, rd_sr1, rd_sr2]
    · have v0 : v = 0 := v2.2 z
      subst v0
      obtain ⟨M', s', k'⟩ := ih (d + 1) M1 (by omega) (by omega) (wS_cT s2) e6'
      have G : fX5_firstTooMuch_36 (nI f) (nI (dem (P 11 f))) (nI d) M = fX5_firstTooMuch_36 (nI f) (nI (dem (P 11 f))) (nI (d + 1)) M1 := by
        unfold fX5_firstTooMuch_36
        refine lp_go ?_
        unfold gX5_firstTooMuch_36
        simp (disch := omega) only [k_F, k_iF, k_iT, ↓kN, kL, k_lt, k_le, k_eq, kn_le, kn_lt, kn_eq, kn_le', kn_lt', kn_eq', nI_clamp, nI_add, k_sub, k_mul, k_div, rd_hi, rd_mi, rd_hl, rd_ml, rd_hr, rd_mr, rd_si2, rd_sl1, rd_sl2, rd_sr1, rd_sr2]
        rw [w_get hw]
        simp (disch := omega) only [e6, e5, E1, E2, k_iT, k_iF, Bool.false_eq_true, eq_self, Nat.add_zero, k_lt', k_bs, k_T, k_F, k_inb, k_ck, k_nz, ↓kN, kL, k_lt, k_le, k_eq, kn_le, kn_lt, kn_eq, kn_le', kn_lt', kn_eq', nI_clamp, nI_add, k_sub, k_mul, k_div, rd_hi, rd_mi, rd_hl, rd_ml, rd_hr, rd_mr, rd_si2, rd_sl1, rd_sl2, rd_sr1, rd_sr2]
      rw [ck1_F z, G]
      exact ⟨M', s', k'⟩
theorem c_5 : ∀ n f M, f + n = F → cT b h P F ND R N M → ∃ M', cT b h P F ND R N M' ∧ fX5_firstTooMuch_2 (nI f) M = some (ckV (ckF P R n f), M') := by
  intro n
  induction n with
  | zero =>
    intro f M hf hs
    have hF := hs.1.2.1
    have e0 := hs.2.2.1.2.2.1
    have hb2 : (decide (b = 9) || decide (b = 24)) = true := by simpa using hs.2.2.1.1
    have gt : ∀ {γ : Type} (G : Nat → Option γ), mv_getp (M.2.2 5 1) G = G b := by
      intro γ G
      rw [hs.2.2.2.1]
      show mv_chk (decide (b = 9) || decide (b = 24)) (G b) = G b
      rw [hb2]; rfl
    refine ⟨M, hs, ?_⟩
    unfold fX5_firstTooMuch_2
    refine lp_out ?_
    unfold gX5_firstTooMuch_2
    rw [gt, e0, if_pos (by rw [k_le (by omega) (by omega)]; omega)]
    rfl
  | succ n ih =>
    intro f M hf hs
    have hF := hs.1.2.1
    have e0 := hs.2.2.1.2.2.1
    have hb := hs.2.2.1.1
    have hb2 : (decide (b = 9) || decide (b = 24)) = true := by simpa using hs.2.2.1.1
    have gt : ∀ {γ : Type} (G : Nat → Option γ), mv_getp (M.2.2 5 1) G = G b := by
      intro γ G
      rw [hs.2.2.2.1]
      show mv_chk (decide (b = 9) || decide (b = 24)) (G b) = G b
      rw [hb2]; rfl
    have hsf : cT b h P F ND R N (mv_si M 5 2 (nI f)) := cT_52 hs
    have hw := cT_wS hsf (show f < F by omega) (by simp (disch := omega) only [rd_hi, rd_mi, rd_hl, rd_ml, rd_hr, rd_mr, rd_si2, rd_sl1, rd_sl2, rd_sr1, rd_sr2])
    have e4 := (hs.2.2.1.2.2.2.2.2 f (by omega)).1.2.2.1
    have t4 := (hs.1.2.2.2 f (by omega)).2.2.2.1
    have dm := (cl_dem (t := P 11 f) (M := mv_si M 5 2 (nI f)) (by omega)).1
    have hpos := dem_pos (t := P 11 f)
    obtain ⟨M1, s1, k1⟩ := c_37 (show f < F by omega) (dem (P 11 f) - 1) 1 (mv_si M 5 2 (nI f)) (by omega) (by omega) hsf (by simp (disch := omega) only [rd_hi, rd_mi, rd_hl, rd_ml, rd_hr, rd_mr, rd_si2, rd_sl1, rd_sl2, rd_sr1, rd_sr2])
    have G : gX5_firstTooMuch_2 (nI f) M = fX5_firstTooMuch_36 (nI f) (nI (dem (P 11 f))) (nI 1) (mv_si M 5 2 (nI f)) := by
      unfold gX5_firstTooMuch_2
      rw [gt]
      simp (disch := omega) only [k_F, k_iF, k_iT, e0, ↓kN, kL, k_lt, k_le, k_eq, kn_le, kn_lt, kn_eq, kn_le', kn_lt', kn_eq', nI_clamp, nI_add, k_sub, k_mul, k_div, rd_hi, rd_mi, rd_hl, rd_ml, rd_hr, rd_mr, rd_si2, rd_sl1, rd_sl2, rd_sr1, rd_sr2]
      rw [k_lt', w_get hw]
      simp (disch := omega) only [e4, dm, k_iT, k_iF, Bool.false_eq_true, eq_self, Nat.add_zero, k_lt', k_bs, k_T, k_F, k_inb, k_ck, k_nz, ↓kN, kL, k_lt, k_le, k_eq, kn_le, kn_lt, kn_eq, kn_le', kn_lt', kn_eq', nI_clamp, nI_add, k_sub, k_mul, k_div, rd_hi, rd_mi, rd_hl, rd_ml, rd_hr, rd_mr, rd_si2, rd_sl1, rd_sl2, rd_sr1, rd_sr2]
    rcases k1 with ⟨c1, E1⟩ | ⟨v, c1, E1⟩
    · obtain ⟨M2, s2, E2⟩ := ih (f + 1) M1 (by omega) s1
      refine ⟨M2, s2, ?_⟩
      rw [show ckF P R (n + 1) f = ckF P R n (f + 1) from by rw [ckF, c1]]
      unfold fX5_firstTooMuch_2 at E2 ⊢
      exact Eq.trans (lp_go (G.trans E1)) E2
    · refine ⟨M1, s1, ?_⟩
      rw [show ckF P R (n + 1) f = some v from by rw [ckF, c1]]
      unfold fX5_firstTooMuch_2
      exact lp_out (G.trans E1)
theorem r_42 (hf : f < F) : ∀ n d N, d + n = dem (P 11 f) → 0 < d → rT b h P F ND R M N → ∃ N', rT b h P F ND R M N' ∧ ((ck1 P R f n d = none ∧ fX11_check_42 (nI f) (nI d) N = some (.inl (nI (f + 1)), N')) ∨ ∃ v, ck1 P R f n d = some v ∧ fX11_check_42 (nI f) (nI d) N = some (.inr (nI v), N')) := by
  intro n
  induction n with
  | zero =>
    intro d N hd h0 hs
    have hF := hs.1.2.1
    have hh := hs.2.2.1.2.1
    have hdm := dem_le (t := P 11 f)
    have e47 := hs.2.2.2.1
    have e65 := (hs.2.2.1.2.2.2.2.2 f hf).2.1.2.2.1
    have t4 := (hs.1.2.2.2 f hf).2.2.2.1
    have dm := (cl_dem (t := P 11 f) (M := N) (by omega)).2
    refine ⟨N, hs, .inl ⟨rfl, ?_⟩⟩
    unfold fX11_check_42
    refine lp_out ?_
    unfold gX11_check_42
    simp (disch := omega) only [e47, e65, dm, k_iT, k_iF, Bool.false_eq_true, eq_self, Nat.add_zero, k_lt', k_bs, k_T, k_F, k_inb, k_ck, k_nz, ↓kN, kL, k_lt, k_le, k_eq, kn_le, kn_lt, kn_eq, kn_le', kn_lt', kn_eq', nI_clamp, nI_add, k_sub, k_mul, k_div, rd_hi, rd_mi, rd_hl, rd_ml, rd_hr, rd_mr, rd_si2, rd_sl1, rd_sl2, rd_sr1, rd_sr2]
  | succ n ih =>
    intro d N hd h0 hs
    have hF := hs.1.2.1
    have hh := hs.2.2.1.2.1
    have hdm := dem_le (t := P 11 f)
    have e47 := hs.2.2.2.1
    have e65 := (hs.2.2.1.2.2.2.2.2 f hf).2.1.2.2.1
    have t4 := (hs.1.2.2.2 f hf).2.2.2.1
    have dm := (cl_dem (t := P 11 f) (M := N) (by omega)).2
    obtain ⟨N1, v, E1, v1, v2, s2⟩ := r_tm hs hf h0 (by omega)
    by_cases z : tm P R f d
    · have v0 : v = 1 := by
        have : v ≠ 0 := fun y => (v2.1 y) z
        omega
      subst v0
      refine ⟨N1, s2, .inr ⟨_, ck1_T z, ?_⟩⟩
      unfold fX11_check_42
      refine lp_out ?_
      unfold gX11_check_42
      simp (disch := omega) only [e47, e65, dm, E1, k_iT, k_iF, Bool.false_eq_true, eq_self, Nat.add_zero, k_lt', k_bs, k_T, k_F, k_inb, k_ck, k_nz, ↓kN, kL, k_lt, k_le, k_eq, kn_le, kn_lt, kn_eq, kn_le', kn_lt', kn_eq', nI_clamp, nI_add, k_sub, k_mul, k_div, rd_hi, rd_mi, rd_hl, rd_ml, rd_hr, rd_mr, rd_si2, rd_sl1, rd_sl2, rd_sr1, rd_sr2]
    · have v0 : v = 0 := v2.2 z
      subst v0
      obtain ⟨N', s', k'⟩ := ih (d + 1) N1 (by omega) (by omega) s2
      have G : fX11_check_42 (nI f) (nI d) N = fX11_check_42 (nI f) (nI (d + 1)) N1 := by
        unfold fX11_check_42
        refine lp_go ?_
        unfold gX11_check_42
        simp (disch := omega) only [e47, e65, dm, E1, k_iT, k_iF, Bool.false_eq_true, eq_self, Nat.add_zero, k_lt', k_bs, k_T, k_F, k_inb, k_ck, k_nz, ↓kN, kL, k_lt, k_le, k_eq, kn_le, kn_lt, kn_eq, kn_le', kn_lt', kn_eq', nI_clamp, nI_add, k_sub, k_mul, k_div, rd_hi, rd_mi, rd_hl, rd_ml, rd_hr, rd_mr, rd_si2, rd_sl1, rd_sl2, rd_sr1, rd_sr2]
      rw [ck1_F z, G]
      exact ⟨N', s', k'⟩
theorem r_27 : ∀ n f N, f + n = F → rT b h P F ND R M N → ∃ N', rT b h P F ND R M N' ∧ fX11_check_27 (nI f) N = some (ckV (ckF P R n f), N') := by
  intro n
  induction n with
  | zero =>
    intro f N hf hs
    have hF := hs.1.2.1
    have hh := hs.2.2.1.2.1
    have e47 := hs.2.2.2.1
    have e79 := hs.2.2.1.2.2.2.2.1
    refine ⟨N, hs, ?_⟩
    unfold fX11_check_27
    refine lp_out ?_
    unfold gX11_check_27
    rw [e47, k_inb (by omega) (by omega), k_ck, nI_clamp (by omega), e79, if_pos (by rw [k_le (by omega) (by omega)]; omega)]
    rfl
  | succ n ih =>
    intro f N hf hs
    have hF := hs.1.2.1
    have hh := hs.2.2.1.2.1
    have e47 := hs.2.2.2.1
    have e79 := hs.2.2.1.2.2.2.2.1
    have hpos := dem_pos (t := P 11 f)
    obtain ⟨N1, s1, k1⟩ := r_42 (show f < F by omega) (dem (P 11 f) - 1) 1 N (by omega) (by omega) hs
    have G : gX11_check_27 (nI f) N = fX11_check_42 (nI f) (nI 1) N := by
      unfold gX11_check_27
      simp (disch := omega) only [e47, e79, k_iT, k_iF, Bool.false_eq_true, eq_self, Nat.add_zero, k_lt', k_bs, k_T, k_F, k_inb, k_ck, k_nz, ↓kN, kL, k_lt, k_le, k_eq, kn_le, kn_lt, kn_eq, kn_le', kn_lt', kn_eq', nI_clamp, nI_add, k_sub, k_mul, k_div, rd_hi, rd_mi, rd_hl, rd_ml, rd_hr, rd_mr, rd_si2, rd_sl1, rd_sl2, rd_sr1, rd_sr2]
    rcases k1 with ⟨c1, E1⟩ | ⟨v, c1, E1⟩
    · obtain ⟨N2, s2, E2⟩ := ih (f + 1) N1 (by omega) s1
      refine ⟨N2, s2, ?_⟩
      rw [show ckF P R (n + 1) f = ckF P R n (f + 1) from by rw [ckF, c1]]
      unfold fX11_check_27 at E2 ⊢
      exact Eq.trans (lp_go (G.trans E1)) E2
    · refine ⟨N1, s1, ?_⟩
      rw [show ckF P R (n + 1) f = some v from by rw [ckF, c1]]
      unfold fX11_check_27
      exact lp_out (G.trans E1)
/-- both sides -/
theorem j_check (hs : cT b h P F ND R N M) (hr : rT b h P F ND R M N) (e46 : N.1 62 46 ≠ 0) : ∃ v M' N', fX5_firstTooMuch M = some (v, M') ∧ fX11_check N = some (v, N') ∧ cT b h P F ND R N M' ∧ rT b h P F ND R M N' := by
  obtain ⟨M', s', E'⟩ := c_5 F 0 M (by omega) hs
  obtain ⟨N', t', F'⟩ := r_27 F 0 (mv_si N 62 0 (nI 0)) (by omega) (rT_si hr (by omega))
  refine ⟨ckV (ckF P R F 0), M', N', ?_, ?_, s', t'⟩
  · unfold fX5_firstTooMuch
    exact E'
  · unfold fX11_check fX11_check_13
    rw [if_neg e46]
    simp (disch := omega) only [k_iT, k_iF, Bool.false_eq_true, eq_self, Nat.add_zero, k_lt', k_bs, k_T, k_F, k_inb, k_ck, k_nz, ↓kN, kL, k_lt, k_le, k_eq, kn_le, kn_lt, kn_eq, kn_le', kn_lt', kn_eq', nI_clamp, nI_add, k_sub, k_mul, k_div, rd_hi, rd_mi, rd_hl, rd_ml, rd_hr, rd_mr, rd_si2, rd_sl1, rd_sl2, rd_sr1, rd_sr2]
    exact F'
end CL
