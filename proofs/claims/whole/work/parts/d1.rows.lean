/-! DEAD, ASKS, STRICT of both sides -/
/-- what a row has -/
def rv (P : Nat → Nat → Nat) (R : Nat → Nat → Option (Nat → Nat)) (q d k : Nat) : Nat := match R q d with
  | none => dem (P 13 (16 * q + k)) - 1
  | some r => r k
theorem bx_l {γ δ : Type} {r : γ} {M : mv_M} {f : γ → mv_M → Option ((δ ⊕ String) × mv_M)} : mv_bindx (some (.inl r, M)) f = f r M := rfl
section DW
variable {b h F ND f q n k d : Nat} {M N : mv_M} {P : Nat → Nat → Nat} {R : Nat → Nat → Option (Nat → Nat)}
theorem rv_ok (hW : WFp P F ND) (hR : rOK P F R) (hq : q < F) (h0 : 0 < d) (hd : d < dem (P 11 q)) (hk : k < P 9 q) : rv P R q d k < dem (P 13 (16 * q + k)) := by
  have dp := dem_pos (t := P 13 (16 * q + k))
  unfold rv
  cases hr : R q d with
  | none => show dem (P 13 (16 * q + k)) - 1 < _; omega
  | some r => exact hR q hq d h0 hd r hr k hk
theorem c_dm (hs : cT b h P F ND R N M) (hq : q < F) (h0 : 0 < d) (hd : d < dem (P 11 q)) (hk : k < P 9 q) : fX5_demandOf (nI q) (nI d) (nI k) M = some (nI (rv P R q d k), M) ∧ M.1 44 ((26 * q + d) * 4 + k) = nI (rv P R q d k) := by
  have hF := hs.1.2.1
  have hd' := dem_le (t := P 11 q)
  have hp := (hs.1.2.2.2 q hq).1
  have e : q * 26 + d = 26 * q + d := by omega
  have e44 : M.1 44 ((26 * q + d) * 4 + k) = nI (rv P R q d k) := by
    obtain ⟨r1, r2⟩ := hs.2.2.2.2 q hq d h0 hd
    unfold rv
    cases hr : R q d with
    | none => exact (r1 hr).2 k hk
    | some r => exact (r2 r hr).2 k hk
  refine ⟨?_, e44⟩
  unfold fX5_demandOf fX5_rowOf
  simp (disch := omega) only [e, e44, k_iT, k_iF, Bool.false_eq_true, eq_self, Nat.add_zero, k_lt', k_bs, k_T, k_F, k_inb, k_ck, k_nz, ↓kN, kL, k_lt, k_le, k_eq, kn_le, kn_lt, kn_eq, kn_le', kn_lt', kn_eq', nI_clamp, nI_add, k_sub, k_mul, k_div, rd_hi, rd_mi, rd_hl, rd_ml, rd_hr, rd_mr, rd_si2, rd_sl1, rd_sl2, rd_sr1, rd_sr2]
theorem c_dd (hs : cT b h P F ND R N M) (hq : q < F) (h0 : 0 < d) (hd : d < dem (P 11 q)) : ∃ v, v ≤ 1 ∧ fX5_isDead (nI q) (nI d) M = some (nI v, M) ∧ (v = 1 ↔ R q d = none) := by
  have hF := hs.1.2.1
  have hd' := dem_le (t := P 11 q)
  have e : q * 26 + d = 26 * q + d := by omega
  obtain ⟨r1, r2⟩ := hs.2.2.2.2 q hq d h0 hd
  cases hr : R q d with
  | none =>
    have a1 := (r1 hr).1
    refine ⟨1, by omega, ?_, ⟨fun _ => rfl, fun _ => rfl⟩⟩
    unfold fX5_isDead fX5_rowOf
    simp (disch := omega) only [e, a1, k_iT, k_iF, Bool.false_eq_true, eq_self, Nat.add_zero, k_lt', k_bs, k_T, k_F, k_inb, k_ck, k_nz, ↓kN, kL, k_lt, k_le, k_eq, kn_le, kn_lt, kn_eq, kn_le', kn_lt', kn_eq', nI_clamp, nI_add, k_sub, k_mul, k_div, rd_hi, rd_mi, rd_hl, rd_ml, rd_hr, rd_mr, rd_si2, rd_sl1, rd_sl2, rd_sr1, rd_sr2]
  | some r =>
    have a1 := (r2 r hr).1
    refine ⟨0, by omega, ?_, ⟨fun z => by omega, fun z => by cases z⟩⟩
    unfold fX5_isDead fX5_rowOf
    simp (disch := omega) only [e, a1, k_iT, k_iF, Bool.false_eq_true, eq_self, Nat.add_zero, k_lt', k_bs, k_T, k_F, k_inb, k_ck, k_nz, ↓kN, kL, k_lt, k_le, k_eq, kn_le, kn_lt, kn_eq, kn_le', kn_lt', kn_eq', nI_clamp, nI_add, k_sub, k_mul, k_div, rd_hi, rd_mi, rd_hl, rd_ml, rd_hr, rd_mr, rd_si2, rd_sl1, rd_sl2, rd_sr1, rd_sr2]
theorem r_hs (hs : rT b h P F ND R M N) (hq : q < F) (h0 : 0 < d) (hd : d < dem (P 11 q)) (hk : k < P 9 q) : fX11_has (nI q) (nI d) (nI k) N = some (nI (rv P R q d k), N) := by
  obtain ⟨r1, r2⟩ := r_has hs hq h0 hd hk
  unfold rv
  cases hr : R q d with
  | none => exact r1 hr
  | some r => exact r2 r hr
theorem j_dead (hs : cT b h P F ND R N M) (hr : rT b h P F ND R M N) (e07 : M.2.2 0 7 = some b) (e50 : M.1 5 0 = nI 1) (e45 : N.1 62 45 ≠ 0) (e46 : N.1 62 46 = nI 1) (a a1 : Int32) : (∃ v, v ≤ 1 ∧ fX10_dead a a1 M = some (.inl (nI v), M) ∧ fX11_dead a a1 N = some (nI v, mv_si N 62 0 (nI 0))) ∨ (fX10_dead a a1 M = some (.inr "java/lang/IndexOutOfBoundsException", M) ∧ fX11_dead a a1 N = some (nI 0, mv_si N 62 0 (nI 2))) := by
  have hF := hs.1.2.1
  have rq : fX10_requireRows M = some (.inl (), M) := by
    unfold fX10_requireRows
    simp (disch := omega) only [e50, k_iT, k_iF, Bool.false_eq_true, eq_self, Nat.add_zero, k_lt', k_bs, k_T, k_F, k_inb, k_ck, k_nz, ↓kN, kL, k_lt, k_le, k_eq, kn_le, kn_lt, kn_eq, kn_le', kn_lt', kn_eq', nI_clamp, nI_add, k_sub, k_mul, k_div, rd_hi, rd_mi, rd_hl, rd_ml, rd_hr, rd_mr, rd_si2, rd_sl1, rd_sl2, rd_sr1, rd_sr2]
  rcases i_row hs.1 hr.2.2.1 e45 hr.2.2.2.1 e07 a a1 with ⟨q, d, hq, h0, hd, rfl, rfl, f1, f2⟩ | ⟨f1, f2⟩
  · have hdm := dem_le (t := P 11 q)
    obtain ⟨v, v1, v2, v3⟩ := c_dd hs hq h0 hd
    have e91 : N.1 91 (26 * q + d) = nI v := by
      obtain ⟨r1, r2⟩ := hr.2.2.2.2 q hq d h0 hd
      cases hR : R q d with
      | none => rw [v3.2 hR]; exact r1 hR
      | some r =>
        have : v ≠ 1 := fun z => by
          have := v3.1 z
          rw [hR] at this; cases this
        rw [show v = 0 by omega]; exact (r2 r hR).1
    refine .inl ⟨v, v1, ?_, ?_⟩
    · unfold fX10_dead
      rw [rq]
      show mv_bindx (fX10_requireRow (nI q) (nI d) M) _ = _
      rw [f2]
      rw [bx_l, v2, k_bs]
      rcases (show v = 0 ∨ v = 1 by omega) with rfl | rfl
      · rw [bt0]; rfl
      · rw [bt1]; rfl
    · unfold fX11_dead fX11_dead_26
      rcases (show v = 0 ∨ v = 1 by omega) with rfl | rfl
      · simp (disch := omega) only [e46, f1, e91, k_iT, k_iF, Bool.false_eq_true, eq_self, Nat.add_zero, k_lt', k_bs, k_T, k_F, k_inb, k_ck, k_nz, ↓kN, kL, k_lt, k_le, k_eq, kn_le, kn_lt, kn_eq, kn_le', kn_lt', kn_eq', nI_clamp, nI_add, k_sub, k_mul, k_div, rd_hi, rd_mi, rd_hl, rd_ml, rd_hr, rd_mr, rd_si2, rd_sl1, rd_sl2, rd_sr1, rd_sr2]
      · simp (disch := omega) only [e46, f1, e91, k_iT, k_iF, Bool.false_eq_true, eq_self, Nat.add_zero, k_lt', k_bs, k_T, k_F, k_inb, k_ck, k_nz, ↓kN, kL, k_lt, k_le, k_eq, kn_le, kn_lt, kn_eq, kn_le', kn_lt', kn_eq', nI_clamp, nI_add, k_sub, k_mul, k_div, rd_hi, rd_mi, rd_hl, rd_ml, rd_hr, rd_mr, rd_si2, rd_sl1, rd_sl2, rd_sr1, rd_sr2]
  · refine .inr ⟨?_, ?_⟩
    · unfold fX10_dead
      rw [rq]
      show mv_bindx (fX10_requireRow a a1 M) _ = _
      rw [f2]
      rfl
    · unfold fX11_dead fX11_dead_26
      simp (disch := omega) only [e46, f1, k_iT, k_iF, Bool.false_eq_true, eq_self, Nat.add_zero, k_lt', k_bs, k_T, k_F, k_inb, k_ck, k_nz, ↓kN, kL, k_lt, k_le, k_eq, kn_le, kn_lt, kn_eq, kn_le', kn_lt', kn_eq', nI_clamp, nI_add, k_sub, k_mul, k_div, rd_hi, rd_mi, rd_hl, rd_ml, rd_hr, rd_mr, rd_si2, rd_sl1, rd_sl2, rd_sr1, rd_sr2]
theorem j_asks (hs : cT b h P F ND R N M) (hr : rT b h P F ND R M N) (e07 : M.2.2 0 7 = some b) (e50 : M.1 5 0 = nI 1) (e45 : N.1 62 45 ≠ 0) (e46 : N.1 62 46 = nI 1) (a a1 a2 : Int32) : (∃ v, v < 26 ∧ fX10_asks a a1 a2 M = some (.inl (nI v), M) ∧ fX11_asks_ a a1 a2 N = some (nI v, mv_si N 62 0 (nI 0))) ∨ (fX10_asks a a1 a2 M = some (.inr "java/lang/IndexOutOfBoundsException", M) ∧ fX11_asks_ a a1 a2 N = some (nI 0, mv_si N 62 0 (nI 2))) := by
  have hF := hs.1.2.1
  have rq : fX10_requireRows M = some (.inl (), M) := by
    unfold fX10_requireRows
    simp (disch := omega) only [e50, k_iT, k_iF, Bool.false_eq_true, eq_self, Nat.add_zero, k_lt', k_bs, k_T, k_F, k_inb, k_ck, k_nz, ↓kN, kL, k_lt, k_le, k_eq, kn_le, kn_lt, kn_eq, kn_le', kn_lt', kn_eq', nI_clamp, nI_add, k_sub, k_mul, k_div, rd_hi, rd_mi, rd_hl, rd_ml, rd_hr, rd_mr, rd_si2, rd_sl1, rd_sl2, rd_sr1, rd_sr2]
  rcases i_row hs.1 hr.2.2.1 e45 hr.2.2.2.1 e07 a a1 with ⟨q, d, hq, h0, hd, rfl, rfl, f1, f2⟩ | ⟨f1, f2⟩
  · rcases i_par hs.1 hr.2.2.1 e45 hr.2.2.2.1 e07 (nI q) a2 with ⟨q', k, hq', hk, eq, rfl, p1, _, p2⟩ | ⟨p1, _, p2⟩
    · rw [k_eq (by omega) (by omega)] at eq
      subst eq
      have E := (c_dm hs hq h0 hd hk).1
      have H := r_hs (rT_si (p := 0) (v := nI 0) hr (by omega)) hq h0 hd hk
      have vb := rv_ok hs.1 hs.2.1 hq h0 hd hk
      have d26 := dem_le (t := P 13 (16 * q + k))
      refine .inl ⟨rv P R q d k, by omega, ?_, ?_⟩
      · unfold fX10_asks
        rw [rq]
        show mv_bindx (fX10_requireRow (nI q) (nI d) M) _ = _
        rw [f2]
        show mv_bindx (fX10_requireParam (nI q) (nI k) M) _ = _
        rw [p2]
        rw [bx_l, E, k_bs]
      · unfold fX11_asks_ fX11_asks__35
        simp (disch := omega) only [e46, f1, p1, H, k_iT, k_iF, Bool.false_eq_true, eq_self, Nat.add_zero, k_lt', k_bs, k_T, k_F, k_inb, k_ck, k_nz, ↓kN, kL, k_lt, k_le, k_eq, kn_le, kn_lt, kn_eq, kn_le', kn_lt', kn_eq', nI_clamp, nI_add, k_sub, k_mul, k_div, rd_hi, rd_mi, rd_hl, rd_ml, rd_hr, rd_mr, rd_si2, rd_sl1, rd_sl2, rd_sr1, rd_sr2]
    · refine .inr ⟨?_, ?_⟩
      · unfold fX10_asks
        rw [rq]
        show mv_bindx (fX10_requireRow (nI q) (nI d) M) _ = _
        rw [f2]
        show mv_bindx (fX10_requireParam (nI q) a2 M) _ = _
        rw [p2]
        rfl
      · unfold fX11_asks_ fX11_asks__30 fX11_asks__35
        simp (disch := omega) only [e46, f1, p1, k_iT, k_iF, Bool.false_eq_true, eq_self, Nat.add_zero, k_lt', k_bs, k_T, k_F, k_inb, k_ck, k_nz, ↓kN, kL, k_lt, k_le, k_eq, kn_le, kn_lt, kn_eq, kn_le', kn_lt', kn_eq', nI_clamp, nI_add, k_sub, k_mul, k_div, rd_hi, rd_mi, rd_hl, rd_ml, rd_hr, rd_mr, rd_si2, rd_sl1, rd_sl2, rd_sr1, rd_sr2]
  · refine .inr ⟨?_, ?_⟩
    · unfold fX10_asks
      rw [rq]
      show mv_bindx (fX10_requireRow a a1 M) _ = _
      rw [f2]
      rfl
    · unfold fX11_asks_ fX11_asks__30 fX11_asks__35
      simp (disch := omega) only [e46, f1, k_iT, k_iF, Bool.false_eq_true, eq_self, Nat.add_zero, k_lt', k_bs, k_T, k_F, k_inb, k_ck, k_nz, ↓kN, kL, k_lt, k_le, k_eq, kn_le, kn_lt, kn_eq, kn_le', kn_lt', kn_eq', nI_clamp, nI_add, k_sub, k_mul, k_div, rd_hi, rd_mi, rd_hl, rd_ml, rd_hr, rd_mr, rd_si2, rd_sl1, rd_sl2, rd_sr1, rd_sr2]
theorem j_strict (hs : cT b h P F ND R N M) (hr : rT b h P F ND R M N) (e07 : M.2.2 0 7 = some b) (e50 : M.1 5 0 = nI 1) (e45 : N.1 62 45 ≠ 0) (e46 : N.1 62 46 = nI 1) (a a1 : Int32) : (∃ v, v ≤ 1 ∧ fX10_strict a a1 M = some (.inl (nI v), M) ∧ fX11_strict a a1 N = some (nI v, mv_si N 62 0 (nI 0))) ∨ (fX10_strict a a1 M = some (.inr "java/lang/IndexOutOfBoundsException", M) ∧ fX11_strict a a1 N = some (nI 0, mv_si N 62 0 (nI 2))) := by
  have hF := hs.1.2.1
  have rq : fX10_requireRows M = some (.inl (), M) := by
    unfold fX10_requireRows
    simp (disch := omega) only [e50, k_iT, k_iF, Bool.false_eq_true, eq_self, Nat.add_zero, k_lt', k_bs, k_T, k_F, k_inb, k_ck, k_nz, ↓kN, kL, k_lt, k_le, k_eq, kn_le, kn_lt, kn_eq, kn_le', kn_lt', kn_eq', nI_clamp, nI_add, k_sub, k_mul, k_div, rd_hi, rd_mi, rd_hl, rd_ml, rd_hr, rd_mr, rd_si2, rd_sl1, rd_sl2, rd_sr1, rd_sr2]
  rcases i_par hs.1 hr.2.2.1 e45 hr.2.2.2.1 e07 a a1 with ⟨q, k, hq, hk, rfl, rfl, p1, _, p2⟩ | ⟨p1, _, p2⟩
  · have t4 := (hs.1.2.2.2 q hq).2.2.2.1
    have d2 : 1 < dem (P 11 q) := by
      unfold dem
      repeat' split
      all_goals omega
    have E := (c_dm hs hq (show 0 < 1 by omega) d2 hk).1
    have H := r_hs (rT_si (p := 0) (v := nI 0) hr (by omega)) hq (show 0 < 1 by omega) d2 hk
    have vb := rv_ok hs.1 hs.2.1 hq (show 0 < 1 by omega) d2 hk
    have d26 := dem_le (t := P 13 (16 * q + k))
    have A : ∀ v : Nat, v ≤ 1 → (v = 0 ↔ rv P R q 1 k = 0) → (fX10_strict (nI q) (nI k) M = some (.inl (nI v), M) ∧ fX11_strict (nI q) (nI k) N = some (nI v, mv_si N 62 0 (nI 0))) := by
      intro v v1 v2
      refine ⟨?_, ?_⟩
      · unfold fX10_strict
        rw [rq]
        show mv_bindx (fX10_requireParam (nI q) (nI k) M) _ = _
        rw [p2]
        rw [bx_l, show (1 : Int32) = nI 1 from rfl, E, k_bs]
        rcases (show v = 0 ∨ v = 1 by omega) with rfl | rfl
        · have z := v2.1 rfl
          simp (disch := omega) only [z, k_iT, k_iF, Bool.false_eq_true, eq_self, Nat.add_zero, k_lt', k_bs, k_T, k_F, k_inb, k_ck, k_nz, ↓kN, kL, k_lt, k_le, k_eq, kn_le, kn_lt, kn_eq, kn_le', kn_lt', kn_eq', nI_clamp, nI_add, k_sub, k_mul, k_div, rd_hi, rd_mi, rd_hl, rd_ml, rd_hr, rd_mr, rd_si2, rd_sl1, rd_sl2, rd_sr1, rd_sr2]
        · have z : ¬ rv P R q 1 k = 0 := fun z => by have := v2.2 z; omega
          simp (disch := omega) only [k_iT, k_iF, Bool.false_eq_true, eq_self, Nat.add_zero, k_lt', k_bs, k_T, k_F, k_inb, k_ck, k_nz, ↓kN, kL, k_lt, k_le, k_eq, kn_le, kn_lt, kn_eq, kn_le', kn_lt', kn_eq', nI_clamp, nI_add, k_sub, k_mul, k_div, rd_hi, rd_mi, rd_hl, rd_ml, rd_hr, rd_mr, rd_si2, rd_sl1, rd_sl2, rd_sr1, rd_sr2]
      · unfold fX11_strict fX11_strict_26
        rcases (show v = 0 ∨ v = 1 by omega) with rfl | rfl
        · have z := v2.1 rfl
          simp (disch := omega) only [e46, p1, H, z, k_iT, k_iF, Bool.false_eq_true, eq_self, Nat.add_zero, k_lt', k_bs, k_T, k_F, k_inb, k_ck, k_nz, ↓kN, kL, k_lt, k_le, k_eq, kn_le, kn_lt, kn_eq, kn_le', kn_lt', kn_eq', nI_clamp, nI_add, k_sub, k_mul, k_div, rd_hi, rd_mi, rd_hl, rd_ml, rd_hr, rd_mr, rd_si2, rd_sl1, rd_sl2, rd_sr1, rd_sr2]
        · have z : ¬ rv P R q 1 k = 0 := fun z => by have := v2.2 z; omega
          simp (disch := omega) only [e46, p1, H, k_iT, k_iF, Bool.false_eq_true, eq_self, Nat.add_zero, k_lt', k_bs, k_T, k_F, k_inb, k_ck, k_nz, ↓kN, kL, k_lt, k_le, k_eq, kn_le, kn_lt, kn_eq, kn_le', kn_lt', kn_eq', nI_clamp, nI_add, k_sub, k_mul, k_div, rd_hi, rd_mi, rd_hl, rd_ml, rd_hr, rd_mr, rd_si2, rd_sl1, rd_sl2, rd_sr1, rd_sr2]
    by_cases z : rv P R q 1 k = 0
    · exact .inl ⟨0, by omega, A 0 (by omega) ⟨fun _ => z, fun _ => rfl⟩⟩
    · exact .inl ⟨1, by omega, A 1 (by omega) ⟨fun y => by omega, fun y => absurd y z⟩⟩
  · refine .inr ⟨?_, ?_⟩
    · unfold fX10_strict
      rw [rq]
      show mv_bindx (fX10_requireParam a a1 M) _ = _
      rw [p2]
      rfl
    · unfold fX11_strict fX11_strict_26
      simp (disch := omega) only [e46, p1, k_iT, k_iF, Bool.false_eq_true, eq_self, Nat.add_zero, k_lt', k_bs, k_T, k_F, k_inb, k_ck, k_nz, ↓kN, kL, k_lt, k_le, k_eq, kn_le, kn_lt, kn_eq, kn_le', kn_lt', kn_eq', nI_clamp, nI_add, k_sub, k_mul, k_div, rd_hi, rd_mi, rd_hl, rd_ml, rd_hr, rd_mr, rd_si2, rd_sl1, rd_sl2, rd_sr1, rd_sr2]
end DW
