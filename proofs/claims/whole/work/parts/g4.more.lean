/-! rounds, plant, check, run -/
section IX
variable {b b' h F ND n : Nat} {P : Nat → Nat → Nat} {R : Nat → Nat → Option (Nat → Nat)} {K : Nat → Nat} {V : Nat → Int32} {M M' N M1 N' : mv_M} {v r : Int32} {Inv : mv_M → Prop}
theorem fm_rounds {r : Int32 ⊕ String} (e : fX10_rounds M = some (r, M')) : ∀ c k, ¬ ((44 ≤ c ∧ c ≤ 47) ∨ c = 5) → M'.1 c k = M.1 c k ∧ M'.2.1 c k = M.2.1 c k ∧ M'.2.2 c k = M.2.2 c k := fun c k u => qX10_rounds M r M' e c k (by simp [mv_S]; omega)
theorem fr_rounds (e : fX11_rounds N = some (v, N')) : ∀ c k, ¬ ((81 ≤ c ∧ c ≤ 91) ∨ (c = 62 ∧ (k = 0 ∨ k = 33 ∨ k = 36 ∨ k = 46))) → N'.1 c k = N.1 c k ∧ N'.2.1 c k = N.2.1 c k ∧ N'.2.2 c k = N.2.2 c k := fun c k u => qX11_rounds N v N' e c k (by simp [mv_S]; omega)
theorem fm_plant {a0 a1 a2 a3 : Int32} {r : Int32 ⊕ String} (e : fX10_plant a0 a1 a2 a3 M = some (r, M')) : ∀ c k, ¬ (c = 44 ∨ c = 45) → M'.1 c k = M.1 c k ∧ M'.2.1 c k = M.2.1 c k ∧ M'.2.2 c k = M.2.2 c k := fun c k u => qX10_plant a0 a1 a2 a3 M r M' e c k (by simp [mv_S]; omega)
theorem fr_plant {a0 a1 a2 a3 : Int32} (e : fX11_plant a0 a1 a2 a3 N = some (v, N')) : ∀ c k, ¬ (c = 90 ∨ c = 91 ∨ (c = 62 ∧ k = 0)) → N'.1 c k = N.1 c k ∧ N'.2.1 c k = N.2.1 c k ∧ N'.2.2 c k = N.2.2 c k := fun c k u => qX11_plant a0 a1 a2 a3 N v N' e c k (by simp [mv_S]; omega)
theorem fm_check {r : Int32 ⊕ String} (e : fX10_check M = some (r, M')) : ∀ c k, ¬ (c = 46 ∨ c = 47 ∨ (c = 5 ∧ k = 2)) → M'.1 c k = M.1 c k ∧ M'.2.1 c k = M.2.1 c k ∧ M'.2.2 c k = M.2.2 c k := fun c k u => qX10_check M r M' e c k (by simp [mv_S]; omega)
theorem fr_check (e : fX11_check N = some (v, N')) : ∀ c k, ¬ ((81 ≤ c ∧ c ≤ 89) ∨ (c = 62 ∧ (k = 0 ∨ k = 33 ∨ k = 36))) → N'.1 c k = N.1 c k ∧ N'.2.1 c k = N.2.1 c k ∧ N'.2.2 c k = N.2.2 c k := fun c k u => qX11_check N v N' e c k (by simp [mv_S]; omega)
theorem fm_run {a0 a1 a2 : Int32} {r : Int32 ⊕ String} (e : fX10_run a0 a1 a2 M = some (r, M')) : ∀ c k, ¬ ((50 ≤ c ∧ c ≤ 61) ∨ (c = 6 ∧ k = 0) ∨ c = 7 ∨ c = 8) → M'.1 c k = M.1 c k ∧ M'.2.1 c k = M.2.1 c k ∧ M'.2.2 c k = M.2.2 c k := fun c k u => qX10_run a0 a1 a2 M r M' e c k (by simp [mv_S]; omega)
theorem fr_run {a0 a1 a2 : Int32} (e : fX11_run a0 a1 a2 N = some (v, N')) : ∀ c k, ¬ ((81 ≤ c ∧ c ≤ 85) ∨ (94 ≤ c ∧ c ≤ 105) ∨ (c = 62 ∧ (k = 0 ∨ k = 36 ∨ k = 55 ∨ (67 ≤ k ∧ k ≤ 82)))) → N'.1 c k = N.1 c k ∧ N'.2.1 c k = N.2.1 c k ∧ N'.2.2 c k = N.2.2 c k := fun c k u => qX11_run a0 a1 a2 N v N' e c k (by simp [mv_S]; omega)
/-- what is not touched -/
theorem Iv_of {X : mv_M} (t0 : pi_tape M) (h2 : M.1 1 1 = M.1 62 10) (h3 : ∃ n K V, iN n K V X X) (h4 : Pt b b' M) (hY : Yp b h P F ND X) (e : ∀ c k, c = 39 ∨ c = 63 ∨ (c = 2 ∧ k = 1) ∨ (c = 62 ∧ (k = 2 ∨ k = 10)) ∨ (c = 1 ∧ k = 1) → X.1 c k = M.1 c k) (e2 : ∀ k, X.2.2 0 k = M.2.2 0 k) : Iv X := by
  refine ⟨tape_s t0 (fun c k u => e c k (by omega)), ?_, h3, b, b', ⟨h4.1, (e2 7).trans h4.2.1, (e2 8).trans h4.2.2⟩, .inr ⟨h, P, F, ND, hY⟩⟩
  rw [e _ _ (by omega), e _ _ (by omega)]; exact h2
/-- scratch cells alone, the references cell by cell -/
theorem Iv_p (hI : Iv M) (e : ∀ c k, ¬ scr c k → M'.1 c k = M.1 c k) (e2 : ∀ c k, c = 0 ∨ (c = 5 ∧ k = 1) ∨ c = 7 → M'.2.2 c k = M.2.2 c k) : Iv M' := by
  obtain ⟨h1, h2, h3, b, b', h4, h5⟩ := hI
  have hb : b = 9 ∨ b = 24 := by have := h4.1; omega
  refine ⟨tape_s h1 (fun c k u => e c k (by unfold scr; omega)), ?_, iN_s h3 (fun c k u => e c k (by unfold scr; omega)), b, b', ⟨h4.1, (e2 _ _ (by omega)).trans h4.2.1, (e2 _ _ (by omega)).trans h4.2.2⟩, ?_⟩
  · rw [e _ _ (by unfold scr; omega), e _ _ (by unfold scr; omega)]; exact h2
  · rcases h5 with ⟨a1, a2, ⟨h, a3, a4⟩, ⟨a5, a6⟩, a7⟩ | ⟨h, P, F, ND, ⟨a1, a2, a3, a4, a5⟩, a6, a7⟩
    · exact .inl ⟨(e _ _ (by unfold scr; omega)).trans a1, (e _ _ (by unfold scr; omega)).trans a2, ⟨h, a3, (e _ _ (by unfold scr; omega)).trans a4⟩, ⟨(e _ _ (by unfold scr; omega)).trans a5, (e _ _ (by unfold scr; omega)).trans a6⟩, Nr_s a7 (fun c k u => e c k (by unfold scr; omega))⟩
    · exact .inr ⟨h, P, F, ND, ⟨a1, a2, PR_s a3 (fun c k u => e c k (by unfold scr; omega)), (e _ _ (by unfold scr; omega)).trans a4, (e _ _ (by unfold scr; omega)).trans a5⟩, Rw_s a6 (fun c k u => e c k (by unfold scr; omega)) (e2 _ _ (by omega)), RU_s a7 (fun c k u => e c k (by unfold scr; omega)) (e2 _ _ (by omega))⟩
theorem fin_J {fm : mv_M → Option (Int32 × mv_M)} (h2 : fm M1 = some (v, N')) (h3 : N'.1 62 0 = nI 0) (h4 : N'.2.1 106 0 = v.toInt64) (h5 : Inv N') : mv_ok (fm M1) (fun r M2 => M2.1 62 0 = 0 ∧ ((0 : Int32) = 0 → M2.2.1 106 0 = r.toInt64) ∧ Inv M2) := by
  rw [h2]
  exact ⟨h3, fun _ => h4, h5⟩
theorem H10 : pm_I Iv fL_check fX11_check := by
  intro M hI
  unfold fL_check
  rcases Iv_rows hI with ⟨h1, h2⟩ | ⟨b, b', h, P, F, ND, R, h4, hY, e50, e46, hc, hr⟩
  · refine try_E (M := M) (E := mv_e1) (by unfold fX10_check; rw [rr_no h1]; rfl) (if_pos rfl) (fin_E (k := 1) (M1 := M) (N' := mv_si M 62 0 (nI 1)) (r := 0) ?_ (by simp (disch := omega) only [rd_hi, rd_mi, rd_hl, rd_ml, rd_hr, rd_mr, rd_si2, rd_sl1, rd_sl2, rd_sr1, rd_sr2]) (by omega) (Iv_1 hI))
    unfold fX11_check fX11_check_13
    rw [h2, if_pos (by decide)]
    simp (disch := omega) only [↓reduceIte, k_iT, k_iF, Bool.false_eq_true, eq_self, Nat.add_zero, k_lt', k_bs, k_T, k_F, k_inb, k_ck, k_nz, ↓kN, kL, k_lt, k_le, k_eq, kn_le, kn_lt, kn_eq, kn_le', kn_lt', kn_eq', nI_clamp, nI_add, k_sub, k_mul, k_div, rd_hi, rd_mi, rd_hl, rd_ml, rd_hr, rd_mr, rd_si2, rd_sl1, rd_sl2, rd_sr1, rd_sr2]
  · have e46' : M.1 62 46 ≠ 0 := by rw [e46]; decide
    obtain ⟨v, M1, N1, c1, c2, c3, c4⟩ := j_check hc hr e46'
    have c1' : fX10_check M = some (.inl v, M1) := by
      unfold fX10_check fX10_requireRows
      rw [e50, if_neg (by decide), bx_l, c1, k_bs]
    have f1 := fm_check c1'
    have hcN : cT b h P F ND R (mv_sl M1 106 0 v.toInt64) M := ⟨hc.1, hc.2.1, PR_F hc.2.2.1 (fun _ _ _ _ => rfl) (fun c k u1 u2 => (f1 c k (by omega)).1), hc.2.2.2⟩
    have hrN : rT b h P F ND R M (mv_sl M1 106 0 v.toInt64) := ⟨hr.1, hr.2.1, PR_F hr.2.2.1 (fun _ _ _ _ => rfl) (fun c k u1 u2 => (f1 c k (by omega)).1), (f1 _ _ (by omega)).1.trans hr.2.2.2.1, rowR_F hr.2.2.2.2 (fun a p u => (f1 a p (by omega)).1)⟩
    have e46N : (mv_sl M1 106 0 v.toInt64).1 62 46 ≠ 0 := by rw [show (mv_sl M1 106 0 v.toInt64).1 62 46 = M.1 62 46 from (f1 _ _ (by omega)).1]; exact e46'
    obtain ⟨v', M1', N2, d1, d2, d3, d4⟩ := j_check hcN hrN e46N
    rw [c1] at d1
    injection d1 with d1
    injection d1 with d1 d1'
    subst d1
    have f2 := fr_check d2
    have e0 : ∀ c k, ¬ scr c k → N2.1 c k = M.1 c k := fun c k u => ((f2 c k (by unfold scr at u; omega)).1).trans (f1 c k (by unfold scr at u; omega)).1
    have d27 : fX11_check_27 0 (mv_si (mv_sl M1 106 0 v.toInt64) 62 0 0) = some (v, N2) := by
      have z := d2
      unfold fX11_check fX11_check_13 at z
      rw [if_neg e46N, k_lt', rd_hi ⟨rfl, rfl⟩, if_pos (by decide)] at z
      exact z
    refine try_I c1' (fin_J d2 ?_ ?_ (Iv_p hI e0 (fun c k u => ((f2 c k (by omega)).2.2).trans (f1 c k (by omega)).2.2)))
    · exact ((yX11_check_27 0 _ _ _ d27) 62 0 (by decide)).1.trans (by simp (disch := omega) only [rd_hi, rd_mi, rd_hl, rd_ml, rd_hr, rd_mr, rd_si2, rd_sl1, rd_sl2, rd_sr1, rd_sr2]; rfl)
    · exact ((f2 106 0 (by omega)).2.1).trans rfl
theorem H9 (a0 a1 a2 a3 : Int32) : pm_I Iv (fL_plant a0 a1 a2 a3) (fX11_plant a0 a1 a2 a3) := by
  intro M hI
  unfold fL_plant
  rcases Iv_rows hI with ⟨h1, h2⟩ | ⟨b, b', h, P, F, ND, R, h4, hY, e50, e46, hc, hr⟩
  · refine try_E (M := M) (E := mv_e1) (by unfold fX10_plant; rw [rr_no h1]; rfl) (if_pos rfl) (fin_E (k := 1) (M1 := M) (N' := mv_si M 62 0 (nI 1)) (r := 0) ?_ (by simp (disch := omega) only [rd_hi, rd_mi, rd_hl, rd_ml, rd_hr, rd_mr, rd_si2, rd_sl1, rd_sl2, rd_sr1, rd_sr2]) (by omega) (Iv_1 hI))
    unfold fX11_plant fX11_plant_56
    rw [h2, if_pos (by decide)]
    simp (disch := omega) only [↓reduceIte, k_iT, k_iF, Bool.false_eq_true, eq_self, Nat.add_zero, k_lt', k_bs, k_T, k_F, k_inb, k_ck, k_nz, ↓kN, kL, k_lt, k_le, k_eq, kn_le, kn_lt, kn_eq, kn_le', kn_lt', kn_eq', nI_clamp, nI_add, k_sub, k_mul, k_div, rd_hi, rd_mi, rd_hl, rd_ml, rd_hr, rd_mr, rd_si2, rd_sl1, rd_sl2, rd_sr1, rd_sr2]
  · have e45 : M.1 62 45 ≠ 0 := by rw [hY.1.2.2.2.1]; decide
    rcases j_plant hc hr h4.2.1 e50 e45 e46 a0 a1 a2 a3 with ⟨R1, v, M1, N1, _, c1, _⟩ | ⟨c1, c2⟩ | ⟨c1, c2⟩
    · have f1 := fm_plant c1
      have hcN : cT b h P F ND R (mv_sl M1 106 0 v.toInt64) M := ⟨hc.1, hc.2.1, PR_F hc.2.2.1 (fun _ _ _ _ => rfl) (fun c k u1 u2 => (f1 c k (by omega)).1), hc.2.2.2⟩
      have hrN : rT b h P F ND R M (mv_sl M1 106 0 v.toInt64) := ⟨hr.1, hr.2.1, PR_F hr.2.2.1 (fun _ _ _ _ => rfl) (fun c k u1 u2 => (f1 c k (by omega)).1), (f1 _ _ (by omega)).1.trans hr.2.2.2.1, rowR_F hr.2.2.2.2 (fun a p u => (f1 a p (by omega)).1)⟩
      rcases j_plant hcN hrN h4.2.1 e50 (by rw [show (mv_sl M1 106 0 v.toInt64).1 62 45 = M.1 62 45 from (f1 _ _ (by omega)).1]; exact e45) ((f1 _ _ (by omega)).1.trans e46) a0 a1 a2 a3 with ⟨R2, v', M1', N2, hR, d1, d2, d3, d4, d5⟩ | ⟨d1, _⟩ | ⟨d1, _⟩
      · obtain ⟨z1, z2⟩ := inl_eq c1 d1
        subst z1
        subst z2
        have f2 := fr_plant d2
        have eA : ∀ c k, ¬ (c = 44 ∨ c = 45 ∨ c = 90 ∨ c = 91 ∨ (c = 62 ∧ k = 0)) → N2.1 c k = M.1 c k := fun c k u => ((f2 c k (by omega)).1).trans (f1 c k (by omega)).1
        have eC : ∀ c k, ¬ (c = 90 ∨ c = 91 ∨ (c = 62 ∧ k = 0)) → N2.1 c k = M1.1 c k := fun c k u => (f2 c k u).1
        have eB : ∀ c k, N2.2.2 c k = M.2.2 c k ∨ (c = 44 ∨ c = 45 ∨ c = 90 ∨ c = 91 ∨ (c = 62 ∧ k = 0)) := fun c k => by
          by_cases u : c = 44 ∨ c = 45 ∨ c = 90 ∨ c = 91 ∨ (c = 62 ∧ k = 0)
          · exact .inr u
          · exact .inl (((f2 c k (by omega)).2.2).trans (f1 c k (by omega)).2.2)
        have eB' : ∀ c k, c < 44 → N2.2.2 c k = M.2.2 c k := fun c k u => (eB c k).resolve_right (by omega)
        refine try_I c1 (fin_J d2 d3 ?_ ?_)
        · exact ((f2 106 0 (by omega)).2.1).trans rfl
        · obtain ⟨t0, t2, t3, _⟩ := hI
          have hp2 := PR_s hY.1.2.2.1 (M' := N2) (fun c k u => eA c k (by omega))
          refine Iv_of (h := h) (P := P) (F := F) (ND := ND) t0 t2 (iN_s t3 (fun c k u => eA c k (by omega))) h4 ⟨⟨hY.1.1, hY.1.2.1, hp2, (eA _ _ (by omega)).trans hY.1.2.2.2.1, (eA _ _ (by omega)).trans hY.1.2.2.2.2⟩, .inr ⟨(eA _ _ (by omega)).trans e50, (eA _ _ (by omega)).trans e46, R2, ⟨d4.1, d4.2.1, hp2, (eB' _ _ (by omega)).trans hc.2.2.2.1, rowC_F d4.2.2.2.2 (fun a p u => eC a p (by omega))⟩, ⟨d5.1, d5.2.1, hp2, d5.2.2.2.1, d5.2.2.2.2⟩⟩, RU_s hY.2.2 (fun c k u => eA c k (by omega)) (eB' _ _ (by omega))⟩ (fun c k u => eA c k (by omega)) (fun k => eB' _ _ (by omega))
      · exact (inl_ne c1 d1).elim
      · exact (inl_ne c1 d1).elim
    · exact try_E c1 ((if_neg (by decide)).trans (if_pos rfl)) (fin_E (k := 2) c2 (by simp (disch := omega) only [rd_hi, rd_mi, rd_hl, rd_ml, rd_hr, rd_mr, rd_si2, rd_sl1, rd_sl2, rd_sr1, rd_sr2]) (by omega) (Iv_1 hI))
    · exact try_E c1 ((if_neg (by decide)).trans ((if_neg (by decide)).trans (if_pos rfl))) (fin_E (k := 3) c2 (by simp (disch := omega) only [rd_hi, rd_mi, rd_hl, rd_ml, rd_hr, rd_mr, rd_si2, rd_sl1, rd_sl2, rd_sr1, rd_sr2]) (by omega) (Iv_1 hI))
theorem H5 : pm_I Iv fL_rounds fX11_rounds := by
  intro M hI
  have hI' := hI
  obtain ⟨t0, t2, t3, b, b', h4, h5⟩ := hI
  have hb : b = 9 ∨ b = 24 := by have := h4.1; omega
  unfold fL_rounds
  rcases h5 with ⟨a1, a2, _⟩ | ⟨h, P, F, ND, hY⟩
  · refine try_E (M := M) (E := mv_e1) ?_ (if_pos rfl) (fin_E (k := 1) (M1 := M) (N' := mv_si M 62 0 (nI 1)) (r := 0) ?_ (by simp (disch := omega) only [rd_hi, rd_mi, rd_hl, rd_ml, rd_hr, rd_mr, rd_si2, rd_sl1, rd_sl2, rd_sr1, rd_sr2]) (by omega) (Iv_1 hI'))
    · unfold fX10_rounds
      rw [g07 hb h4.2.1, a1, if_pos (by decide)]
      rfl
    · unfold fX11_rounds fX11_rounds_13
      rw [a2, if_pos (by decide)]
      simp (disch := omega) only [↓reduceIte, k_iT, k_iF, Bool.false_eq_true, eq_self, Nat.add_zero, k_lt', k_bs, k_T, k_F, k_inb, k_ck, k_nz, ↓kN, kL, k_lt, k_le, k_eq, kn_le, kn_lt, kn_eq, kn_le', kn_lt', kn_eq', nI_clamp, nI_add, k_sub, k_mul, k_div, rd_hi, rd_mi, rd_hl, rd_ml, rd_hr, rd_mr, rd_si2, rd_sl1, rd_sl2, rd_sr1, rd_sr2]
  · obtain ⟨p1, p2, p3, p4, p5⟩ := hY.1
    have e45 : M.1 62 45 ≠ 0 := by rw [p4]; decide
    have hF0 := p1.1
    have hF := p1.2.1
    obtain ⟨K, M1, N1, c1, _, hK, _⟩ := j_rounds (M0 := M) p1 p3 e45 p5
    have c1' : fX10_rounds M = some (.inl (nI (K + 1)), M1) := by
      unfold fX10_rounds
      rw [g07 hb h4.2.1, if_neg (by rw [p3.2.2.1, kM, k_eq (by omega) (by omega)]; omega), g07 hb h4.2.1, c1, k_bs]
    have f1 := fm_rounds c1'
    have e45N : (mv_sl M1 106 0 (nI (K + 1)).toInt64).1 62 45 ≠ 0 := by rw [show (mv_sl M1 106 0 (nI (K + 1)).toInt64).1 62 45 = M.1 62 45 from (f1 _ _ (by omega)).1]; exact e45
    obtain ⟨K2, M1', N2, d1, d2, hK2, d3, d4, d5⟩ := j_rounds (M0 := M) (N := mv_sl M1 106 0 (nI (K + 1)).toInt64) p1 (PR_F p3 (fun _ _ _ _ => rfl) (fun c k u1 u2 => (f1 c k (by omega)).1)) e45N ((f1 _ _ (by omega)).1.trans p5)
    rw [c1] at d1
    injection d1 with d1
    injection d1 with d1 d1'
    subst d1'
    rw [k_eq (by omega) (by omega)] at d1
    obtain rfl : K = K2 := by omega
    have f2 := fr_rounds d2
    have eA : ∀ c k, ¬ ((44 ≤ c ∧ c ≤ 47) ∨ c = 5 ∨ (81 ≤ c ∧ c ≤ 91) ∨ (c = 62 ∧ (k = 0 ∨ k = 33 ∨ k = 36 ∨ k = 46))) → N2.1 c k = M.1 c k := fun c k u => ((f2 c k (by omega)).1).trans (f1 c k (by omega)).1
    have eC : ∀ c k, ¬ ((81 ≤ c ∧ c ≤ 91) ∨ (c = 62 ∧ (k = 0 ∨ k = 33 ∨ k = 36 ∨ k = 46))) → N2.1 c k = M1.1 c k := fun c k u => (f2 c k u).1
    have eB : ∀ c k, c < 44 → c ≠ 5 → N2.2.2 c k = M.2.2 c k := fun c k u u2 => ((f2 c k (by omega)).2.2).trans (f1 c k (by omega)).2.2
    have d32 : fX11_rounds_32 0 (mv_si (mv_si (mv_sl M1 106 0 (nI (K + 1)).toInt64) 62 0 0) 62 46 1) = some (nI (K + 1), N2) := by
      have z := d2
      unfold fX11_rounds fX11_rounds_13 at z
      rw [if_neg e45N, k_lt', rd_hi ⟨rfl, rfl⟩, if_pos (by decide), k_lt'] at z
      exact z
    have g1 := yX11_rounds_32 0 _ _ _ d32
    refine try_I c1' (fin_J d2 ?_ ?_ ?_)
    · exact (g1 62 0 (by decide)).1.trans (by simp (disch := omega) only [rd_hi, rd_mi, rd_hl, rd_ml, rd_hr, rd_mr, rd_si2, rd_sl1, rd_sl2, rd_sr1, rd_sr2]; rfl)
    · exact ((f2 106 0 (by omega)).2.1).trans rfl
    · have hp2 := PR_s p3 (M' := N2) (fun c k u => eA c k (by omega))
      refine Iv_of (h := h) (P := P) (F := F) (ND := ND) t0 t2 (iN_s t3 (fun c k u => eA c k (by omega))) h4 ⟨⟨p1, p2, hp2, (eA _ _ (by omega)).trans p4, (eA _ _ (by omega)).trans p5⟩, .inr ⟨(eC _ _ (by omega)).trans d4, (g1 62 46 (by decide)).1.trans (by simp (disch := omega) only [rd_hi, rd_mi, rd_hl, rd_ml, rd_hr, rd_mr, rd_si2, rd_sl1, rd_sl2, rd_sr1, rd_sr2]; rfl), _, ⟨d3.1, d3.2.1, hp2, ((f2 5 1 (by omega)).2.2).trans d3.2.2.2.1, rowC_F d3.2.2.2.2 (fun a p u => eC a p (by omega))⟩, ⟨d5.1, d5.2.1, hp2, d5.2.2.2.1, d5.2.2.2.2⟩⟩, RU_s hY.2.2 (fun c k u => eA c k (by omega)) (eB _ _ (by omega) (by omega))⟩ (fun c k u => eA c k (by omega)) (fun k => eB _ _ (by omega) (by omega))
theorem H12 (a0 a1 a2 : Int32) : pm_I Iv (fL_run a0 a1 a2) (fX11_run a0 a1 a2) := by
  intro M hI
  have hI' := hI
  obtain ⟨t0, t2, ⟨n, K, V, t3⟩, b, b', h4, h5⟩ := hI
  have hb : b = 9 ∨ b = 24 := by have := h4.1; omega
  unfold fL_run
  rcases h5 with ⟨z1, z2, ⟨h, z3, z4⟩, _⟩ | ⟨h, P, F, ND, hY⟩
  · refine try_E (M := M) (E := mv_e1) ?_ (if_pos rfl) (fin_E (k := 1) (M1 := M) (N' := mv_si M 62 0 (nI 1)) (r := 0) ?_ (by simp (disch := omega) only [rd_hi, rd_mi, rd_hl, rd_ml, rd_hr, rd_mr, rd_si2, rd_sl1, rd_sl2, rd_sr1, rd_sr2]) (by omega) (Iv_1 hI'))
    · unfold fX10_run
      rw [g07 hb h4.2.1, z1, if_pos (by decide)]
      rfl
    · unfold fX11_run fX11_isFn fX11_run_20
      rw [z2, if_pos (by decide), k_bs, if_pos rfl, k_lt']
      unfold fX11_run_29
      refine lp_inr ?_
      show gX11_run_29 a0 a1 a2 _ 0 0 M = _
      unfold gX11_run_29
      rw [z2, if_pos (by decide)]
      congr 1
      unfold fX11_run_75 fX11_run_126
      rw [z2, if_pos (by decide)]
      simp (disch := omega) only [↓reduceIte, k_iT, k_iF, Bool.false_eq_true, eq_self, Nat.add_zero, k_lt', k_bs, k_T, k_F, k_inb, k_ck, k_nz, ↓kN, kL, k_lt, k_le, k_eq, kn_le, kn_lt, kn_eq, kn_le', kn_lt', kn_eq', nI_clamp, nI_add, k_sub, k_mul, k_div, rd_hi, rd_mi, rd_hl, rd_ml, rd_hr, rd_mr, rd_si2, rd_sl1, rd_sl2, rd_sr1, rd_sr2]
  · obtain ⟨p1, p2, p3, p4, p5⟩ := hY.1
    have e45 : M.1 62 45 ≠ 0 := by rw [p4]; decide
    rcases j_run (N := M) p1 p2.1 p3 e45 p5 h4.2.1 t3 a0 a1 a2 with ⟨q, e, M1, N1, hq, c1, _⟩ | ⟨N1, c1, c2, c3, c4, c5⟩ | ⟨N1, c1, c2, c3, c4, c5⟩
    · have f1 := fm_run c1
      have e45N : (mv_sl M1 106 0 (nI e).toInt64).1 62 45 ≠ 0 := by rw [show (mv_sl M1 106 0 (nI e).toInt64).1 62 45 = M.1 62 45 from (f1 _ _ (by omega)).1]; exact e45
      have tN : iN n K V M (mv_sl M1 106 0 (nI e).toInt64) := by
        obtain ⟨i1, i2, i3, i4⟩ := t3
        refine ⟨i1, i2, (f1 _ _ (by omega)).1.trans i3, fun i hi => ?_⟩
        obtain ⟨j1, j2, j3, j4⟩ := i4 i hi
        exact ⟨j1, j2, (f1 _ _ (by omega)).1.trans j3, (f1 _ _ (by omega)).1.trans j4⟩
      rcases j_run (N := mv_sl M1 106 0 (nI e).toInt64) p1 p2.1 (PR_F p3 (fun _ _ _ _ => rfl) (fun c k u1 u2 => (f1 c k (by omega)).1)) e45N ((f1 _ _ (by omega)).1.trans p5) h4.2.1 tN a0 a1 a2 with ⟨q', e', M1', N2, hq', d1, d2, d3, d4, d5, d6⟩ | ⟨N2, d1, _⟩ | ⟨N2, d1, _⟩
      · obtain ⟨y1, y2⟩ := inl_eq c1 d1
        subst y2
        rw [← y1] at d2
        have f2 := fr_run d2
        have eA : ∀ c k, ¬ ((50 ≤ c ∧ c ≤ 61) ∨ (c = 6 ∧ k = 0) ∨ c = 7 ∨ c = 8 ∨ (81 ≤ c ∧ c ≤ 85) ∨ (94 ≤ c ∧ c ≤ 105) ∨ (c = 62 ∧ (k = 0 ∨ k = 36 ∨ k = 55 ∨ (67 ≤ k ∧ k ≤ 82)))) → N2.1 c k = M.1 c k := fun c k u => ((f2 c k (by omega)).1).trans (f1 c k (by omega)).1
        have eB : ∀ c k, c < 6 → N2.2.2 c k = M.2.2 c k := fun c k u => ((f2 c k (by omega)).2.2).trans (f1 c k (by omega)).2.2
        refine try_I c1 (fin_J d2 d3 ?_ ?_)
        · exact ((f2 106 0 (by omega)).2.1).trans rfl
        · have hp2 := PR_s p3 (M' := N2) (fun c k u => eA c k (by omega))
          refine Iv_of (h := h) (P := P) (F := F) (ND := ND) t0 t2 ⟨0, K, V, by omega, ((f2 _ _ (by omega)).1).trans d5, d6, fun i hi => by omega⟩ h4 ⟨⟨p1, p2, hp2, (eA _ _ (by omega)).trans p4, (eA _ _ (by omega)).trans p5⟩, Rw_s hY.2.1 (fun c k u => eA c k (by omega)) (eB _ _ (by omega)), .inr ⟨q', RN_s d4 (fun c k u => (f2 c k (by omega)).1) ((f2 _ _ (by omega)).2.2) (fun _ _ _ => rfl)⟩⟩ (fun c k u => eA c k (by omega)) (fun k => eB _ _ (by omega))
      · exact (inl_ne c1 d1).elim
      · exact (inl_ne c1 d1).elim
    · exact try_E c1 ((if_neg (by decide)).trans (if_pos rfl)) (fin_E (k := 2) c2 c3 (by omega) (Iv_s hI' (fun c k u => c5 c k (by unfold scr at u; omega) (by unfold scr at u; omega)) (by rw [c4])))
    · exact try_E c1 ((if_neg (by decide)).trans ((if_neg (by decide)).trans (if_pos rfl))) (fin_E (k := 3) c2 c3 (by omega) (Iv_s hI' (fun c k u => c5 c k (by unfold scr at u; omega) (by unfold scr at u; omega)) (by rw [c4])))
end IX
