/-! THE CALLS ONE BY ONE -/
section IW
variable {b b' h F ND n : Nat} {P : Nat → Nat → Nat} {R : Nat → Nat → Option (Nat → Nat)} {K : Nat → Nat} {V : Nat → Int32} {M M' N M1 N' : mv_M} {v r : Int32} {Inv : mv_M → Prop}
theorem inl_eq {α β : Type} {x y : α} {X Y : mv_M} {o : Option ((α ⊕ β) × mv_M)} (h1 : o = some (.inl x, X)) (h2 : o = some (.inl y, Y)) : x = y ∧ X = Y := by
  rw [h1] at h2
  injection h2 with h2
  injection h2 with h2 h3
  injection h2 with h2
  exact ⟨h2, h3⟩
theorem inl_ne {α β : Type} {x : α} {y : β} {X Y : mv_M} {o : Option ((α ⊕ β) × mv_M)} (h1 : o = some (.inl x, X)) (h2 : o = some (.inr y, Y)) : False := by
  rw [h1] at h2
  injection h2 with h2
  injection h2 with h2 h3
  cases h2
/-- no rows -/
theorem rr_no (h : M.1 5 0 = nI 0) : fX10_requireRows M = some (.inr mv_e1, M) := by
  unfold fX10_requireRows
  rw [h, if_pos (by decide)]
  rfl
/-- rows or none -/
theorem Iv_rows (hI : Iv M) : (M.1 5 0 = nI 0 ∧ M.1 62 46 = nI 0) ∨ (∃ b b' h P F ND R, Pt b b' M ∧ Yp b h P F ND M ∧ M.1 5 0 = nI 1 ∧ M.1 62 46 = nI 1 ∧ cT b h P F ND R M M ∧ rT b h P F ND R M M) := by
  obtain ⟨_, _, _, b, b', h4, h5⟩ := hI
  rcases h5 with ⟨_, _, _, h, _⟩ | ⟨h, P, F, ND, p1, p2, p3⟩
  · exact .inl h
  · rcases p2 with z | ⟨z1, z2, R, z3, z4⟩
    · exact .inl z
    · exact .inr ⟨b, b', h, P, F, ND, R, h4, ⟨p1, .inr ⟨z1, z2, R, z3, z4⟩, p3⟩, z1, z2, z3, z4⟩
theorem H6 (a0 a1 : Int32) : pm_Z Iv (fL_dead a0 a1) (fX11_dead a0 a1) := by
  intro M hI
  unfold fL_dead
  rcases Iv_rows hI with ⟨h1, h2⟩ | ⟨b, b', h, P, F, ND, R, h4, hY, e50, e46, hc, hr⟩
  · refine try_E (E := mv_e1) (by unfold fX10_dead; rw [rr_no h1]; rfl) (if_pos rfl) (fin_E (k := 1) (N' := mv_si M 62 0 (nI 1)) (r := 0) ?_ (by simp (disch := omega) only [rd_hi, rd_mi, rd_hl, rd_ml, rd_hr, rd_mr, rd_si2, rd_sl1, rd_sl2, rd_sr1, rd_sr2]) (by omega) (Iv_1 hI))
    unfold fX11_dead fX11_dead_26
    rw [h2, if_pos (by decide)]
    simp (disch := omega) only [↓reduceIte, k_iT, k_iF, Bool.false_eq_true, eq_self, Nat.add_zero, k_lt', k_bs, k_T, k_F, k_inb, k_ck, k_nz, ↓kN, kL, k_lt, k_le, k_eq, kn_le, kn_lt, kn_eq, kn_le', kn_lt', kn_eq', nI_clamp, nI_add, k_sub, k_mul, k_div, rd_hi, rd_mi, rd_hl, rd_ml, rd_hr, rd_mr, rd_si2, rd_sl1, rd_sl2, rd_sr1, rd_sr2]
  · have e45 : M.1 62 45 ≠ 0 := by rw [hY.1.2.2.2.1]; decide
    rcases j_dead hc hr h4.2.1 e50 e45 e46 a0 a1 with ⟨v, v1, c1, _⟩ | ⟨c1, c2⟩
    · rcases j_dead (N := mv_sl M 106 0 (if v = 0 then 0 else 1)) hc hr h4.2.1 e50 e45 e46 a0 a1 with ⟨v', v1', d1, d2⟩ | ⟨d1, _⟩
      · have z := (inl_eq c1 d1).1
        rw [k_eq (by omega) (by omega)] at z
        subst z
        rw [c1]
        show mv_ok (if nI v = (0 : Int32) then fL_dead_16 0 0 M else fL_dead_16 1 0 M) _
        rw [z_fw v1 (fun w => rfl)]
        exact fin_Z v1 rfl d2 (by simp (disch := omega) only [rd_hi, rd_mi, rd_hl, rd_ml, rd_hr, rd_mr, rd_si2, rd_sl1, rd_sl2, rd_sr1, rd_sr2]) rfl (Iv_0 hI)
      · exact (inl_ne c1 d1).elim
    · exact try_E c1 ((if_neg (by decide)).trans (if_pos rfl)) (fin_E (k := 2) c2 (by simp (disch := omega) only [rd_hi, rd_mi, rd_hl, rd_ml, rd_hr, rd_mr, rd_si2, rd_sl1, rd_sl2, rd_sr1, rd_sr2]) (by omega) (Iv_1 hI))
theorem H8 (a0 a1 : Int32) : pm_Z Iv (fL_strict a0 a1) (fX11_strict a0 a1) := by
  intro M hI
  unfold fL_strict
  rcases Iv_rows hI with ⟨h1, h2⟩ | ⟨b, b', h, P, F, ND, R, h4, hY, e50, e46, hc, hr⟩
  · refine try_E (E := mv_e1) (by unfold fX10_strict; rw [rr_no h1]; rfl) (if_pos rfl) (fin_E (k := 1) (N' := mv_si M 62 0 (nI 1)) (r := 0) ?_ (by simp (disch := omega) only [rd_hi, rd_mi, rd_hl, rd_ml, rd_hr, rd_mr, rd_si2, rd_sl1, rd_sl2, rd_sr1, rd_sr2]) (by omega) (Iv_1 hI))
    unfold fX11_strict fX11_strict_26
    rw [h2, if_pos (by decide)]
    simp (disch := omega) only [↓reduceIte, k_iT, k_iF, Bool.false_eq_true, eq_self, Nat.add_zero, k_lt', k_bs, k_T, k_F, k_inb, k_ck, k_nz, ↓kN, kL, k_lt, k_le, k_eq, kn_le, kn_lt, kn_eq, kn_le', kn_lt', kn_eq', nI_clamp, nI_add, k_sub, k_mul, k_div, rd_hi, rd_mi, rd_hl, rd_ml, rd_hr, rd_mr, rd_si2, rd_sl1, rd_sl2, rd_sr1, rd_sr2]
  · have e45 : M.1 62 45 ≠ 0 := by rw [hY.1.2.2.2.1]; decide
    rcases j_strict hc hr h4.2.1 e50 e45 e46 a0 a1 with ⟨v, v1, c1, _⟩ | ⟨c1, c2⟩
    · rcases j_strict (N := mv_sl M 106 0 (if v = 0 then 0 else 1)) hc hr h4.2.1 e50 e45 e46 a0 a1 with ⟨v', v1', d1, d2⟩ | ⟨d1, _⟩
      · have z := (inl_eq c1 d1).1
        rw [k_eq (by omega) (by omega)] at z
        subst z
        rw [c1]
        show mv_ok (if nI v = (0 : Int32) then fL_strict_16 0 0 M else fL_strict_16 1 0 M) _
        rw [z_fw v1 (fun w => rfl)]
        exact fin_Z v1 rfl d2 (by simp (disch := omega) only [rd_hi, rd_mi, rd_hl, rd_ml, rd_hr, rd_mr, rd_si2, rd_sl1, rd_sl2, rd_sr1, rd_sr2]) rfl (Iv_0 hI)
      · exact (inl_ne c1 d1).elim
    · exact try_E c1 ((if_neg (by decide)).trans (if_pos rfl)) (fin_E (k := 2) c2 (by simp (disch := omega) only [rd_hi, rd_mi, rd_hl, rd_ml, rd_hr, rd_mr, rd_si2, rd_sl1, rd_sl2, rd_sr1, rd_sr2]) (by omega) (Iv_1 hI))
theorem H7 (a0 a1 a2 : Int32) : pm_I Iv (fL_asks a0 a1 a2) (fX11_asks_ a0 a1 a2) := by
  intro M hI
  unfold fL_asks
  rcases Iv_rows hI with ⟨h1, h2⟩ | ⟨b, b', h, P, F, ND, R, h4, hY, e50, e46, hc, hr⟩
  · refine try_E (E := mv_e1) (by unfold fX10_asks; rw [rr_no h1]; rfl) (if_pos rfl) (fin_E (k := 1) (N' := mv_si M 62 0 (nI 1)) (r := 0) ?_ (by simp (disch := omega) only [rd_hi, rd_mi, rd_hl, rd_ml, rd_hr, rd_mr, rd_si2, rd_sl1, rd_sl2, rd_sr1, rd_sr2]) (by omega) (Iv_1 hI))
    unfold fX11_asks_ fX11_asks__35
    rw [h2, if_pos (by decide)]
    simp (disch := omega) only [↓reduceIte, k_iT, k_iF, Bool.false_eq_true, eq_self, Nat.add_zero, k_lt', k_bs, k_T, k_F, k_inb, k_ck, k_nz, ↓kN, kL, k_lt, k_le, k_eq, kn_le, kn_lt, kn_eq, kn_le', kn_lt', kn_eq', nI_clamp, nI_add, k_sub, k_mul, k_div, rd_hi, rd_mi, rd_hl, rd_ml, rd_hr, rd_mr, rd_si2, rd_sl1, rd_sl2, rd_sr1, rd_sr2]
  · have e45 : M.1 62 45 ≠ 0 := by rw [hY.1.2.2.2.1]; decide
    rcases j_asks hc hr h4.2.1 e50 e45 e46 a0 a1 a2 with ⟨v, v1, c1, _⟩ | ⟨c1, c2⟩
    · rcases j_asks (N := mv_sl M 106 0 (nI v).toInt64) hc hr h4.2.1 e50 e45 e46 a0 a1 a2 with ⟨v', v1', d1, d2⟩ | ⟨d1, _⟩
      · have z := (inl_eq c1 d1).1
        rw [← z] at d2
        exact try_I c1 (fin_I d2 (by simp (disch := omega) only [rd_hi, rd_mi, rd_hl, rd_ml, rd_hr, rd_mr, rd_si2, rd_sl1, rd_sl2, rd_sr1, rd_sr2]) rfl (Iv_0 hI))
      · exact (inl_ne c1 d1).elim
    · exact try_E c1 ((if_neg (by decide)).trans (if_pos rfl)) (fin_E (k := 2) c2 (by simp (disch := omega) only [rd_hi, rd_mi, rd_hl, rd_ml, rd_hr, rd_mr, rd_si2, rd_sl1, rd_sl2, rd_sr1, rd_sr2]) (by omega) (Iv_1 hI))
theorem H1 (a0 : Int32) : pm_I Iv (fL_cut a0) (fX11_cut a0) := by
  intro M hI
  have hI' := hI
  obtain ⟨⟨n, t1, t2, t3, t4⟩, h2, h3, b, b', h4, h5⟩ := hI
  have hb : b = 9 ∨ b = 24 := by have := h4.1; omega
  unfold fL_cut
  rcases j_cut (N := M) t1 t2 t3 a0 with ⟨m, m1, c1, _⟩ | ⟨c1, c2⟩
  · rcases j_cut (N := mv_sl (mv_si M 2 1 (nI m)) 106 0 (nI (n - m)).toInt64) t1 t2 (show (mv_sl (mv_si M 2 1 (nI m)) 106 0 (nI (n - m)).toInt64).1 62 2 = nI n by simp (disch := omega) only [rd_hi, rd_mi, rd_hl, rd_ml, rd_hr, rd_mr, rd_si2, rd_sl1, rd_sl2, rd_sr1, rd_sr2]; exact t3) a0 with ⟨m', m1', d1, d2⟩ | ⟨d1, _⟩
    · have z := (inl_eq c1 d1).1
      rw [k_eq (by omega) (by omega)] at z
      obtain rfl : m = m' := by omega
      refine try_I c1 (fin_I d2 (by simp (disch := omega) only [rd_hi, rd_mi, rd_hl, rd_ml, rd_hr, rd_mr, rd_si2, rd_sl1, rd_sl2, rd_sr1, rd_sr2]) rfl ?_)
      generalize hX : mv_si (mv_si (mv_sl (mv_si M 2 1 (nI m)) 106 0 (nI (n - m)).toInt64) 62 0 (nI 0)) 62 2 (nI m) = X
      have e : ∀ c k, ¬ ((c = 2 ∧ k = 1) ∨ (c = 62 ∧ (k = 0 ∨ k = 2))) → X.1 c k = M.1 c k := fun c k u => by rw [← hX]; simp (disch := omega) only [rd_hi, rd_mi, rd_hl, rd_ml, rd_hr, rd_mr, rd_si2, rd_sl1, rd_sl2, rd_sr1, rd_sr2]
      have e2 : X.2.2 = M.2.2 := by rw [← hX]; rfl
      refine ⟨⟨m, by omega, by rw [← hX]; simp (disch := omega) only [rd_hi, rd_mi, rd_hl, rd_ml, rd_hr, rd_mr, rd_si2, rd_sl1, rd_sl2, rd_sr1, rd_sr2], by rw [← hX]; simp (disch := omega) only [rd_hi, rd_mi, rd_hl, rd_ml, rd_hr, rd_mr, rd_si2, rd_sl1, rd_sl2, rd_sr1, rd_sr2], fun k hk => ?_⟩, ?_, iN_s h3 (fun c k u => e c k (by omega)), b, b', Pt_s h4 e2, ?_⟩
      · rw [e _ _ (by omega), e _ _ (by omega)]; exact t4 k (by omega)
      · rw [e _ _ (by omega), e _ _ (by omega)]; exact h2
      · rcases h5 with ⟨a1, a2, ⟨h, a3, a4⟩, ⟨a5, a6⟩, a7⟩ | ⟨h, P, F, ND, ⟨a1, a2, a3, a4, a5⟩, a6, a7⟩
        · exact .inl ⟨(e _ _ (by omega)).trans a1, (e _ _ (by omega)).trans a2, ⟨h, a3, (e _ _ (by omega)).trans a4⟩, ⟨(e _ _ (by omega)).trans a5, (e _ _ (by omega)).trans a6⟩, Nr_s a7 (fun c k u => e c k (by omega))⟩
        · exact .inr ⟨h, P, F, ND, ⟨a1, a2, PR_s a3 (fun c k u => e c k (by omega)), (e _ _ (by omega)).trans a4, (e _ _ (by omega)).trans a5⟩, Rw_s a6 (fun c k u => e c k (by omega)) (by rw [e2]), RU_s a7 (fun c k u => e c k (by omega)) (by rw [e2])⟩
    · exact (inl_ne c1 d1).elim
  · exact try_E c1 (if_pos rfl) (fin_E (k := 1) c2 (by simp (disch := omega) only [rd_hi, rd_mi, rd_hl, rd_ml, rd_hr, rd_mr, rd_si2, rd_sl1, rd_sl2, rd_sr1, rd_sr2]) (by omega) (Iv_1 hI'))
theorem H11 (a0 a1 : Int32) : pm_I Iv (fL_input a0 a1) (fX11_input a0 a1) := by
  intro M hI
  have hI' := hI
  obtain ⟨t0, h2, ⟨n, K, V, t1, t2, t3, t4⟩, b, b', h4, h5⟩ := hI
  have hb : b = 9 ∨ b = 24 := by have := h4.1; omega
  unfold fL_input
  rcases j_input (N := M) t1 t2 t3 a0 a1 with ⟨n40, m, m1, rfl, c1, _⟩ | ⟨c1, c2⟩ | ⟨c1, c2⟩
  · rcases j_input (N := mv_sl (mv_si (mv_si (mv_si M 48 n (nI m)) 49 n a1) 6 0 (nI (n + 1))) 106 0 (nI (n + 1)).toInt64) t1 t2 (show (mv_sl (mv_si (mv_si (mv_si M 48 n (nI m)) 49 n a1) 6 0 (nI (n + 1))) 106 0 (nI (n + 1)).toInt64).1 62 55 = nI n by simp (disch := omega) only [rd_hi, rd_mi, rd_hl, rd_ml, rd_hr, rd_mr, rd_si2, rd_sl1, rd_sl2, rd_sr1, rd_sr2]; exact t3) (nI m) a1 with ⟨_, m', m1', z, d1, d2⟩ | ⟨d1, _⟩ | ⟨d1, _⟩
    · rw [k_eq (by omega) (by omega)] at z
      subst z
      refine try_I c1 (fin_I d2 (by simp (disch := omega) only [rd_hi, rd_mi, rd_hl, rd_ml, rd_hr, rd_mr, rd_si2, rd_sl1, rd_sl2, rd_sr1, rd_sr2]) rfl ?_)
      generalize hX : mv_si (mv_si (mv_si (mv_si (mv_sl (mv_si (mv_si (mv_si M 48 n (nI m)) 49 n a1) 6 0 (nI (n + 1))) 106 0 (nI (n + 1)).toInt64) 62 0 (nI 0)) 92 n (nI m)) 93 n a1) 62 55 (nI (n + 1)) = X
      have e : ∀ c k, ¬ ((c = 6 ∧ k = 0) ∨ (c = 62 ∧ (k = 0 ∨ k = 55)) ∨ ((c = 48 ∨ c = 49 ∨ c = 92 ∨ c = 93) ∧ k = n)) → X.1 c k = M.1 c k := fun c k u => by rw [← hX]; simp (disch := omega) only [rd_hi, rd_mi, rd_hl, rd_ml, rd_hr, rd_mr, rd_si2, rd_sl1, rd_sl2, rd_sr1, rd_sr2]
      have e2 : X.2.2 = M.2.2 := by rw [← hX]; rfl
      refine ⟨tape_s t0 (fun c k u => e c k (by omega)), ?_, ⟨n + 1, fun i => if i = n then m else K i, fun i => if i = n then a1 else V i, by omega, by rw [← hX]; simp (disch := omega) only [rd_hi, rd_mi, rd_hl, rd_ml, rd_hr, rd_mr, rd_si2, rd_sl1, rd_sl2, rd_sr1, rd_sr2], by rw [← hX]; simp (disch := omega) only [rd_hi, rd_mi, rd_hl, rd_ml, rd_hr, rd_mr, rd_si2, rd_sl1, rd_sl2, rd_sr1, rd_sr2], fun i hi => ?_⟩, b, b', Pt_s h4 e2, ?_⟩
      · rw [e _ _ (by omega), e _ _ (by omega)]; exact h2
      · by_cases u : i = n
        · subst u
          simp only [if_true]
          refine ⟨m1, ⟨?_, ?_⟩, ?_, ?_⟩
          · rw [← hX]; simp (disch := omega) only [rd_hi, rd_mi, rd_hl, rd_ml, rd_hr, rd_mr, rd_si2, rd_sl1, rd_sl2, rd_sr1, rd_sr2]
          · rw [← hX]; simp (disch := omega) only [rd_hi, rd_mi, rd_hl, rd_ml, rd_hr, rd_mr, rd_si2, rd_sl1, rd_sl2, rd_sr1, rd_sr2]
          · rw [← hX]; simp (disch := omega) only [rd_hi, rd_mi, rd_hl, rd_ml, rd_hr, rd_mr, rd_si2, rd_sl1, rd_sl2, rd_sr1, rd_sr2]
          · rw [← hX]; simp (disch := omega) only [rd_hi, rd_mi, rd_hl, rd_ml, rd_hr, rd_mr, rd_si2, rd_sl1, rd_sl2, rd_sr1, rd_sr2]
        · simp only [u, if_false]
          obtain ⟨a1, ⟨a2, a3⟩, a4, a5⟩ := t4 i (by omega)
          exact ⟨a1, ⟨(e _ _ (by omega)).trans a2, (e _ _ (by omega)).trans a3⟩, (e _ _ (by omega)).trans a4, (e _ _ (by omega)).trans a5⟩
      · rcases h5 with ⟨a1, a2, ⟨h, a3, a4⟩, ⟨a5, a6⟩, a7⟩ | ⟨h, P, F, ND, ⟨a1, a2, a3, a4, a5⟩, a6, a7⟩
        · exact .inl ⟨(e _ _ (by omega)).trans a1, (e _ _ (by omega)).trans a2, ⟨h, a3, (e _ _ (by omega)).trans a4⟩, ⟨(e _ _ (by omega)).trans a5, (e _ _ (by omega)).trans a6⟩, Nr_s a7 (fun c k u => e c k (by omega))⟩
        · exact .inr ⟨h, P, F, ND, ⟨a1, a2, PR_s a3 (fun c k u => e c k (by omega)), (e _ _ (by omega)).trans a4, (e _ _ (by omega)).trans a5⟩, Rw_s a6 (fun c k u => e c k (by omega)) (by rw [e2]), RU_s a7 (fun c k u => e c k (by omega)) (by rw [e2])⟩
    · exact (inl_ne c1 d1).elim
    · exact (inl_ne c1 d1).elim
  · exact try_E c1 (if_pos rfl) (fin_E (k := 1) c2 (by simp (disch := omega) only [rd_hi, rd_mi, rd_hl, rd_ml, rd_hr, rd_mr, rd_si2, rd_sl1, rd_sl2, rd_sr1, rd_sr2]) (by omega) (Iv_1 hI'))
  · exact try_E c1 ((if_neg (by decide)).trans (if_pos rfl)) (fin_E (k := 2) c2 (by simp (disch := omega) only [rd_hi, rd_mi, rd_hl, rd_ml, rd_hr, rd_mr, rd_si2, rd_sl1, rd_sl2, rd_sr1, rd_sr2]) (by omega) (Iv_1 hI'))
theorem Iv_t (hI : Iv M) {w : Int64} (ht : rTl (mv_sl M 106 0 w) N') : Iv N' := Iv_s hI (fun c k u => (ht.2 c k (by unfold scr at u; omega)).trans rfl) (by rw [ht.1]; rfl)
theorem Iv_t0 (hI : Iv M) (ht : rTl M N') : Iv N' := Iv_s hI (fun c k u => ht.2 c k (by unfold scr at u; omega)) (by rw [ht.1])
theorem H13 (a0 : Int32) : pm_I Iv (fL_told a0) (fX11_told a0) := by
  intro M hI
  have hI' := hI
  obtain ⟨_, _, ⟨n, K, V, _, t2, t3, _⟩, b, b', h4, h5⟩ := hI
  have hU : ∃ P F, F ≤ 12 ∧ RU P F b M M := by
    rcases h5 with ⟨_, _, _, _, z⟩ | ⟨h, P, F, ND, p1, _, p3⟩
    · exact ⟨fun _ _ => 0, 0, by omega, .inl z⟩
    · exact ⟨P, F, p1.1.2.1, p3⟩
  obtain ⟨P, F, hF, hU⟩ := hU
  have e6 : M.1 6 0 = M.1 62 55 := by rw [t2, t3]
  unfold fL_told
  obtain ⟨N1, r1, r2⟩ := j_told hU hF e6 a0
  rcases r2 with ⟨v, c1, _⟩ | ⟨c1, c2, c3⟩
  · obtain ⟨N2, s1, s2⟩ := j_told (N := mv_sl M 106 0 v.toInt64) hU hF e6 a0
    rcases s2 with ⟨v', d1, d2, d3⟩ | ⟨d1, _⟩
    · have z := (inl_eq c1 d1).1
      subst z
      exact try_I c1 (fin_I d2 d3 (by rw [s1.1]) (Iv_t hI' s1))
    · exact (inl_ne c1 d1).elim
  · exact try_E c1 (if_pos rfl) (fin_E (k := 1) c2 c3 (by omega) (Iv_t0 hI' r1))
theorem H14 (a0 : Int32) : pm_I Iv (fL_result a0) (fX11_result a0) := by
  intro M hI
  have hI' := hI
  obtain ⟨_, _, _, b, b', h4, h5⟩ := hI
  unfold fL_result
  rcases h5 with ⟨_, _, _, _, z⟩ | ⟨h, P, F, ND, p1, _, p3⟩
  · obtain ⟨N', r1, r2, r3⟩ := res_no M a0
    have c1 : fX10_result a0 M = some (.inr mv_e3, M) := by
      have hn : fX2_hasNumber a0 M = some (0, M) := by
        unfold fX2_hasNumber
        rw [z.2.2.1, if_neg (by decide)]
      unfold fX10_result fX10_result_21
      by_cases u : a0 < 0
      · rw [if_pos u]; rfl
      · rw [if_neg u]
        by_cases u2 : 6 < a0
        · rw [if_pos u2]; rfl
        · rw [if_neg u2, hn, k_bs, if_pos rfl]; rfl
    refine try_E c1 (if_pos rfl) (fin_E (k := 1) (N' := N') (r := nI 0) ?_ r3 (by omega) (Iv_t0 hI' r1))
    unfold fX11_result fX11_result_32
    rw [z.2.1, if_pos (show nN = (-1 : Int32) from rfl)]
    exact r2
  · obtain ⟨N1, r1, r2⟩ := j_result (N := M) p1.1 p1.2.2.1 p3 a0
    rcases r2 with ⟨v, c1, _⟩ | ⟨c1, c2, c3⟩
    · obtain ⟨N2, s1, s2⟩ := j_result (N := mv_sl M 106 0 v.toInt64) p1.1 p1.2.2.1 p3 a0
      rcases s2 with ⟨v', d1, d2, d3⟩ | ⟨d1, _⟩
      · have z := (inl_eq c1 d1).1
        subst z
        exact try_I c1 (fin_I d2 d3 (by rw [s1.1]) (Iv_t hI' s1))
      · exact (inl_ne c1 d1).elim
    · exact try_E c1 (if_pos rfl) (fin_E (k := 1) c2 c3 (by omega) (Iv_t0 hI' r1))
theorem H15 (a0 : Int32) : pm_Z Iv (fL_needed a0) (fX11_needed a0) := by
  intro M hI
  have hI' := hI
  obtain ⟨_, _, _, b, b', h4, h5⟩ := hI
  have hb : b = 9 ∨ b = 24 := by have := h4.1; omega
  unfold fL_needed
  rcases h5 with ⟨_, _, _, _, z⟩ | ⟨h, P, F, ND, p1, _, p3⟩
  · refine try_E (M := M) (E := mv_e3) ?_ (if_pos rfl) (fin_E (k := 1) (M1 := M) (N' := mv_si M 62 0 (nI 1)) (r := 0) ?_ (by simp (disch := omega) only [rd_hi, rd_mi, rd_hl, rd_ml, rd_hr, rd_mr, rd_si2, rd_sl1, rd_sl2, rd_sr1, rd_sr2]) (by omega) (Iv_1 hI'))
    · unfold fX10_needed fX4_hasParam fX4_hasFunction
      rw [g07 hb h4.2.1, z.1, if_pos (show nN < (0 : Int32) by decide), k_bs, if_pos rfl, k_bs, if_pos rfl]
      rfl
    · unfold fX11_needed fX11_needed_25 fX11_needed_26
      rw [z.2.1, if_pos (show nN = (-1 : Int32) from rfl), k_lt', rd_hi ⟨rfl, rfl⟩, if_neg (by decide)]
      rfl
  · have e45 : M.1 62 45 ≠ 0 := by rw [p1.2.2.2.1]; decide
    obtain ⟨N1, r1, r2⟩ := j_needed (N := M) p1.1 p1.2.2.1 p3 e45 p1.2.2.2.2 h4.2.1 a0
    rcases r2 with ⟨v, v1, c1, _⟩ | ⟨c1, c2, c3⟩
    · obtain ⟨N2, s1, s2⟩ := j_needed (N := mv_sl M 106 0 (if v = 0 then 0 else 1)) p1.1 p1.2.2.1 p3 e45 p1.2.2.2.2 h4.2.1 a0
      rcases s2 with ⟨v', v1', d1, d2, d3⟩ | ⟨d1, _⟩
      · have z := (inl_eq c1 d1).1
        rw [k_eq (by omega) (by omega)] at z
        subst z
        rw [c1]
        show mv_ok (if nI v = (0 : Int32) then fL_needed_15 0 0 M else fL_needed_15 1 0 M) _
        rw [z_fw v1 (fun w => rfl)]
        exact fin_Z v1 rfl d2 d3 (by rw [s1.1]) (Iv_t hI' s1)
      · exact (inl_ne c1 d1).elim
    · exact try_E c1 (if_pos rfl) (fin_E (k := 1) c2 c3 (by omega) (Iv_t0 hI' r1))
end IW
