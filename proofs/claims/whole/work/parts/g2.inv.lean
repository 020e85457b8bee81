/-! WHAT HOLDS BETWEEN THE CALLS -/
def Pt (b b' : Nat) (M : mv_M) : Prop := ((b = 9 ∧ b' = 24) ∨ (b = 24 ∧ b' = 9)) ∧ M.2.2 0 7 = some b ∧ M.2.2 0 8 = some b'
def Rw (b h : Nat) (P : Nat → Nat → Nat) (F ND : Nat) (M : mv_M) : Prop := (M.1 5 0 = nI 0 ∧ M.1 62 46 = nI 0) ∨ (M.1 5 0 = nI 1 ∧ M.1 62 46 = nI 1 ∧ ∃ R, cT b h P F ND R M M ∧ rT b h P F ND R M M)
def Nr (M : mv_M) : Prop := M.1 7 1 = nN ∧ M.1 62 75 = nN ∧ M.1 7 2 = nI 0 ∧ M.1 7 3 = nI 0 ∧ M.1 8 0 = nI 0 ∧ M.1 8 1 = nI 0 ∧ M.1 7 4 = nI 0 ∧ M.1 7 5 = nI 0
/-- no program -/
def Np (b : Nat) (M : mv_M) : Prop := M.1 b 0 = nI 0 ∧ M.1 62 45 = nI 0 ∧ (∃ h, h ≤ 1 ∧ M.1 62 47 = nI h) ∧ (M.1 5 0 = nI 0 ∧ M.1 62 46 = nI 0) ∧ Nr M
def Yp (b h : Nat) (P : Nat → Nat → Nat) (F ND : Nat) (M : mv_M) : Prop := (WFp P F ND ∧ (WSc P F ∧ Hf h P F) ∧ PR b h P F ND M M ∧ M.1 62 45 = nI 1 ∧ M.1 62 47 = nI h) ∧ Rw b h P F ND M ∧ RU P F b M M
def Iv (M : mv_M) : Prop := pi_tape M ∧ M.1 1 1 = M.1 62 10 ∧ (∃ n K V, iN n K V M M) ∧ ∃ b b', Pt b b' M ∧ (Np b M ∨ ∃ h P F ND, Yp b h P F ND M)
def scr (c k : Nat) : Prop := c = 46 ∨ c = 47 ∨ (c = 5 ∧ k = 2) ∨ (81 ≤ c ∧ c ≤ 89) ∨ c = 94 ∨ (c = 62 ∧ (k = 0 ∨ k = 33 ∨ k = 36 ∨ k = 77 ∨ k = 78))
section IV
variable {b b' h F ND n : Nat} {P : Nat → Nat → Nat} {R : Nat → Nat → Option (Nat → Nat)} {K : Nat → Nat} {V : Nat → Int32} {M M' N M1 N' : mv_M} {v r : Int32} {Inv : mv_M → Prop}
theorem tape_s (hI : pi_tape M) (e : ∀ c k, c = 39 ∨ c = 63 ∨ (c = 2 ∧ k = 1) ∨ (c = 62 ∧ k = 2) → M'.1 c k = M.1 c k) : pi_tape M' := by
  obtain ⟨n, h1, h2, h3, h4⟩ := hI
  refine ⟨n, h1, (e _ _ (by omega)).trans h2, (e _ _ (by omega)).trans h3, fun k hk => ?_⟩
  rw [e 39 k (by omega), e 63 k (by omega)]
  exact h4 k hk
theorem iN_s (hI : ∃ n K V, iN n K V M M) (e : ∀ c k, c = 48 ∨ c = 49 ∨ c = 92 ∨ c = 93 ∨ (c = 6 ∧ k = 0) ∨ (c = 62 ∧ k = 55) → M'.1 c k = M.1 c k) : ∃ n K V, iN n K V M' M' := by
  obtain ⟨n, K, V, h1, h2, h3, h4⟩ := hI
  refine ⟨n, K, V, h1, (e _ _ (by omega)).trans h2, (e _ _ (by omega)).trans h3, fun i hi => ?_⟩
  obtain ⟨a1, ⟨a2, a3⟩, a4, a5⟩ := h4 i hi
  exact ⟨a1, ⟨(e _ _ (by omega)).trans a2, (e _ _ (by omega)).trans a3⟩, (e _ _ (by omega)).trans a4, (e _ _ (by omega)).trans a5⟩
theorem Pt_s (hI : Pt b b' M) (e : M'.2.2 = M.2.2) : Pt b b' M' := by
  obtain ⟨h1, h2, h3⟩ := hI
  exact ⟨h1, by rw [e]; exact h2, by rw [e]; exact h3⟩
theorem Nr_s (hI : Nr M) (e : ∀ c k, c = 7 ∨ c = 8 ∨ (c = 62 ∧ k = 75) → M'.1 c k = M.1 c k) : Nr M' := by
  obtain ⟨h1, h2, h3, h4, h5, h6, h7, h8⟩ := hI
  exact ⟨(e _ _ (by omega)).trans h1, (e _ _ (by omega)).trans h2, (e _ _ (by omega)).trans h3, (e _ _ (by omega)).trans h4, (e _ _ (by omega)).trans h5, (e _ _ (by omega)).trans h6, (e _ _ (by omega)).trans h7, (e _ _ (by omega)).trans h8⟩
theorem RU_s (hI : RU P F b M M) (e : ∀ c k, c = 7 ∨ c = 8 ∨ (50 ≤ c ∧ c ≤ 61) ∨ (c = 62 ∧ ((67 ≤ k ∧ k ≤ 70) ∨ k = 73 ∨ k = 75 ∨ k = 76 ∨ k = 79 ∨ k = 80)) ∨ (95 ≤ c ∧ c ≤ 104) → M'.1 c k = M.1 c k) (e2 : M'.2.2 7 6 = M.2.2 7 6) : RU P F b M' M' := by
  rcases hI with h | ⟨q, h⟩
  · exact .inl (Nr_s h (fun c k u => e c k (by omega)))
  · exact .inr ⟨q, RN_s h (fun a p u => e a p (by omega)) e2 (fun a p u => e a p (by omega))⟩
theorem rowR_F (hr : rowR P F R M) (e : ∀ a p, a = 90 ∨ a = 91 → M'.1 a p = M.1 a p) : rowR P F R M' := by
  intro q hq d h0 h1
  obtain ⟨r1, r2⟩ := hr q hq d h0 h1
  exact ⟨fun z => (e 91 _ (by omega)).trans (r1 z), fun r z => ⟨(e 91 _ (by omega)).trans (r2 r z).1, fun k hk => (e 90 _ (by omega)).trans ((r2 r z).2 k hk)⟩⟩
theorem PR_s (hp : PR b h P F ND M M) (e : ∀ c k, (9 ≤ c ∧ c ≤ 37) ∨ (65 ≤ c ∧ c ≤ 79) → M'.1 c k = M.1 c k) : PR b h P F ND M' M' := PR_F hp (fun c k u1 u2 => e c k (by have := hp.1; omega)) (fun c k u1 u2 => e c k (by omega))
theorem Rw_s (hI : Rw b h P F ND M) (e : ∀ c k, (9 ≤ c ∧ c ≤ 37) ∨ (65 ≤ c ∧ c ≤ 79) ∨ c = 44 ∨ c = 45 ∨ c = 90 ∨ c = 91 ∨ (c = 5 ∧ k = 0) ∨ (c = 62 ∧ (k = 46 ∨ k = 47)) → M'.1 c k = M.1 c k) (e2 : M'.2.2 5 1 = M.2.2 5 1) : Rw b h P F ND M' := by
  rcases hI with ⟨h1, h2⟩ | ⟨h1, h2, R, ⟨c1, c2, c3, c4, c5⟩, ⟨d1, d2, d3, d4, d5⟩⟩
  · exact .inl ⟨(e _ _ (by omega)).trans h1, (e _ _ (by omega)).trans h2⟩
  · have hp' := PR_s c3 (fun c k u => e c k (by omega))
    exact .inr ⟨(e _ _ (by omega)).trans h1, (e _ _ (by omega)).trans h2, R, ⟨c1, c2, hp', e2.trans c4, rowC_F c5 (fun a p u => e a p (by omega))⟩, ⟨d1, d2, hp', (e _ _ (by omega)).trans d4, rowR_F d5 (fun a p u => e a p (by omega))⟩⟩
/-- scratch cells alone -/
theorem Iv_s (hI : Iv M) (e : ∀ c k, ¬ scr c k → M'.1 c k = M.1 c k) (e2 : M'.2.2 = M.2.2) : Iv M' := by
  obtain ⟨h1, h2, h3, b, b', h4, h5⟩ := hI
  have hb : b = 9 ∨ b = 24 := by have := h4.1; omega
  refine ⟨tape_s h1 (fun c k u => e c k (by unfold scr; omega)), ?_, iN_s h3 (fun c k u => e c k (by unfold scr; omega)), b, b', Pt_s h4 e2, ?_⟩
  · rw [e _ _ (by unfold scr; omega), e _ _ (by unfold scr; omega)]; exact h2
  · rcases h5 with ⟨a1, a2, ⟨h, a3, a4⟩, ⟨a5, a6⟩, a7⟩ | ⟨h, P, F, ND, ⟨a1, a2, a3, a4, a5⟩, a6, a7⟩
    · exact .inl ⟨(e _ _ (by unfold scr; omega)).trans a1, (e _ _ (by unfold scr; omega)).trans a2, ⟨h, a3, (e _ _ (by unfold scr; omega)).trans a4⟩, ⟨(e _ _ (by unfold scr; omega)).trans a5, (e _ _ (by unfold scr; omega)).trans a6⟩, Nr_s a7 (fun c k u => e c k (by unfold scr; omega))⟩
    · exact .inr ⟨h, P, F, ND, ⟨a1, a2, PR_s a3 (fun c k u => e c k (by unfold scr; omega)), (e _ _ (by unfold scr; omega)).trans a4, (e _ _ (by unfold scr; omega)).trans a5⟩, Rw_s a6 (fun c k u => e c k (by unfold scr; omega)) (by rw [e2]), RU_s a7 (fun c k u => e c k (by unfold scr; omega)) (by rw [e2])⟩
-- ends of a call
theorem fin_I {fm : mv_M → Option (Int32 × mv_M)} (h2 : fm (mv_sl M1 106 0 v.toInt64) = some (v, N')) (h3 : N'.1 62 0 = nI 0) (h4 : N'.2.1 = (mv_sl M1 106 0 v.toInt64).2.1) (h5 : Inv N') : mv_ok (fm (mv_sl M1 106 0 v.toInt64)) (fun r M2 => M2.1 62 0 = 0 ∧ ((0 : Int32) = 0 → M2.2.1 106 0 = r.toInt64) ∧ Inv M2) := by
  rw [h2]
  exact ⟨h3, fun _ => by rw [h4]; rfl, h5⟩
theorem fin_E {fm : mv_M → Option (Int32 × mv_M)} {k : Nat} {W : Int32 → mv_M → Prop} (h2 : fm M1 = some (r, N')) (h3 : N'.1 62 0 = nI k) (hk : 0 < k ∧ k < 10) (h5 : Inv N') : mv_ok (fm M1) (fun r M2 => M2.1 62 0 = nI k ∧ (nI k = (0 : Int32) → W r M2) ∧ Inv M2) := by
  rw [h2]
  exact ⟨h3, fun z => by rw [kM, k_eq (by omega) (by omega)] at z; omega, h5⟩
theorem fin_Z {fm : mv_M → Option (Int32 × mv_M)} {v : Nat} {w : Int64} (hv : v ≤ 1) (hw : w = if v = 0 then 0 else 1) (h2 : fm (mv_sl M1 106 0 w) = some (nI v, N')) (h3 : N'.1 62 0 = nI 0) (h4 : N'.2.1 = (mv_sl M1 106 0 w).2.1) (h5 : Inv N') : mv_ok (fm (mv_sl M1 106 0 w)) (fun r M2 => M2.1 62 0 = 0 ∧ ((0 : Int32) = 0 → M2.2.1 106 0 = if r = 0 then 0 else 1) ∧ Inv M2) := by
  rw [h2]
  refine ⟨h3, fun _ => ?_, h5⟩
  rw [h4, show (mv_sl M1 106 0 w).2.1 106 0 = w from rfl, hw]
  rcases (show v = 0 ∨ v = 1 by omega) with rfl | rfl <;> rfl
theorem Iv_0 (hI : Iv M) {w : Int64} {x : Int32} : Iv (mv_si (mv_sl M 106 0 w) 62 0 x) := Iv_s hI (fun c k u => by unfold scr at u; simp (disch := omega) only [rd_hi, rd_mi, rd_hl, rd_ml, rd_hr, rd_mr, rd_si2, rd_sl1, rd_sl2, rd_sr1, rd_sr2]) rfl
theorem Iv_1 (hI : Iv M) {x : Int32} : Iv (mv_si M 62 0 x) := Iv_s hI (fun c k u => by unfold scr at u; simp (disch := omega) only [rd_hi, rd_mi, rd_hl, rd_ml, rd_hr, rd_mr, rd_si2, rd_sl1, rd_sl2, rd_sr1, rd_sr2]) rfl
/-- a boolean answer out of the class -/
theorem z_fw {v : Nat} (hv : v ≤ 1) {f16 : Int64 → Int32 → mv_M → Option (Int32 × mv_M)} (hf : ∀ w, f16 w 0 M = some (0, mv_sl M 106 0 w)) : (if nI v = (0 : Int32) then f16 0 0 M else f16 1 0 M) = some (0, mv_sl M 106 0 (if v = 0 then 0 else 1)) := by
  rcases (show v = 0 ∨ v = 1 by omega) with rfl | rfl
  · rw [if_pos (by decide), hf]; rfl
  · rw [if_neg (by decide), hf]; rfl
theorem H3 : pm_N Iv fX10_place fX11_place := by
  intro M hI
  unfold fX10_place
  refine ok_some ?_
  unfold fX11_place
  rw [k_lt']
  refine ok_some ⟨?_, Iv_1 hI⟩
  rw [rd_mi (by omega)]
  exact hI.2.1
theorem try_E {α β : Type} {o : Option ((α ⊕ String) × mv_M)} {f : α → mv_M → Option (β × mv_M)} {g : String → mv_M → Option (β × mv_M)} {Q : β → mv_M → Prop} {E : String} {k : β} (h : o = some (.inr E, M)) (hg : g E M = some (k, M)) (hq : Q k M) : mv_ok (mv_tryx o f g) Q := by
  rw [h]
  show mv_ok (g E M) Q
  rw [hg]
  exact hq
theorem try_I {o : Option ((Int32 ⊕ String) × mv_M)} {g : String → mv_M → Option (Int32 × mv_M)} {Q : Int32 → mv_M → Prop} (h : o = some (.inl v, M1)) (hq : Q 0 (mv_sl M1 106 0 v.toInt64)) : mv_ok (mv_tryx o (fun r3 M2 => mv_let (mv_sl M2 106 (0 : Int32).toNatClampNeg (r3.toInt64)) fun M8 => some ((0 : Int32), M8)) g) Q := by
  rw [h]
  exact hq
theorem H4 (a0 a1 : Int32) : pm_I Iv (fL_function a0 a1) (fX11_function a0 a1) := by
  intro M hI
  have hI' := hI
  obtain ⟨_, _, _, b, b', h4, h5⟩ := hI
  have hb : b = 9 ∨ b = 24 := by have := h4.1; omega
  unfold fL_function
  rcases h5 with ⟨a1', a2, _⟩ | ⟨h, P, F, ND, ⟨p1, p2, p3, p4, p5⟩, _⟩
  · have c : fX10_function a0 a1 M = some (.inr mv_e3, M) := by
      unfold fX10_function fX4_hasFunction
      rw [g07 hb h4.2.1, a1']
      by_cases u : a0 < 0
      · rw [if_pos u, k_bs, if_pos rfl]; rfl
      · rw [if_neg u, if_pos (show nI 0 ≤ a0 from Int32.not_lt.mp u), k_bs, if_pos rfl]; rfl
    refine try_E c (if_pos rfl) (fin_E (k := 1) (N' := mv_si M 62 0 (nI 1)) (r := 0) ?_ (by simp (disch := omega) only [rd_hi, rd_mi, rd_hl, rd_ml, rd_hr, rd_mr, rd_si2, rd_sl1, rd_sl2, rd_sr1, rd_sr2]) (by omega) (Iv_1 hI'))
    unfold fX11_function fX11_isFn fX11_function_53 fX11_function_54
    rw [k_lt', a2, if_pos (by decide), k_bs, if_pos rfl]
    simp (disch := omega) only [↓reduceIte, k_iT, k_iF, Bool.false_eq_true, eq_self, Nat.add_zero, k_lt', k_bs, k_T, k_F, k_inb, k_ck, k_nz, ↓kN, kL, k_lt, k_le, k_eq, kn_le, kn_lt, kn_eq, kn_le', kn_lt', kn_eq', nI_clamp, nI_add, k_sub, k_mul, k_div, rd_hi, rd_mi, rd_hl, rd_ml, rd_hr, rd_mr, rd_si2, rd_sl1, rd_sl2, rd_sr1, rd_sr2]
  · have e45 : M.1 62 45 ≠ 0 := by rw [p4]; decide
    rcases j_func (N := M) p1 p3 e45 p5 h4.2.1 a0 a1 with ⟨v, c1, _⟩ | ⟨c1, c2⟩
    · rcases j_func (N := mv_sl M 106 0 v.toInt64) p1 p3 e45 p5 h4.2.1 a0 a1 with ⟨v', d1, d2⟩ | ⟨d1, d2⟩
      · rw [c1] at d1
        injection d1 with d1; injection d1 with d1 _; injection d1 with d1
        subst d1
        exact try_I c1 (fin_I d2 (by simp (disch := omega) only [rd_hi, rd_mi, rd_hl, rd_ml, rd_hr, rd_mr, rd_si2, rd_sl1, rd_sl2, rd_sr1, rd_sr2]) rfl (Iv_0 hI'))
      · rw [c1] at d1
        injection d1 with d1; injection d1 with d1 _; cases d1
    · exact try_E c1 (if_pos rfl) (fin_E (k := 1) c2 (by simp (disch := omega) only [rd_hi, rd_mi, rd_hl, rd_ml, rd_hr, rd_mr, rd_si2, rd_sl1, rd_sl2, rd_sr1, rd_sr2]) (by omega) (Iv_1 hI'))
end IV
