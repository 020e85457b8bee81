/-! ASKING by the reference: tasks and sheets -/
noncomputable def jV (x y z w : Int32) : Int32 := (jn_any x y z w).choose
theorem jV_eq (x y z w : Int32) (M : mv_M) : fX11_joined x y z w M = some (jV x y z w, M) := (jn_any x y z w).choose_spec M
def pG (a : Nat) (M : mv_M) (q n : Nat) (w : Nat → Int32) : mv_M := (fun c p => if c = a ∧ q ≤ p ∧ p < q + n then w (p - q) else M.1 c p, M.2)
section RA
variable {b h F ND f a q n i k c d lv lv' t t' p g nn : Nat} {M N N' N1 N2 N3 : mv_M} {P : Nat → Nat → Nat} {R : Nat → Nat → Option (Nat → Nat)} {ty u y : Nat → Nat} {w : Nat → Int32} {X Y Z : Option (Nat → Nat)} {op nd v to : Int32}
theorem pG_0 : pG a M q 0 w = M := by
  refine Prod.ext ?_ rfl
  funext c p
  show (if c = a ∧ q ≤ p ∧ p < q + 0 then _ else _) = _
  rw [if_neg (by omega)]
theorem pG_s : mv_si (pG a M q n w) a (q + n) (w n) = pG a M q (n + 1) w := by
  refine Prod.ext ?_ rfl
  funext c p
  show (if c = a ∧ p = q + n then _ else (if c = a ∧ q ≤ p ∧ p < q + n then _ else _)) = (if c = a ∧ q ≤ p ∧ p < q + (n + 1) then _ else _)
  by_cases h1 : c = a ∧ p = q + n
  · rw [if_pos h1, if_pos (by omega), show p - q = n by omega]
  · rw [if_neg h1]
    by_cases h2 : c = a ∧ q ≤ p ∧ p < q + n
    · rw [if_pos h2, if_pos (by omega)]
    · rw [if_neg h2, if_neg (by omega)]
theorem pG_in (hk : k < n) : (pG a M q n w).1 a (q + k) = w k := by
  show (if a = a ∧ q ≤ q + k ∧ q + k < q + n then _ else _) = _
  rw [if_pos (by omega), show q + k - q = k by omega]
theorem pG_out {c p : Nat} (hk : ¬ (c = a ∧ q ≤ p ∧ p < q + n)) : (pG a M q n w).1 c p = M.1 c p := if_neg hk
/-- outside tasks and sheets nothing changes -/
def aC (a p : Nat) : Prop := (a = 62 ∧ p = 36) ∨ a = 81 ∨ a = 82 ∨ a = 85 ∨ a = 87 ∨ a = 88 ∨ a = 89
def aF (N0 N : mv_M) : Prop := N.2 = N0.2 ∧ ∀ a p, ¬ aC a p → N.1 a p = N0.1 a p
/-- tasks below t and sheets below level lv stand -/
def kL2 (t lv : Nat) (N0 N : mv_M) : Prop := aF N0 N ∧ (∀ a p, a = 81 ∨ a = 82 ∨ a = 85 ∨ a = 87 → p < t → N.1 a p = N0.1 a p) ∧ (∀ p, p < 16 * lv → N.1 88 p = N0.1 88 p) ∧ ∀ p, p < lv → N.1 89 p = N0.1 89 p
theorem kL2_rf : kL2 t lv N N := ⟨⟨rfl, fun _ _ _ => rfl⟩, fun _ _ _ _ => rfl, fun _ _ => rfl, fun _ _ => rfl⟩
theorem kL2_tr (h1 : kL2 t lv N N1) (h2 : kL2 t' lv' N1 N2) (ht : t ≤ t') (hl : lv ≤ lv') : kL2 t lv N N2 := ⟨⟨h2.1.1.trans h1.1.1, fun a p u => (h2.1.2 a p u).trans (h1.1.2 a p u)⟩, fun a p ha hp => (h2.2.1 a p ha (by omega)).trans (h1.2.1 a p ha hp), fun p hp => (h2.2.2.1 p (by omega)).trans (h1.2.2.1 p hp), fun p hp => (h2.2.2.2 p (by omega)).trans (h1.2.2.2 p hp)⟩
theorem kL2_le (h1 : kL2 t' lv' N N1) (ht : t ≤ t') (hl : lv ≤ lv') : kL2 t lv N N1 := kL2_tr kL2_rf h1 ht hl
theorem kL2_si (hc : (a = 62 ∧ p = 36) ∨ ((a = 81 ∨ a = 82 ∨ a = 85 ∨ a = 87) ∧ t ≤ p) ∨ (a = 88 ∧ 16 * lv ≤ p) ∨ (a = 89 ∧ lv ≤ p)) : kL2 t lv N (mv_si N a p v) := by
  refine ⟨⟨rfl, fun a' p' u => ?_⟩, fun a' p' ha hp => ?_, fun p' hp => ?_, fun p' hp => ?_⟩
  · unfold aC at u; exact rd_mi (by omega)
  · exact rd_mi (by omega)
  · exact rd_mi (by omega)
  · exact rd_mi (by omega)
theorem kL2_pG (hq : 16 * lv ≤ q) : kL2 t lv N (pG 88 N q n w) := ⟨⟨rfl, fun a p u => pG_out (by unfold aC at u; omega)⟩, fun a p ha hp => pG_out (by omega), fun p hp => pG_out (by omega), fun p hp => pG_out (by omega)⟩
/-- the rows of the reference -/
def rowR (P : Nat → Nat → Nat) (F : Nat) (R : Nat → Nat → Option (Nat → Nat)) (N : mv_M) : Prop := ∀ q, q < F → ∀ d, 0 < d → d < dem (P 11 q) → (R q d = none → N.1 91 (26 * q + d) = nI 1) ∧ ∀ r, R q d = some r → N.1 91 (26 * q + d) = nI 0 ∧ ∀ k, k < P 9 q → N.1 90 (4 * (26 * q + d) + k) = nI (r k)
def aS (b h : Nat) (P : Nat → Nat → Nat) (F ND f : Nat) (R : Nat → Nat → Option (Nat → Nat)) (M N : mv_M) : Prop := WFp P F ND ∧ rOK P F R ∧ f < F ∧ PR b h P F ND M N ∧ N.1 62 33 = nI (12 * h + f) ∧ rowR P F R N
theorem aS_F (hs : aS b h P F ND f R M N) (hf : aF N N') : aS b h P F ND f R M N' := by
  obtain ⟨s1, s2, s3, s4, s5, s6⟩ := hs
  have e : ∀ a p, ¬ aC a p → N'.1 a p = N.1 a p := hf.2
  refine ⟨s1, s2, s3, PR_F s4 (fun _ _ _ _ => rfl) (fun c k u1 u2 => e c k (by unfold aC; omega)), (e _ _ (by unfold aC; omega)).trans s5, ?_⟩
  intro q hq d h0 h1
  obtain ⟨r1, r2⟩ := s6 q hq d h0 h1
  exact ⟨fun z => (e 91 _ (by unfold aC; omega)).trans (r1 z), fun r z => ⟨(e 91 _ (by unfold aC; omega)).trans (r2 r z).1, fun k hk => (e 90 _ (by unfold aC; omega)).trans ((r2 r z).2 k hk)⟩⟩
/-- a task -/
def tk (N : mv_M) (t : Nat) (op nd v to : Int32) : Prop := N.1 81 t = op ∧ N.1 82 t = nd ∧ N.1 87 t = v ∧ N.1 85 t = to
def aP (N : mv_M) (t : Nat) (op nd v to : Int32) : mv_M := mv_si (mv_si (mv_si (mv_si (mv_si N 87 t v) 85 t to) 81 t op) 82 t nd) 62 36 (nI (t + 1))
theorem a_asking (h36 : N.1 62 36 = nI t) (ht : t < 3000) (hl : lv ≤ 490) : fX11_asking op nd v (nI (16 * lv)) N = some ((), aP N t op nd v (nI (16 * lv))) := by
  unfold fX11_asking fX11_task fX11_push aP
  simp (disch := omega) only [h36, k_iT, k_iF, Bool.false_eq_true, eq_self, Nat.add_zero, k_lt', k_bs, k_T, k_F, k_inb, k_ck, k_nz, ↓kN, kL, k_lt, k_le, k_eq, kn_le, kn_lt, kn_eq, kn_le', kn_lt', kn_eq', nI_clamp, nI_add, k_sub, k_mul, k_div, rd_hi, rd_mi, rd_hl, rd_ml, rd_hr, rd_mr, rd_si2, rd_sl1, rd_sl2, rd_sr1, rd_sr2]
theorem aP_36 : (aP N t op nd v to).1 62 36 = nI (t + 1) := by unfold aP; simp (disch := omega) only [rd_hi, rd_mi, rd_hl, rd_ml, rd_hr, rd_mr, rd_si2, rd_sl1, rd_sl2, rd_sr1, rd_sr2]
theorem aP_top : tk (aP N t op nd v to) t op nd v to := by
  unfold aP
  exact ⟨by simp (disch := omega) only [rd_hi, rd_mi, rd_hl, rd_ml, rd_hr, rd_mr, rd_si2, rd_sl1, rd_sl2, rd_sr1, rd_sr2], by simp (disch := omega) only [rd_hi, rd_mi, rd_hl, rd_ml, rd_hr, rd_mr, rd_si2, rd_sl1, rd_sl2, rd_sr1, rd_sr2], by simp (disch := omega) only [rd_hi, rd_mi, rd_hl, rd_ml, rd_hr, rd_mr, rd_si2, rd_sl1, rd_sl2, rd_sr1, rd_sr2], by simp (disch := omega) only [rd_hi, rd_mi, rd_hl, rd_ml, rd_hr, rd_mr, rd_si2, rd_sl1, rd_sl2, rd_sr1, rd_sr2]⟩
theorem aP_L : kL2 t lv N (aP N t op nd v to) := by
  unfold aP
  exact kL2_tr (kL2_tr (kL2_tr (kL2_tr (kL2_si (by omega)) (kL2_si (by omega)) (Nat.le_refl _) (Nat.le_refl _)) (kL2_si (by omega)) (Nat.le_refl _) (Nat.le_refl _)) (kL2_si (by omega)) (Nat.le_refl _) (Nat.le_refl _)) (kL2_si (by omega)) (Nat.le_refl _) (Nat.le_refl _)
theorem aP_s (c' p' : Nat) (hc : c' = 88 ∨ c' = 89 ∨ (c' ≥ 63 ∧ c' ≤ 80)) : (aP N t op nd v to).1 c' p' = N.1 c' p' := by unfold aP; simp (disch := omega) only [rd_hi, rd_mi, rd_hl, rd_ml, rd_hr, rd_mr, rd_si2, rd_sl1, rd_sl2, rd_sr1, rd_sr2]
theorem tk_L (h1 : tk N p op nd v to) (h2 : kL2 t lv N N') (hp : p < t) : tk N' p op nd v to := ⟨(h2.2.1 81 p (.inl rfl) hp).trans h1.1, (h2.2.1 82 p (by omega) hp).trans h1.2.1, (h2.2.1 87 p (by omega) hp).trans h1.2.2.1, (h2.2.1 85 p (by omega) hp).trans h1.2.2.2⟩
/-- the sheet at level lv -/
def aK (nn lv : Nat) (X : Option (Nat → Nat)) (N : mv_M) : Prop := (X = none ∧ N.1 89 lv = nI 1) ∨ ∃ x, X = some x ∧ N.1 89 lv = nI 0 ∧ ∀ n, n < nn → N.1 88 (16 * lv + n) = nI (x n)
theorem aK_cg (hK : aK nn lv X N) (h1 : rsame nn X Y) : aK nn lv Y N := by
  rcases hK with ⟨rfl, e⟩ | ⟨x, rfl, e, ex⟩
  · rcases h1 with ⟨_, rfl⟩ | ⟨x, y, e1, _⟩
    · exact .inl ⟨rfl, e⟩
    · cases e1
  · rcases h1 with ⟨e1, _⟩ | ⟨x', y, e1, rfl, ey⟩
    · cases e1
    · cases e1
      exact .inr ⟨y, rfl, e, fun n hn => by rw [← ey n hn]; exact ex n hn⟩
theorem aK_e (hK : aK nn lv X N) (h8 : ∀ n, n < nn → N'.1 88 (16 * lv + n) = N.1 88 (16 * lv + n)) (h9 : N'.1 89 lv = N.1 89 lv) : aK nn lv X N' := by
  rcases hK with ⟨rfl, e⟩ | ⟨x, rfl, e, ex⟩
  · exact .inl ⟨rfl, h9.trans e⟩
  · exact .inr ⟨x, rfl, h9.trans e, fun n hn => (h8 n hn).trans (ex n hn)⟩
theorem aK_up (hK : aK nn lv X N) (hL : kL2 t (lv + 1) N N') (hn : nn ≤ 16) : aK nn lv X N' := aK_e hK (fun n h0 => hL.2.2.1 _ (by omega)) (hL.2.2.2 _ (by omega))
theorem aK_P (hK : aK nn lv X N) : aK nn lv X (aP N t op nd v to) := aK_e hK (fun n h0 => aP_s _ _ (by omega)) (aP_s _ _ (by omega))
/-- what a join writes -/
noncomputable def jW (N : mv_M) (w fx fy lv tb : Nat) (i : Nat) : Int32 := if w = 0 ∧ fx ≠ 0 then N.1 88 (16 * lv + 16 + i) else if w = 0 ∧ fy ≠ 0 then N.1 88 (16 * lv + i) else jV (N.1 70 (tb + i)) (N.1 88 (16 * lv + i)) (N.1 88 (16 * lv + 16 + i)) (nI w)
theorem a_join {w fx fy : Nat} (hs : aS b h P F ND f R M N) (hl : lv + 1 < 490) (hw : w ≤ 1) (hx : fx ≤ 1) (hy : fy ≤ 1) (e0 : N.1 89 lv = nI fx) (e1 : N.1 89 (lv + 1) = nI fy) : fX11_join (nI (16 * lv)) (nI w) N = some ((), mv_si (pG 88 N (16 * lv) (P 10 f) (jW N w fx fy lv (16 * (12 * h + f)))) 89 lv (nI (if w = 0 then fx * fy else 1 - (1 - fx) * (1 - fy)))) := by
  have hn := (hs.1.2.2.2 f hs.2.2.1).2.2.1
  have hF := hs.1.2.1
  have hf := hs.2.2.1
  have hh := hs.2.2.2.1.2.1
  generalize ew : jW N w fx fy lv (16 * (12 * h + f)) = W
  have ew' : ∀ m, W m = jW N w fx fy lv (16 * (12 * h + f)) m := fun m => by rw [← ew]
  have v0 : vp_nar .boolean (nI 0) = nI 0 := vp0
  have v1 : vp_nar .boolean (nI 1) = nI 1 := vp1
  have dv : 16 * lv / 16 = lv := by omega
  have key : ∀ j i, i + j = P 10 f → fX11_join_26 (nI (16 * lv)) (nI w) (nI fx) (nI fy) (nI i) (pG 88 N (16 * lv) i W) = some ((), mv_si (pG 88 N (16 * lv) (P 10 f) W) 89 lv (nI (if w = 0 then fx * fy else 1 - (1 - fx) * (1 - fy)))) := by
    intro j
    induction j with
    | zero =>
      intro i hi
      have hs' := aS_F hs (kL2_pG (t := 0) (lv := lv) (N := N) (n := i) (w := W) (Nat.le_refl _)).1
      have e33 := hs'.2.2.2.2.1
      have e67 := (hs'.2.2.2.1.2.2.2.2.2 f hf).2.1.2.1
      obtain rfl : i = P 10 f := by omega
      unfold fX11_join_26
      refine lp_out ?_
      unfold gX11_join_26 fX11_join_172 fX11_join_151 fX11_join_173
      by_cases w0 : w = 0
      · by_cases x0 : fx = 0
        · subst w0; subst x0
          simp (disch := omega) only [e33, e67, dv, v0, k_iT, k_iF, Bool.false_eq_true, eq_self, Nat.add_zero, k_lt', k_bs, k_T, k_F, k_inb, k_ck, k_nz, ↓kN, kL, k_lt, k_le, k_eq, kn_le, kn_lt, kn_eq, kn_le', kn_lt', kn_eq', nI_clamp, nI_add, k_sub, k_mul, k_div, rd_hi, rd_mi, rd_hl, rd_ml, rd_hr, rd_mr, rd_si2, rd_sl1, rd_sl2, rd_sr1, rd_sr2]
          simp only [Nat.zero_mul, mv_inr]
        · obtain rfl : fx = 1 := by omega
          by_cases y0 : fy = 0
          · subst w0; subst y0
            simp (disch := omega) only [e33, e67, dv, v0, k_iT, k_iF, Bool.false_eq_true, eq_self, Nat.add_zero, k_lt', k_bs, k_T, k_F, k_inb, k_ck, k_nz, ↓kN, kL, k_lt, k_le, k_eq, kn_le, kn_lt, kn_eq, kn_le', kn_lt', kn_eq', nI_clamp, nI_add, k_sub, k_mul, k_div, rd_hi, rd_mi, rd_hl, rd_ml, rd_hr, rd_mr, rd_si2, rd_sl1, rd_sl2, rd_sr1, rd_sr2]
            simp only [Nat.mul_zero, mv_inr]
          · obtain rfl : fy = 1 := by omega
            subst w0
            simp (disch := omega) only [e33, e67, dv, v1, k_iT, k_iF, Bool.false_eq_true, eq_self, Nat.add_zero, k_lt', k_bs, k_T, k_F, k_inb, k_ck, k_nz, ↓kN, kL, k_lt, k_le, k_eq, kn_le, kn_lt, kn_eq, kn_le', kn_lt', kn_eq', nI_clamp, nI_add, k_sub, k_mul, k_div, rd_hi, rd_mi, rd_hl, rd_ml, rd_hr, rd_mr, rd_si2, rd_sl1, rd_sl2, rd_sr1, rd_sr2]
            simp only [Nat.mul_one, mv_inr]
      · obtain rfl : w = 1 := by omega
        by_cases x0 : fx = 0
        · by_cases y0 : fy = 0
          · subst x0; subst y0
            simp (disch := omega) only [e33, e67, dv, v0, k_iT, k_iF, Bool.false_eq_true, eq_self, Nat.add_zero, k_lt', k_bs, k_T, k_F, k_inb, k_ck, k_nz, ↓kN, kL, k_lt, k_le, k_eq, kn_le, kn_lt, kn_eq, kn_le', kn_lt', kn_eq', nI_clamp, nI_add, k_sub, k_mul, k_div, rd_hi, rd_mi, rd_hl, rd_ml, rd_hr, rd_mr, rd_si2, rd_sl1, rd_sl2, rd_sr1, rd_sr2]
            simp only [Nat.mul_one, Nat.sub_zero, Nat.sub_self, mv_inr]
          · obtain rfl : fy = 1 := by omega
            subst x0
            simp (disch := omega) only [e33, e67, dv, v1, k_iT, k_iF, Bool.false_eq_true, eq_self, Nat.add_zero, k_lt', k_bs, k_T, k_F, k_inb, k_ck, k_nz, ↓kN, kL, k_lt, k_le, k_eq, kn_le, kn_lt, kn_eq, kn_le', kn_lt', kn_eq', nI_clamp, nI_add, k_sub, k_mul, k_div, rd_hi, rd_mi, rd_hl, rd_ml, rd_hr, rd_mr, rd_si2, rd_sl1, rd_sl2, rd_sr1, rd_sr2]
            simp only [Nat.mul_zero, Nat.sub_zero, Nat.sub_self, mv_inr]
        · obtain rfl : fx = 1 := by omega
          simp (disch := omega) only [e33, e67, dv, v1, k_iT, k_iF, Bool.false_eq_true, eq_self, Nat.add_zero, k_lt', k_bs, k_T, k_F, k_inb, k_ck, k_nz, ↓kN, kL, k_lt, k_le, k_eq, kn_le, kn_lt, kn_eq, kn_le', kn_lt', kn_eq', nI_clamp, nI_add, k_sub, k_mul, k_div, rd_hi, rd_mi, rd_hl, rd_ml, rd_hr, rd_mr, rd_si2, rd_sl1, rd_sl2, rd_sr1, rd_sr2]
          simp only [Nat.zero_mul, Nat.sub_zero, Nat.sub_self, mv_inr]
    | succ j ih =>
      intro i hi
      have hs' := aS_F hs (kL2_pG (t := 0) (lv := lv) (N := N) (n := i) (w := W) (Nat.le_refl _)).1
      have e33 := hs'.2.2.2.2.1
      have e67 := (hs'.2.2.2.1.2.2.2.2.2 f hf).2.1.2.1
      have h1 := ih (i + 1) (by omega)
      have r1 : (pG 88 N (16 * lv) i W).1 88 (16 * lv + i) = N.1 88 (16 * lv + i) := pG_out (by omega)
      have r2 : (pG 88 N (16 * lv) i W).1 88 (16 * lv + 16 + i) = N.1 88 (16 * lv + 16 + i) := pG_out (by omega)
      have r3 : (pG 88 N (16 * lv) i W).1 70 (16 * (12 * h + f) + i) = N.1 70 (16 * (12 * h + f) + i) := pG_out (by omega)
      unfold fX11_join_26 at h1 ⊢
      refine Eq.trans (lp_go (s' := (nI (16 * lv), nI w, nI fx, nI fy, nI (i + 1))) (M' := pG 88 N (16 * lv) (i + 1) W) ?_) h1
      unfold gX11_join_26 fX11_join_86 fX11_join_100 fX11_join_123
      rw [← pG_s, ew' i]
      unfold jW
      by_cases w0 : w = 0
      · by_cases x0 : fx = 0
        · by_cases y0 : fy = 0
          · subst w0; subst x0; subst y0
            rw [if_neg (show ¬ (0 = 0 ∧ 0 ≠ 0) by omega), if_neg (show ¬ (0 = 0 ∧ 0 ≠ 0) by omega)]
            simp (disch := omega) only [e33, e67, r1, r2, r3, jV_eq, k_iT, k_iF, Bool.false_eq_true, eq_self, Nat.add_zero, k_lt', k_bs, k_T, k_F, k_inb, k_ck, k_nz, ↓kN, kL, k_lt, k_le, k_eq, kn_le, kn_lt, kn_eq, kn_le', kn_lt', kn_eq', nI_clamp, nI_add, k_sub, k_mul, k_div, rd_hi, rd_mi, rd_hl, rd_ml, rd_hr, rd_mr, rd_si2, rd_sl1, rd_sl2, rd_sr1, rd_sr2]
          · obtain rfl : fy = 1 := by omega
            subst w0; subst x0
            rw [if_neg (show ¬ (0 = 0 ∧ 0 ≠ 0) by omega), if_pos (show 0 = 0 ∧ 1 ≠ 0 by omega)]
            simp (disch := omega) only [e33, e67, r1, r2, r3, jV_eq, k_iT, k_iF, Bool.false_eq_true, eq_self, Nat.add_zero, k_lt', k_bs, k_T, k_F, k_inb, k_ck, k_nz, ↓kN, kL, k_lt, k_le, k_eq, kn_le, kn_lt, kn_eq, kn_le', kn_lt', kn_eq', nI_clamp, nI_add, k_sub, k_mul, k_div, rd_hi, rd_mi, rd_hl, rd_ml, rd_hr, rd_mr, rd_si2, rd_sl1, rd_sl2, rd_sr1, rd_sr2]
        · obtain rfl : fx = 1 := by omega
          subst w0
          rw [if_pos (show 0 = 0 ∧ 1 ≠ 0 by omega)]
          simp (disch := omega) only [e33, e67, r1, r2, r3, jV_eq, k_iT, k_iF, Bool.false_eq_true, eq_self, Nat.add_zero, k_lt', k_bs, k_T, k_F, k_inb, k_ck, k_nz, ↓kN, kL, k_lt, k_le, k_eq, kn_le, kn_lt, kn_eq, kn_le', kn_lt', kn_eq', nI_clamp, nI_add, k_sub, k_mul, k_div, rd_hi, rd_mi, rd_hl, rd_ml, rd_hr, rd_mr, rd_si2, rd_sl1, rd_sl2, rd_sr1, rd_sr2]
      · obtain rfl : w = 1 := by omega
        rw [if_neg (show ¬ (1 = 0 ∧ fx ≠ 0) by omega), if_neg (show ¬ (1 = 0 ∧ fy ≠ 0) by omega)]
        simp (disch := omega) only [e33, e67, r1, r2, r3, jV_eq, k_iT, k_iF, Bool.false_eq_true, eq_self, Nat.add_zero, k_lt', k_bs, k_T, k_F, k_inb, k_ck, k_nz, ↓kN, kL, k_lt, k_le, k_eq, kn_le, kn_lt, kn_eq, kn_le', kn_lt', kn_eq', nI_clamp, nI_add, k_sub, k_mul, k_div, rd_hi, rd_mi, rd_hl, rd_ml, rd_hr, rd_mr, rd_si2, rd_sl1, rd_sl2, rd_sr1, rd_sr2]
  have h1 := key (P 10 f) 0 (by omega)
  rw [pG_0] at h1
  unfold fX11_join
  simp (disch := omega) only [dv, e0, e1, k_iT, k_iF, Bool.false_eq_true, eq_self, Nat.add_zero, k_lt', k_bs, k_T, k_F, k_inb, k_ck, k_nz, ↓kN, kL, k_lt, k_le, k_eq, kn_le, kn_lt, kn_eq, kn_le', kn_lt', kn_eq', nI_clamp, nI_add, k_sub, k_mul, k_div, rd_hi, rd_mi, rd_hl, rd_ml, rd_hr, rd_mr, rd_si2, rd_sl1, rd_sl2, rd_sr1, rd_sr2]
  exact h1
end RA
