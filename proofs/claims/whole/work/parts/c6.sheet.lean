/-! SHEETS of the class: what weigh needs -/
/-- places q .. q + n - 1 of cell a, written anew -/
def pB (a : Nat) (M : mv_M) (q n : Nat) (w : Nat → Nat) : mv_M := (fun c p => if c = a ∧ q ≤ p ∧ p < q + n then nI (w (p - q)) else M.1 c p, M.2)
section SH
variable {b h F ND f a q n i k c d lv g nn : Nat} {M M' M0 M1 N : mv_M} {P : Nat → Nat → Nat} {R : Nat → Nat → Option (Nat → Nat)} {ty w u y : Nat → Nat} {X : Option (Nat → Nat)}
theorem pB_0 : pB a M q 0 w = M := by
  refine Prod.ext ?_ rfl
  funext c p
  show (if c = a ∧ q ≤ p ∧ p < q + 0 then _ else _) = _
  rw [if_neg (by omega)]
theorem pB_s : mv_si (pB a M q n w) a (q + n) (nI (w n)) = pB a M q (n + 1) w := by
  refine Prod.ext ?_ rfl
  funext c p
  show (if c = a ∧ p = q + n then _ else (if c = a ∧ q ≤ p ∧ p < q + n then _ else _)) = (if c = a ∧ q ≤ p ∧ p < q + (n + 1) then _ else _)
  by_cases h1 : c = a ∧ p = q + n
  · rw [if_pos h1, if_pos (by omega), show p - q = n by omega]
  · rw [if_neg h1]
    by_cases h2 : c = a ∧ q ≤ p ∧ p < q + n
    · rw [if_pos h2, if_pos (by omega)]
    · rw [if_neg h2, if_neg (by omega)]
theorem pB_k (h0 : M.1 a (q + n) = nI (w n)) : pB a M q n w = pB a M q (n + 1) w := by
  refine Prod.ext ?_ rfl
  funext c p
  show (if c = a ∧ q ≤ p ∧ p < q + n then _ else _) = (if c = a ∧ q ≤ p ∧ p < q + (n + 1) then _ else _)
  by_cases h2 : c = a ∧ q ≤ p ∧ p < q + n
  · rw [if_pos h2, if_pos (by omega)]
  · rw [if_neg h2]
    by_cases h1 : c = a ∧ p = q + n
    · rw [if_pos (by omega), show p - q = n by omega, h1.1, h1.2, h0]
    · rw [if_neg (by omega)]
theorem pB_in (hk : k < n) : (pB a M q n w).1 a (q + k) = nI (w k) := by
  show (if a = a ∧ q ≤ q + k ∧ q + k < q + n then _ else _) = _
  rw [if_pos (by omega), show q + k - q = k by omega]
theorem pB_out {c p : Nat} (hk : ¬ (c = a ∧ q ≤ p ∧ p < q + n)) : (pB a M q n w).1 c p = M.1 c p := if_neg hk
theorem pB_2 : (pB a M q n w).2 = M.2 := rfl
/-- outside the sheets nothing changes -/
def wF (M0 M : mv_M) : Prop := M.2 = M0.2 ∧ ∀ a p, a ≠ 46 → a ≠ 47 → M.1 a p = M0.1 a p
/-- sheets below level lv stand -/
def wL (lv : Nat) (M0 M : mv_M) : Prop := wF M0 M ∧ (∀ p, p < 16 * lv → M.1 46 p = M0.1 46 p) ∧ ∀ p, p < lv → M.1 47 p = M0.1 47 p
theorem wL_rf : wL lv M M := ⟨⟨rfl, fun _ _ _ _ => rfl⟩, fun _ _ => rfl, fun _ _ => rfl⟩
theorem wL_tr {lv' : Nat} (h1 : wL lv M0 M) (h2 : wL lv' M M') (hl : lv ≤ lv') : wL lv M0 M' := ⟨⟨h2.1.1.trans h1.1.1, fun a p u1 u2 => (h2.1.2 a p u1 u2).trans (h1.1.2 a p u1 u2)⟩, fun p hp => (h2.2.1 p (by omega)).trans (h1.2.1 p hp), fun p hp => (h2.2.2 p (by omega)).trans (h1.2.2 p hp)⟩
theorem wL_si46 {v : Int32} {p : Nat} (hp : 16 * lv ≤ p) : wL lv M (mv_si M 46 p v) := ⟨⟨rfl, fun a k u1 u2 => by simp (disch := omega) only [rd_hi, rd_mi, rd_hl, rd_ml, rd_hr, rd_mr, rd_si2, rd_sl1, rd_sl2, rd_sr1, rd_sr2]⟩, fun k hk => by simp (disch := omega) only [rd_hi, rd_mi, rd_hl, rd_ml, rd_hr, rd_mr, rd_si2, rd_sl1, rd_sl2, rd_sr1, rd_sr2], fun k hk => by simp (disch := omega) only [rd_hi, rd_mi, rd_hl, rd_ml, rd_hr, rd_mr, rd_si2, rd_sl1, rd_sl2, rd_sr1, rd_sr2]⟩
theorem wL_si47 {v : Int32} {p : Nat} (hp : lv ≤ p) : wL lv M (mv_si M 47 p v) := ⟨⟨rfl, fun a k u1 u2 => by simp (disch := omega) only [rd_hi, rd_mi, rd_hl, rd_ml, rd_hr, rd_mr, rd_si2, rd_sl1, rd_sl2, rd_sr1, rd_sr2]⟩, fun k hk => by simp (disch := omega) only [rd_hi, rd_mi, rd_hl, rd_ml, rd_hr, rd_mr, rd_si2, rd_sl1, rd_sl2, rd_sr1, rd_sr2], fun k hk => by simp (disch := omega) only [rd_hi, rd_mi, rd_hl, rd_ml, rd_hr, rd_mr, rd_si2, rd_sl1, rd_sl2, rd_sr1, rd_sr2]⟩
theorem wL_pB (hq : 16 * lv ≤ q) : wL lv M (pB 46 M q n w) := ⟨⟨rfl, fun a p u1 u2 => pB_out (by omega)⟩, fun p hp => pB_out (by omega), fun p hp => pB_out (by omega)⟩
/-- the rows of the class -/
def rowC (P : Nat → Nat → Nat) (F : Nat) (R : Nat → Nat → Option (Nat → Nat)) (M : mv_M) : Prop := ∀ q, q < F → ∀ d, 0 < d → d < dem (P 11 q) → (R q d = none → M.1 45 (26 * q + d) = nI 1 ∧ ∀ k, k < P 9 q → M.1 44 ((26 * q + d) * 4 + k) = nI (dem (P 13 (16 * q + k)) - 1)) ∧ ∀ r, R q d = some r → M.1 45 (26 * q + d) = nI 0 ∧ ∀ k, k < P 9 q → M.1 44 ((26 * q + d) * 4 + k) = nI (r k)
/-- what stands while an expression of function f is weighed -/
def wS (b h : Nat) (P : Nat → Nat → Nat) (F ND f : Nat) (R : Nat → Nat → Option (Nat → Nat)) (N M : mv_M) : Prop := WFp P F ND ∧ rOK P F R ∧ f < F ∧ PR b h P F ND M N ∧ M.2.2 5 1 = some b ∧ M.1 5 2 = nI f ∧ rowC P F R M
theorem rowC_F (hr : rowC P F R M) (e : ∀ a p, a = 44 ∨ a = 45 → M'.1 a p = M.1 a p) : rowC P F R M' := by
  intro q hq d h0 h1
  obtain ⟨r1, r2⟩ := hr q hq d h0 h1
  refine ⟨fun z => ⟨(e 45 _ (.inr rfl)).trans (r1 z).1, fun k hk => (e 44 _ (.inl rfl)).trans ((r1 z).2 k hk)⟩, fun r z => ⟨(e 45 _ (.inr rfl)).trans (r2 r z).1, fun k hk => (e 44 _ (.inl rfl)).trans ((r2 r z).2 k hk)⟩⟩
theorem PR_F {N' : mv_M} (hr : PR b h P F ND M N) (e : ∀ c k, b ≤ c → c ≤ b + 13 → M'.1 c k = M.1 c k) (e2 : ∀ c' k, 65 ≤ c' → c' ≤ 79 → N'.1 c' k = N.1 c' k) : PR b h P F ND M' N' := by
  obtain ⟨hb, hh, p1, p2, p3, p4⟩ := hr
  refine ⟨hb, hh, (e _ _ (by omega) (by omega)).trans p1, (e _ _ (by omega) (by omega)).trans p2, (e2 _ _ (by omega) (by omega)).trans p3, fun f hf => ?_⟩
  obtain ⟨⟨a1, a2, a3, a4⟩, ⟨b1, b2, b3, b4⟩, a5, a6⟩ := p4 f hf
  exact ⟨⟨(e _ _ (by omega) (by omega)).trans a1, (e _ _ (by omega) (by omega)).trans a2, (e _ _ (by omega) (by omega)).trans a3, (e _ _ (by omega) (by omega)).trans a4⟩, ⟨(e2 _ _ (by omega) (by omega)).trans b1, (e2 _ _ (by omega) (by omega)).trans b2, (e2 _ _ (by omega) (by omega)).trans b3, (e2 _ _ (by omega) (by omega)).trans b4⟩, fun k hk h4 => ⟨(e _ _ (by omega) (by omega)).trans (a5 k hk h4).1, (e2 _ _ (by omega) (by omega)).trans (a5 k hk h4).2⟩, fun c u1 u2 => mN_congr (a6 c u1 u2) (fun c' k v1 v2 => e c' k (by omega) (by omega)) (fun c' k v1 v2 => e2 c' k (by omega) (by omega))⟩
theorem wS_F (hs : wS b h P F ND f R N M) (hf : wF M M') : wS b h P F ND f R N M' := by
  obtain ⟨s1, s2, s3, s4, s5, s6, s7⟩ := hs
  have hb := s4.1
  refine ⟨s1, s2, s3, PR_F s4 (fun c k u1 u2 => hf.2 c k (by omega) (by omega)) (fun _ _ _ _ => rfl), by rw [hf.1]; exact s5, (hf.2 5 2 (by omega) (by omega)).trans s6, rowC_F s7 (fun a p ha => hf.2 a p (by omega) (by omega))⟩
theorem w_get {γ : Type} (hs : wS b h P F ND f R N M) (G : Nat → Option γ) : mv_getp (M.2.2 5 1) G = G b := by
  have hb := hs.2.2.2.1.1
  have hb2 : (decide (b = 9) || decide (b = 24)) = true := by simpa using hb
  rw [hs.2.2.2.2.1]
  show mv_chk (decide (b = 9) || decide (b = 24)) (G b) = G b
  rw [hb2]; rfl
theorem w_node (hs : wS b h P F ND f R N M) (hc : c ≤ P 12 f) : fX4_hasNode b (nI c) M = some (nI 1, M) ∧ c < 1000 := by
  have e := hs.2.2.2.1.2.2.2.1
  have h1 := hs.1.2.2.1
  have h2 := (hs.1.2.2.2 f hs.2.2.1).2.2.2.2.2.1
  unfold fX4_hasNode
  refine ⟨?_, by omega⟩
  simp (disch := omega) only [e, k_iT, k_iF, Bool.false_eq_true, eq_self, Nat.add_zero, k_lt', k_bs, k_T, k_F, k_inb, k_ck, k_nz, ↓kN, kL, k_lt, k_le, k_eq, kn_le, kn_lt, kn_eq, kn_le', kn_lt', kn_eq', nI_clamp, nI_add, k_sub, k_mul, k_div, rd_hi, rd_mi, rd_hl, rd_ml, rd_hr, rd_mr, rd_si2, rd_sl1, rd_sl2, rd_sr1, rd_sr2]
theorem w_name (hs : wS b h P F ND f R N M) (hk : k < P 10 f) : fX4_hasName b (nI f) (nI k) M = some (nI 1, M) := by
  have e := hs.2.2.2.1.2.2.1
  have hf := hs.2.2.1
  have hF := hs.1.2.1
  have e2 := (hs.2.2.2.1.2.2.2.2.2 f hf).1.2.1
  have h2 := (hs.1.2.2.2 f hs.2.2.1).2.2.1
  unfold fX4_hasName fX4_hasFunction
  simp (disch := omega) only [e, e2, k_iT, k_iF, Bool.false_eq_true, eq_self, Nat.add_zero, k_lt', k_bs, k_T, k_F, k_inb, k_ck, k_nz, ↓kN, kL, k_lt, k_le, k_eq, kn_le, kn_lt, kn_eq, kn_le', kn_lt', kn_eq', nI_clamp, nI_add, k_sub, k_mul, k_div, rd_hi, rd_mi, rd_hl, rd_ml, rd_hr, rd_mr, rd_si2, rd_sl1, rd_sl2, rd_sr1, rd_sr2]
theorem w_nty (hs : wS b h P F ND f R N M) (hk : k < P 10 f) : ∃ v, fX4_nameType b (nI f) (nI k) M = some (v, M) ∧ (P 13 (16 * f + k) ≤ 4 → v = nI (P 13 (16 * f + k))) := by
  have e := w_name hs hk
  have hf := hs.2.2.1
  have hF := hs.1.2.1
  have h2 := (hs.1.2.2.2 f hs.2.2.1).2.2.1
  have h3 := (hs.2.2.2.1.2.2.2.2.2 f hf).2.2.1 k hk
  unfold fX4_nameType
  refine ⟨M.1 (b + 7) (f * 16 + k), ?_, fun z => (h3 z).1⟩
  simp (disch := omega) only [e, k_iT, k_iF, Bool.false_eq_true, eq_self, Nat.add_zero, k_lt', k_bs, k_T, k_F, k_inb, k_ck, k_nz, ↓kN, kL, k_lt, k_le, k_eq, kn_le, kn_lt, kn_eq, kn_le', kn_lt', kn_eq', nI_clamp, nI_add, k_sub, k_mul, k_div, rd_hi, rd_mi, rd_hl, rd_ml, rd_hr, rd_mr, rd_si2, rd_sl1, rd_sl2, rd_sr1, rd_sr2]
theorem w_fill {q n : Nat} (hq : q + n ≤ 1344) : fJ7_fill_fda19 (nI q) (nI (q + n)) (nI 0) M = some ((), pB 46 M q n (fun _ => 0)) := by
  have key : ∀ j i, i + j = n → fJ7_fill_fda19_10 (nI (q + n)) (nI 0) (nI (q + i)) (pB 46 M q i (fun _ => 0)) = some ((), pB 46 M q n (fun _ => 0)) := by
    intro j
    induction j with
    | zero =>
      intro i hi
      rw [show i = n by omega]
      unfold fJ7_fill_fda19_10
      refine lp_out ?_
      unfold gJ7_fill_fda19_10
      simp (disch := omega) only [k_iT, k_iF, Bool.false_eq_true, eq_self, Nat.add_zero, k_lt', k_bs, k_T, k_F, k_inb, k_ck, k_nz, ↓kN, kL, k_lt, k_le, k_eq, kn_le, kn_lt, kn_eq, kn_le', kn_lt', kn_eq', nI_clamp, nI_add, k_sub, k_mul, k_div, rd_hi, rd_mi, rd_hl, rd_ml, rd_hr, rd_mr, rd_si2, rd_sl1, rd_sl2, rd_sr1, rd_sr2]
    | succ j ih =>
      intro i hi
      have h1 := ih (i + 1) (by omega)
      unfold fJ7_fill_fda19_10 at h1 ⊢
      refine Eq.trans (lp_go (s' := (nI (q + n), nI 0, nI (q + (i + 1)))) (M' := pB 46 M q (i + 1) (fun _ => 0)) ?_) h1
      unfold gJ7_fill_fda19_10
      rw [← pB_s]
      simp (disch := omega) only [k_iT, k_iF, Bool.false_eq_true, eq_self, Nat.add_zero, k_lt', k_bs, k_T, k_F, k_inb, k_ck, k_nz, ↓kN, kL, k_lt, k_le, k_eq, kn_le, kn_lt, kn_eq, kn_le', kn_lt', kn_eq', nI_clamp, nI_add, k_sub, k_mul, k_div, rd_hi, rd_mi, rd_hl, rd_ml, rd_hr, rd_mr, rd_si2, rd_sl1, rd_sl2, rd_sr1, rd_sr2]
      rfl
  have h1 := key n 0 (by omega)
  rw [pB_0] at h1
  unfold fJ7_fill_fda19 fJ7_rangeCheck_23922
  simp (disch := omega) only [k_iT, k_iF, Bool.false_eq_true, eq_self, Nat.add_zero, k_lt', k_bs, k_T, k_F, k_inb, k_ck, k_nz, ↓kN, kL, k_lt, k_le, k_eq, kn_le, kn_lt, kn_eq, kn_le', kn_lt', kn_eq', nI_clamp, nI_add, k_sub, k_mul, k_div, rd_hi, rd_mi, rd_hl, rd_ml, rd_hr, rd_mr, rd_si2, rd_sl1, rd_sl2, rd_sr1, rd_sr2]
  exact h1
/-- the sheet at level lv -/
def wK (nn : Nat) (ty : Nat → Nat) (lv : Nat) (X : Option (Nat → Nat)) (M : mv_M) : Prop := ∃ u : Nat → Nat, (∀ n, n < nn → u n < dem (ty n) ∧ M.1 46 (16 * lv + n) = nI (u n)) ∧ ((X = none ∧ M.1 47 lv = nI 1) ∨ ∃ x, X = some x ∧ M.1 47 lv = nI 0 ∧ ∀ n, n < nn → u n = x n)
theorem vp0 : vp_nar .boolean 0 = nI 0 := rfl
theorem vp1 : vp_nar .boolean 1 = nI 1 := rfl
end SH
