/-! INPUTS laid by the reference -/
def lR (K : Nat → Nat) (V : Nat → Int32) (i j : Nat) (N : mv_M) : Prop := ∀ x, i ≤ x → x < j → N.1 97 x = nI (if K x = 1 then 3 else 2) ∧ N.1 98 x = nI (if K x = 2 then 1 else 0) ∧ N.1 99 x = (if K x = 2 then nI (1500 + x) else V x) ∧ N.1 100 x = nI 0
def lQ (K : Nat → Nat) (sc : Nat → Nat) (i j : Nat) (N : mv_M) : Prop := ∀ x, i ≤ x → x < j → K x = 2 → N.1 101 (1500 + x) = nI (x + 1) ∧ N.1 102 (1500 + x) = nI (sc x)
def fR (N : mv_M) (i j : Nat) (N' : mv_M) : Prop := N'.2 = N.2 ∧ ∀ a p, ¬ (a = 94 ∨ (97 ≤ a ∧ a ≤ 100 ∧ i ≤ p ∧ p < j) ∨ (101 ≤ a ∧ a ≤ 102 ∧ 1500 + i ≤ p ∧ p < 1500 + j)) → N'.1 a p = N.1 a p
section RK1
variable {n t i j g fu x s : Nat} {M N M' N' N2 : mv_M} {K it sc : Nat → Nat} {V : Nat → Int32}
theorem rl_1 (hx : x < j) (hj : j ≤ 40) (e92 : N.1 92 x = nI (K x)) (hK : K x ≤ 2) : fX11_lay_10 (nI i) (nI t) (nI j) (nI x) N = fX11_lay_10 (nI i) (nI t) (nI j) (nI (x + 1)) (mv_si (mv_si (mv_si (mv_si N 100 x (nI 0)) 97 x (nI (if K x = 1 then 3 else 2))) 98 x (nI (if K x = 2 then 1 else 0))) 99 x (if K x = 2 then nI (1500 + x) else N.1 93 x)) := by
  have v0 : vp_nar .boolean (nI 0) = nI 0 := vp0
  unfold fX11_lay_10
  refine lp_go ?_
  show gX11_lay_10 (nI i) (nI t) (nI j) (nI x) N = _
  unfold gX11_lay_10 fX11_lay_46 fX11_lay_69 fX11_lay_103
  rcases (show K x = 0 ∨ K x = 1 ∨ K x = 2 by omega) with hk | hk | hk
  · simp (disch := omega) only [↓reduceIte, e92, hk, v0, k_iT, k_iF, Bool.false_eq_true, eq_self, Nat.add_zero, k_lt', k_bs, k_T, k_F, k_inb, k_ck, k_nz, ↓kN, kL, k_lt, k_le, k_eq, kn_le, kn_lt, kn_eq, kn_le', kn_lt', kn_eq', nI_clamp, nI_add, k_sub, k_mul, k_div, rd_hi, rd_mi, rd_hl, rd_ml, rd_hr, rd_mr, rd_si2, rd_sl1, rd_sl2, rd_sr1, rd_sr2]
  · simp (disch := omega) only [↓reduceIte, e92, hk, v0, k_iT, k_iF, Bool.false_eq_true, eq_self, Nat.add_zero, k_lt', k_bs, k_T, k_F, k_inb, k_ck, k_nz, ↓kN, kL, k_lt, k_le, k_eq, kn_le, kn_lt, kn_eq, kn_le', kn_lt', kn_eq', nI_clamp, nI_add, k_sub, k_mul, k_div, rd_hi, rd_mi, rd_hl, rd_ml, rd_hr, rd_mr, rd_si2, rd_sl1, rd_sl2, rd_sr1, rd_sr2]
  · simp (disch := omega) only [↓reduceIte, e92, hk, v0, k_iT, k_iF, Bool.false_eq_true, eq_self, Nat.add_zero, k_lt', k_bs, k_T, k_F, k_inb, k_ck, k_nz, ↓kN, kL, k_lt, k_le, k_eq, kn_le, kn_lt, kn_eq, kn_le', kn_lt', kn_eq', nI_clamp, nI_add, k_sub, k_mul, k_div, rd_hi, rd_mi, rd_hl, rd_ml, rd_hr, rd_mr, rd_si2, rd_sl1, rd_sl2, rd_sr1, rd_sr2]
theorem rl_1e : fX11_lay_10 (nI i) (nI t) (nI j) (nI j) N = fX11_lay_113 (nI i) (nI t) (nI j) (nI i) N := by
  unfold fX11_lay_10
  refine lp_inr ?_
  show gX11_lay_10 (nI i) (nI t) (nI j) (nI j) N = _
  unfold gX11_lay_10
  rw [if_pos (Int32.le_refl _)]
theorem rl_2e : fX11_lay_113 (nI i) (nI t) (nI j) (nI j) N = some (nI j, N) := by
  unfold fX11_lay_113
  refine lp_out ?_
  show gX11_lay_113 (nI i) (nI t) (nI j) (nI j) N = _
  unfold gX11_lay_113
  rw [if_pos (Int32.le_refl _)]
theorem rl_2n (hx : x < j) (hj : j ≤ 40) (e92 : N.1 92 x = nI (K x)) (hK : K x ≤ 2) (hk : K x ≠ 2) : fX11_lay_113 (nI i) (nI t) (nI j) (nI x) N = fX11_lay_113 (nI i) (nI t) (nI j) (nI (x + 1)) N := by
  unfold fX11_lay_113
  refine lp_go ?_
  show gX11_lay_113 (nI i) (nI t) (nI j) (nI x) N = _
  unfold gX11_lay_113 fX11_lay_182
  simp (disch := omega) only [↓reduceIte, e92, k_iT, k_iF, Bool.false_eq_true, eq_self, Nat.add_zero, k_lt', k_bs, k_T, k_F, k_inb, k_ck, k_nz, ↓kN, kL, k_lt, k_le, k_eq, kn_le, kn_lt, kn_eq, kn_le', kn_lt', kn_eq', nI_clamp, nI_add, k_sub, k_mul, k_div, rd_hi, rd_mi, rd_hl, rd_ml, rd_hr, rd_mr, rd_si2, rd_sl1, rd_sl2, rd_sr1, rd_sr2]
theorem rl_2p {t1 : Nat} (hx : x < j) (hj : j ≤ 40) (hi : i < 40) (e92 : N.1 92 x = nI 2) (ht : t ≤ 4) (ht1 : t1 = if x = i then (t - 1) / 2 else 0) (hb : fX11_behind (nI (x + 1)) (nI t1) (mv_si N 101 (1500 + x) (nI (x + 1))) = some (nI s, N2)) : fX11_lay_113 (nI i) (nI t) (nI j) (nI x) N = fX11_lay_113 (nI i) (nI t) (nI j) (nI (x + 1)) (mv_si N2 102 (1500 + x) (nI s)) := by
  have f1 : ∀ X, fX11_firstOf (nI t) X = some (nI ((t - 1) / 2), X) := by
    intro X
    rcases (show t = 0 ∨ t = 1 ∨ t = 2 ∨ t = 3 ∨ t = 4 by omega) with rfl | rfl | rfl | rfl | rfl <;> rfl
  unfold fX11_lay_113
  refine lp_go ?_
  show gX11_lay_113 (nI i) (nI t) (nI j) (nI x) N = _
  unfold gX11_lay_113 fX11_lay_144 fX11_lay_182
  by_cases u : x = i
  · rw [if_pos u] at ht1
    subst ht1
    simp (disch := omega) only [↓reduceIte, e92, u, f1, k_iT, k_iF, Bool.false_eq_true, eq_self, Nat.add_zero, k_lt', k_bs, k_T, k_F, k_inb, k_ck, k_nz, ↓kN, kL, k_lt, k_le, k_eq, kn_le, kn_lt, kn_eq, kn_le', kn_lt', kn_eq', nI_clamp, nI_add, k_sub, k_mul, k_div, rd_hi, rd_mi, rd_hl, rd_ml, rd_hr, rd_mr, rd_si2, rd_sl1, rd_sl2, rd_sr1, rd_sr2]
    subst u
    rw [hb, k_bs]
    simp (disch := omega) only [↓reduceIte, k_iT, k_iF, Bool.false_eq_true, eq_self, Nat.add_zero, k_lt', k_bs, k_T, k_F, k_inb, k_ck, k_nz, ↓kN, kL, k_lt, k_le, k_eq, kn_le, kn_lt, kn_eq, kn_le', kn_lt', kn_eq', nI_clamp, nI_add, k_sub, k_mul, k_div, rd_hi, rd_mi, rd_hl, rd_ml, rd_hr, rd_mr, rd_si2, rd_sl1, rd_sl2, rd_sr1, rd_sr2]
  · rw [if_neg u] at ht1
    subst ht1
    simp (disch := omega) only [↓reduceIte, e92, k_iT, k_iF, Bool.false_eq_true, eq_self, Nat.add_zero, k_lt', k_bs, k_T, k_F, k_inb, k_ck, k_nz, ↓kN, kL, k_lt, k_le, k_eq, kn_le, kn_lt, kn_eq, kn_le', kn_lt', kn_eq', nI_clamp, nI_add, k_sub, k_mul, k_div, rd_hi, rd_mi, rd_hl, rd_ml, rd_hr, rd_mr, rd_si2, rd_sl1, rd_sl2, rd_sr1, rd_sr2]
    rw [hb, k_bs]
theorem r_layI (hn : n ≤ 40) (ht : t ≤ 4) (hb : bh K n 3 t i = some j) (hij : i < j) (hjn : j ≤ n) (hit : it i = t) (hT : tI K n it sc i j) (e55 : N.1 62 55 = nI n) (hN : ∀ x, x < n → N.1 92 x = nI (K x) ∧ N.1 93 x = V x) (hK : ∀ x, x < n → K x ≤ 2) : ∃ N', fX11_lay (nI i) (nI t) N = some (nI j, N') ∧ fR N i j N' ∧ lR K V i j N' ∧ lQ K sc i j N' := by
  have L1 : ∀ k x N, x + k = j → i ≤ x → (∀ x, x < n → N.1 92 x = nI (K x) ∧ N.1 93 x = V x) → ∃ N', fX11_lay_10 (nI i) (nI t) (nI j) (nI x) N = fX11_lay_113 (nI i) (nI t) (nI j) (nI i) N' ∧ N'.2 = N.2 ∧ (∀ a p, ¬ (97 ≤ a ∧ a ≤ 100 ∧ x ≤ p ∧ p < j) → N'.1 a p = N.1 a p) ∧ lR K V x j N' := by
    intro k
    induction k with
    | zero =>
      intro x N hx hix hN
      obtain rfl : x = j := by omega
      exact ⟨N, rl_1e, rfl, fun _ _ _ => rfl, fun y y1 y2 => by omega⟩
    | succ k ih =>
      intro x N hx hix hN
      obtain ⟨n1, n2⟩ := hN x (by omega)
      have e := rl_1 (i := i) (t := t) (show x < j by omega) (by omega) n1 (hK x (by omega))
      rw [n2] at e
      obtain ⟨N', o1, o2, o3, o4⟩ := ih (x + 1) (mv_si (mv_si (mv_si (mv_si N 100 x (nI 0)) 97 x (nI (if K x = 1 then 3 else 2))) 98 x (nI (if K x = 2 then 1 else 0))) 99 x (if K x = 2 then nI (1500 + x) else V x)) (by omega) (by omega) (fun y hy => ⟨by simp (disch := omega) only [rd_hi, rd_mi, rd_hl, rd_ml, rd_hr, rd_mr, rd_si2, rd_sl1, rd_sl2, rd_sr1, rd_sr2]; exact (hN y hy).1, by simp (disch := omega) only [rd_hi, rd_mi, rd_hl, rd_ml, rd_hr, rd_mr, rd_si2, rd_sl1, rd_sl2, rd_sr1, rd_sr2]; exact (hN y hy).2⟩)
      refine ⟨N', e.trans o1, o2, fun a p u => ?_, fun y y1 y2 => ?_⟩
      · rw [o3 a p (by omega), rd_mi (by omega), rd_mi (by omega), rd_mi (by omega), rd_mi (by omega)]
      · by_cases u : y = x
        · subst u
          refine ⟨?_, ?_, ?_, ?_⟩
          · rw [o3 _ _ (by omega)]; simp (disch := omega) only [rd_hi, rd_mi, rd_hl, rd_ml, rd_hr, rd_mr, rd_si2, rd_sl1, rd_sl2, rd_sr1, rd_sr2]
          · rw [o3 _ _ (by omega)]; simp (disch := omega) only [rd_hi, rd_mi, rd_hl, rd_ml, rd_hr, rd_mr, rd_si2, rd_sl1, rd_sl2, rd_sr1, rd_sr2]
          · rw [o3 _ _ (by omega)]; simp (disch := omega) only [rd_hi, rd_mi, rd_hl, rd_ml, rd_hr, rd_mr, rd_si2, rd_sl1, rd_sl2, rd_sr1, rd_sr2]
          · rw [o3 _ _ (by omega)]; simp (disch := omega) only [rd_hi, rd_mi, rd_hl, rd_ml, rd_hr, rd_mr, rd_si2, rd_sl1, rd_sl2, rd_sr1, rd_sr2]
        · exact o4 y (by omega) y2
  have L2 : ∀ k x N, x + k = j → i ≤ x → N.1 62 55 = nI n → (∀ x, x < n → N.1 92 x = nI (K x)) → ∃ N', fX11_lay_113 (nI i) (nI t) (nI j) (nI x) N = some (nI j, N') ∧ N'.2 = N.2 ∧ (∀ a p, ¬ (a = 94 ∨ (101 ≤ a ∧ a ≤ 102 ∧ 1500 + x ≤ p ∧ p < 1500 + j)) → N'.1 a p = N.1 a p) ∧ lQ K sc x j N' := by
    intro k
    induction k with
    | zero =>
      intro x N hx hix _ hN
      obtain rfl : x = j := by omega
      exact ⟨N, rl_2e, rfl, fun _ _ _ => rfl, fun y y1 y2 => by omega⟩
    | succ k ih =>
      intro x N hx hix e55 hN
      obtain ⟨a1, a2, a3, a4, a5⟩ := hT x hix (by omega)
      by_cases hk : K x = 2
      · obtain ⟨y1, y2, y3, y4, y5, y6, y7⟩ := a5 hk
        have ht1 : ∃ t1, t1 = (if x = i then (t - 1) / 2 else 0) ∧ t1 ≤ 4 ∧ bh K n 3 t1 (x + 1) = some (sc x) := by
          by_cases u : x = i
          · subst u
            exact ⟨(t - 1) / 2, (if_pos rfl).symm, by omega, by rw [← hit]; exact y7⟩
          · refine ⟨0, (if_neg u).symm, by omega, ?_⟩
            have := a3 u
            rw [show (it x - 1) / 2 = 0 by omega] at y7
            exact y7
        obtain ⟨t1, h1, h2, h3⟩ := ht1
        obtain ⟨N2, b1, b2, b3⟩ := r_behind (K := K) (N := mv_si N 101 (1500 + x) (nI (x + 1))) hn h2 (show x + 1 ≤ 40 by omega) (by simp (disch := omega) only [rd_hi, rd_mi, rd_hl, rd_ml, rd_hr, rd_mr, rd_si2, rd_sl1, rd_sl2, rd_sr1, rd_sr2]; exact e55) (fun z hz => ⟨hK z hz, by simp (disch := omega) only [rd_hi, rd_mi, rd_hl, rd_ml, rd_hr, rd_mr, rd_si2, rd_sl1, rd_sl2, rd_sr1, rd_sr2]; exact hN z hz⟩)
        rw [h3] at b1
        have b1' : fX11_behind (nI (x + 1)) (nI t1) (mv_si N 101 (1500 + x) (nI (x + 1))) = some (nI (sc x), N2) := b1
        have e := rl_2p (show x < j by omega) (by omega) (by omega) (by rw [hN x (by omega), hk]) ht h1 b1'
        obtain ⟨N', o1, o2, o3, o4⟩ := ih (x + 1) (mv_si N2 102 (1500 + x) (nI (sc x))) (by omega) (by omega) (by simp (disch := omega) only [rd_hi, rd_mi, rd_hl, rd_ml, rd_hr, rd_mr, rd_si2, rd_sl1, rd_sl2, rd_sr1, rd_sr2]; rw [b3 _ _ (by omega)]; simp (disch := omega) only [rd_hi, rd_mi, rd_hl, rd_ml, rd_hr, rd_mr, rd_si2, rd_sl1, rd_sl2, rd_sr1, rd_sr2]; exact e55) (fun z hz => by simp (disch := omega) only [rd_hi, rd_mi, rd_hl, rd_ml, rd_hr, rd_mr, rd_si2, rd_sl1, rd_sl2, rd_sr1, rd_sr2]; rw [b3 _ _ (by omega)]; simp (disch := omega) only [rd_hi, rd_mi, rd_hl, rd_ml, rd_hr, rd_mr, rd_si2, rd_sl1, rd_sl2, rd_sr1, rd_sr2]; exact hN z hz)
        refine ⟨N', e.trans o1, o2.trans b2, fun a p u => ?_, fun y y1 y2 hy => ?_⟩
        · rw [o3 a p (by omega), rd_mi (by omega), b3 _ _ (by omega), rd_mi (by omega)]
        · by_cases u : y = x
          · subst u
            refine ⟨?_, ?_⟩
            · rw [o3 _ _ (by omega)]; simp (disch := omega) only [rd_hi, rd_mi, rd_hl, rd_ml, rd_hr, rd_mr, rd_si2, rd_sl1, rd_sl2, rd_sr1, rd_sr2]; rw [b3 _ _ (by omega)]; simp (disch := omega) only [rd_hi, rd_mi, rd_hl, rd_ml, rd_hr, rd_mr, rd_si2, rd_sl1, rd_sl2, rd_sr1, rd_sr2]
            · rw [o3 _ _ (by omega)]; simp (disch := omega) only [rd_hi, rd_mi, rd_hl, rd_ml, rd_hr, rd_mr, rd_si2, rd_sl1, rd_sl2, rd_sr1, rd_sr2]
          · exact o4 y (by omega) y2 hy
      · have e := rl_2n (i := i) (t := t) (show x < j by omega) (by omega) (hN x (by omega)) (hK x (by omega)) hk
        obtain ⟨N', o1, o2, o3, o4⟩ := ih (x + 1) N (by omega) (by omega) e55 hN
        refine ⟨N', e.trans o1, o2, fun a p u => o3 a p (by omega), fun y y1 y2 hy => ?_⟩
        by_cases u : y = x
        · subst u; exact absurd hy hk
        · exact o4 y (by omega) y2 hy
  obtain ⟨N1, b1, b2, b3⟩ := r_behind (K := K) (N := N) hn ht (show i ≤ 40 by omega) e55 (fun z hz => ⟨hK z hz, (hN z hz).1⟩)
  rw [hb] at b1
  have b1' : fX11_behind (nI i) (nI t) N = some (nI j, N1) := b1
  obtain ⟨N2, o1, o2, o3, o4⟩ := L1 (j - i) i N1 (by omega) (Nat.le_refl _) (fun x hx => ⟨(b3 _ _ (by omega)).trans (hN x hx).1, (b3 _ _ (by omega)).trans (hN x hx).2⟩)
  obtain ⟨N3, p1, p2, p3, p4⟩ := L2 (j - i) i N2 (by omega) (Nat.le_refl _) ((o3 _ _ (by omega)).trans ((b3 _ _ (by omega)).trans e55)) (fun x hx => (o3 _ _ (by omega)).trans ((b3 _ _ (by omega)).trans (hN x hx).1))
  refine ⟨N3, ?_, ⟨p2.trans (o2.trans b2), fun a p u => ?_⟩, fun x x1 x2 => ?_, p4⟩
  · unfold fX11_lay
    rw [b1', k_bs, o1, p1]
  · rw [p3 a p (by omega), o3 a p (by omega), b3 a p (by omega)]
  · obtain ⟨q1, q2, q3, q4⟩ := o4 x x1 x2
    exact ⟨(p3 _ _ (by omega)).trans q1, (p3 _ _ (by omega)).trans q2, (p3 _ _ (by omega)).trans q3, (p3 _ _ (by omega)).trans q4⟩
end RK1
