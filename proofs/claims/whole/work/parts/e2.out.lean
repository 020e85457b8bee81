/-! RUNS: how an expression ends, on both sides -/
/-- the run has ended otherwise than done -/
def Fn (P : Nat → Nat → Nat) (n : Nat) (ff : Nat → Nat) (M N M' N' : mv_M) : Prop := (∃ e m', (M'.1 7 2 = nI e ∧ N'.1 62 74 = nI e ∧ 2 ≤ e ∧ e ≤ 5) ∧ M'.1 7 3 = N'.1 62 70 ∧ (M'.1 8 0 = nI m' ∧ N'.1 62 67 = nI m' ∧ m' ≤ 1500) ∧ M'.1 8 1 = N'.1 62 68 ∧ M'.1 7 4 = N'.1 62 69 ∧ M'.1 7 5 = N'.1 62 73 ∧ ∀ k, k < m' → M'.1 59 k = N'.1 100 (40 + k)) ∧ (∀ i, i < n → M'.1 59 (1500 + i) = N'.1 100 i) ∧ (∀ nm, nm < 16 → nm < P 9 (ff 0) → M'.1 50 (16 * 0 + nm) = M.1 50 (16 * 0 + nm)) ∧ gF M N M' N'
def RO (b h : Nat) (P : Nat → Nat → Nat) (F ND : Nat) (it : Nat → Nat) (n : Nat) (Z : Nat → Nat → Prop) (m pr cl : Nat) (ff : Nat → Nat) (st mx dp t kp ty tn : Nat) (M N : mv_M) (Wt Gt : Option (Unit × mv_M)) : Prop :=
  (∃ M' N', Wt = some ((), M') ∧ Gt = some ((), N') ∧ Fn P n ff M N M' N') ∨
  (∃ M' N' m' pr' cl' ff' st' dd' tn', Wt = fX2_workOut_8 (nI tn') M' ∧ Gt = fX11_goes_0 N' ∧ (tn' ≤ tn + 3 * (st' - st) ∧ st ≤ st') ∧ SS b h P F ND it n m' pr' cl' ff' st' mx dp dd' t kp M' N' ∧ Ex P it n Z m pr cl ff M N m' pr' cl' ff' M' N' ∧ gF M N M' N' ∧ (kS dp M M' ∧ kT t kp N N') ∧ M'.1 7 9 = N'.1 62 78 ∧ N'.1 62 77 = nI (kD ty) ∧ vV P it n m' pr' M' N' (M'.1 7 9) ty)
section RW
variable {b h F ND n m pr cl m' pr' cl' k t t' fr x st mx dp dd kp kp' d tn e i ty y f : Nat} {P : Nat → Nat → Nat} {it ff ff' : Nat → Nat} {M N M' N' M1 N1 M2 N2 M3 N3 : mv_M} {Z Z' : Nat → Nat → Prop} {v op a w : Int32} {Wt Gt : Option (Unit × mv_M)}
theorem Cr_nd (hC : Cr P F it n m pr cl ff M N) : (∀ k, k < m → M.1 59 k = N.1 100 (40 + k)) ∧ ∀ i, i < n → M.1 59 (1500 + i) = N.1 100 i := by
  obtain ⟨c1, c2, c3, c4⟩ := hC
  refine ⟨fun k hk => ?_, fun i hi => ?_⟩
  · obtain ⟨x, fr, a1, a2, _⟩ := c2 k hk
    obtain ⟨s, _, _, _, _, e, _⟩ := c3 k (P 5 x) (.inl ⟨hk, x, a1, a2, rfl⟩)
    rw [fi_lt (by omega)] at e
    exact e
  · obtain ⟨s, _, _, _, _, e, _⟩ := c3 (1500 + i) (it i) (.inr ⟨by omega, by omega, by rw [show 1500 + i - 1500 = i by omega]⟩)
    rw [fi_ge (by omega), show 1500 + i - 1500 = i by omega] at e
    exact e
theorem Ex_0 (hE : Ex P it n Z m pr cl ff M N m' pr' cl' ff' M' N') {nm : Nat} (h1 : nm < 16) (h2 : nm < P 9 (ff 0)) : M'.1 50 (16 * 0 + nm) = M.1 50 (16 * 0 + nm) := hE.2.2.2.2.2.1 0 nm (by omega) h1 (.inl h2)
theorem Fn_tr (hE : Ex P it n Z m pr cl ff M N m' pr' cl' ff' M1 N1) (hg : gF M N M1 N1) (hF : Fn P n ff' M1 N1 M' N') : Fn P n ff M N M' N' := by
  obtain ⟨f1, f2, f3, f4⟩ := hF
  refine ⟨f1, f2, fun nm h1 h2 => (f3 nm h1 (by rw [hE.2.1 0 (by omega)]; exact h2)).trans (Ex_0 hE h1 h2), gF_tr hg f4⟩
theorem Fn_c (hS : SS b h P F ND it n m pr cl ff st mx dp dd t kp M N) (e2 : M'.2 = M.2) (eM : ∀ a p, ¬ kC a p → M'.1 a p = M.1 a p) (e3 : N'.2 = N.2) (eN : ∀ a p, ¬ kR' a p → N'.1 a p = N.1 a p) (h7 : M'.1 7 2 = nI e) (h74 : N'.1 62 74 = nI e) (he : 2 ≤ e ∧ e ≤ 5) (h3 : M'.1 7 3 = N'.1 62 70) (h5 : M'.1 7 5 = N'.1 62 73) : Fn P n ff M N M' N' := by
  obtain ⟨s1, s2, s3, s4⟩ := hS
  have g : gF M N M' N' := ⟨⟨e2, fun a p u => eM a p (fun z => u (by unfold kC at z; unfold cAr; omega))⟩, e3, fun a p u => eN a p (fun z => u (by unfold kR' at z; unfold rAr; omega))⟩
  obtain ⟨n1, n2⟩ := Cr_nd s2
  obtain ⟨⟨q1, q2⟩, ⟨q3, q4⟩, q5, q6⟩ := s3
  have mm : ∀ a p, ¬ kC a p → M'.1 a p = M.1 a p := eM
  refine ⟨⟨e, m, ⟨h7, h74, he⟩, h3, ⟨(eM _ _ (by unfold kC; omega)).trans q1, (eN _ _ (by unfold kR'; omega)).trans q2, s2.1.1⟩, ?_, ?_, h5, fun k hk => ?_⟩, fun i hi => ?_, fun nm h1 h2 => eM _ _ (by unfold kC; omega), g⟩
  · rw [eM _ _ (by unfold kC; omega), eN _ _ (by unfold kR'; omega), q3, q4]
  · rw [eM _ _ (by unfold kC; omega), eN _ _ (by unfold kR'; omega), q5, q6]
  · rw [eM _ _ (by unfold kC; omega), eN _ _ (by unfold kR'; omega)]; exact n1 k hk
  · rw [eM _ _ (by unfold kC; omega), eN _ _ (by unfold kR'; omega)]; exact n2 i hi
-- tasks one by one
theorem r_pop2 (e36 : N.1 62 36 = nI (t + 1)) (ht : t < 3000) (e74 : N.1 62 74 = nI 0) (hk : tk3 N t (nI 2) a w) (e72 : N.1 62 72 = nI (d + 1)) (hd : d < 1000) : gX11_goes_0 N = some (.inl (), mv_si (mv_si N 62 36 (nI t)) 62 72 (nI d)) := by
  rw [r_pp e36 ht e74 hk]
  unfold gO fX11_goes_394
  rw [if_neg (by decide), if_pos (by decide)]
  simp (disch := omega) only [↓reduceIte, Nat.add_sub_cancel, e72, k_iT, k_iF, Bool.false_eq_true, eq_self, Nat.add_zero, k_lt', k_bs, k_T, k_F, k_inb, k_ck, k_nz, ↓kN, kL, k_lt, k_le, k_eq, kn_le, kn_lt, kn_eq, kn_le', kn_lt', kn_eq', nI_clamp, nI_add, k_sub, k_mul, k_div, rd_hi, rd_mi, rd_hl, rd_ml, rd_hr, rd_mr, rd_si2, rd_sl1, rd_sl2, rd_sr1, rd_sr2]
theorem r_pop3 (e36 : N.1 62 36 = nI (t + 1)) (ht : t < 3000) (e74 : N.1 62 74 = nI 0) (hk : tk3 N t (nI 3) (nI y) w) (hy : y < 1540) : gX11_goes_0 N = some (.inl (), mv_si (mv_si (mv_si (mv_si N 62 36 (nI t)) 97 y (nI 2)) 98 y (N.1 62 77)) 99 y (N.1 62 78)) := by
  rw [r_pp e36 ht e74 hk]
  unfold gO fX11_goes_394
  rw [if_neg (by decide), if_neg (by decide), if_pos (by decide)]
  simp (disch := omega) only [↓reduceIte, Nat.add_sub_cancel, k_iT, k_iF, Bool.false_eq_true, eq_self, Nat.add_zero, k_lt', k_bs, k_T, k_F, k_inb, k_ck, k_nz, ↓kN, kL, k_lt, k_le, k_eq, kn_le, kn_lt, kn_eq, kn_le', kn_lt', kn_eq', nI_clamp, nI_add, k_sub, k_mul, k_div, rd_hi, rd_mi, rd_hl, rd_ml, rd_hr, rd_mr, rd_si2, rd_sl1, rd_sl2, rd_sr1, rd_sr2]
theorem r_pop4 (e36 : N.1 62 36 = nI (t + 1)) (ht : t < 3000) (e74 : N.1 62 74 = nI 0) (hk : tk3 N t (nI 4) a w) (e82 : N.1 62 82 = nI d) (hd : d < 3000) : gX11_goes_0 N = some (.inl (), mv_si (mv_si (mv_si N 62 36 (nI t)) 105 d (N.1 62 78)) 62 82 (nI (d + 1))) := by
  rw [r_pp e36 ht e74 hk]
  unfold gO fX11_goes_394
  rw [if_neg (by decide), if_neg (by decide), if_neg (by decide), if_pos (by decide)]
  simp (disch := omega) only [↓reduceIte, Nat.add_sub_cancel, e82, k_iT, k_iF, Bool.false_eq_true, eq_self, Nat.add_zero, k_lt', k_bs, k_T, k_F, k_inb, k_ck, k_nz, ↓kN, kL, k_lt, k_le, k_eq, kn_le, kn_lt, kn_eq, kn_le', kn_lt', kn_eq', nI_clamp, nI_add, k_sub, k_mul, k_div, rd_hi, rd_mi, rd_hl, rd_ml, rd_hr, rd_mr, rd_si2, rd_sl1, rd_sl2, rd_sr1, rd_sr2]
theorem r_pop6 (e36 : N.1 62 36 = nI (t + 1)) (ht : t < 3000) (e74 : N.1 62 74 = nI 0) (hk : tk3 N t (nI 6) (nI y) w) (hy : y < 2002) : gX11_goes_0 N = some (.inl (), pT (mv_si N 62 36 (nI t)) t (nI 1) (if N.1 62 78 = 0 then N.1 74 y else N.1 73 y) w) := by
  rw [r_pp e36 ht e74 hk]
  have q : ∀ z, fX11_task (nI 1) z w (mv_si N 62 36 (nI t)) = some ((), pT (mv_si N 62 36 (nI t)) t (nI 1) z w) := fun z => r_task (by simp (disch := omega) only [rd_hi, rd_mi, rd_hl, rd_ml, rd_hr, rd_mr, rd_si2, rd_sl1, rd_sl2, rd_sr1, rd_sr2]) ht
  unfold gO fX11_goes_306 fX11_goes_394
  rw [if_neg (by decide), if_neg (by decide), if_neg (by decide), if_neg (by decide), if_neg (by decide), if_pos (by decide)]
  by_cases u : N.1 62 78 = 0
  · have u' : N.1 62 78 = nI 0 := u
    simp (disch := omega) only [↓reduceIte, Nat.add_sub_cancel, u', q, k_iT, k_iF, Bool.false_eq_true, eq_self, Nat.add_zero, k_lt', k_bs, k_T, k_F, k_inb, k_ck, k_nz, ↓kN, kL, k_lt, k_le, k_eq, kn_le, kn_lt, kn_eq, kn_le', kn_lt', kn_eq', nI_clamp, nI_add, k_sub, k_mul, k_div, rd_hi, rd_mi, rd_hl, rd_ml, rd_hr, rd_mr, rd_si2, rd_sl1, rd_sl2, rd_sr1, rd_sr2]
  · have u' : ¬ N.1 62 78 = nI 0 := u
    simp only [u, if_false]
    simp (disch := omega) only [↓reduceIte, Nat.add_sub_cancel, u', q, k_iT, k_iF, Bool.false_eq_true, eq_self, Nat.add_zero, k_lt', k_bs, k_T, k_F, k_inb, k_ck, k_nz, ↓kN, kL, k_lt, k_le, k_eq, kn_le, kn_lt, kn_eq, kn_le', kn_lt', kn_eq', nI_clamp, nI_add, k_sub, k_mul, k_div, rd_hi, rd_mi, rd_hl, rd_ml, rd_hr, rd_mr, rd_si2, rd_sl1, rd_sl2, rd_sr1, rd_sr2]
theorem r_pop7 {p nm : Nat} (e36 : N.1 62 36 = nI (t + 1)) (ht : t < 3000) (e74 : N.1 62 74 = nI 0) (hk : tk3 N t (nI 7) (nI y) (nI fr)) (hy : y < 2002) (e78 : N.1 62 78 = nI p) (hp : p < 1540) (ey : N.1 74 y = nI nm) (hn : nm < 15) (hf : fr ≤ 1500) : gX11_goes_0 N = some (.inl (), pT (mv_si (mv_si (mv_si N 62 36 (nI t)) 103 (16 * fr + nm) (N.1 101 p)) 103 (16 * fr + nm + 1) (N.1 102 p)) t (nI 1) (N.1 73 y) (nI fr)) := by
  rw [r_pp e36 ht e74 hk]
  have q : ∀ z w, fX11_task (nI 1) z w (mv_si (mv_si (mv_si N 62 36 (nI t)) 103 (16 * fr + nm) (N.1 101 p)) 103 (16 * fr + nm + 1) (N.1 102 p)) = some ((), pT (mv_si (mv_si (mv_si N 62 36 (nI t)) 103 (16 * fr + nm) (N.1 101 p)) 103 (16 * fr + nm + 1) (N.1 102 p)) t (nI 1) z w) := fun z w => r_task (by simp (disch := omega) only [rd_hi, rd_mi, rd_hl, rd_ml, rd_hr, rd_mr, rd_si2, rd_sl1, rd_sl2, rd_sr1, rd_sr2]) ht
  unfold gO fX11_goes_394
  rw [if_neg (by decide), if_neg (by decide), if_neg (by decide), if_neg (by decide), if_neg (by decide), if_neg (by decide), if_pos (by decide)]
  simp (disch := omega) only [↓reduceIte, Nat.add_sub_cancel, e78, ey, q, k_iT, k_iF, Bool.false_eq_true, eq_self, Nat.add_zero, k_lt', k_bs, k_T, k_F, k_inb, k_ck, k_nz, ↓kN, kL, k_lt, k_le, k_eq, kn_le, kn_lt, kn_eq, kn_le', kn_lt', kn_eq', nI_clamp, nI_add, k_sub, k_mul, k_div, rd_hi, rd_mi, rd_hl, rd_ml, rd_hr, rd_mr, rd_si2, rd_sl1, rd_sl2, rd_sr1, rd_sr2]
-- kinds of work
theorem wk_5 (h71 : N.1 71 y = nI 5) (hy : y < 2002) : wkR (nI y) w N = some ((), mv_si (mv_si N 62 77 (nI 0)) 62 78 (N.1 72 y)) := by
  unfold wkR fX11_gives
  simp (disch := omega) only [↓reduceIte, h71, k_iT, k_iF, Bool.false_eq_true, eq_self, Nat.add_zero, k_lt', k_bs, k_T, k_F, k_inb, k_ck, k_nz, ↓kN, kL, k_lt, k_le, k_eq, kn_le, kn_lt, kn_eq, kn_le', kn_lt', kn_eq', nI_clamp, nI_add, k_sub, k_mul, k_div, rd_hi, rd_mi, rd_hl, rd_ml, rd_hr, rd_mr, rd_si2, rd_sl1, rd_sl2, rd_sr1, rd_sr2]
theorem wk_6 (h71 : N.1 71 y = nI 6) (hy : y < 2002) : wkR (nI y) w N = some ((), mv_si N 62 74 (nI 2)) := by
  unfold wkR
  simp (disch := omega) only [↓reduceIte, h71, k_iT, k_iF, Bool.false_eq_true, eq_self, Nat.add_zero, k_lt', k_bs, k_T, k_F, k_inb, k_ck, k_nz, ↓kN, kL, k_lt, k_le, k_eq, kn_le, kn_lt, kn_eq, kn_le', kn_lt', kn_eq', nI_clamp, nI_add, k_sub, k_mul, k_div, rd_hi, rd_mi, rd_hl, rd_ml, rd_hr, rd_mr, rd_si2, rd_sl1, rd_sl2, rd_sr1, rd_sr2]
theorem wk_1 (h71 : N.1 71 y = nI 1) (hy : y < 2002) (h36 : N.1 62 36 = nI t) (ht : t < 2900) : wkR (nI y) w N = some ((), pT (pT (pT (pT N t (nI 5) (N.1 74 y) (nI 0)) (t + 1) (nI 1) (N.1 73 y) w) (t + 2) (nI 4) (nI 0) (nI 0)) (t + 3) (nI 1) (N.1 72 y) w) := by
  have q1 : ∀ a w, fX11_task (nI 5) a w N = some ((), pT N t (nI 5) a w) := fun a w => r_task h36 (by omega)
  unfold wkR
  simp (disch := omega) only [↓reduceIte, h71, q1, k_iT, k_iF, Bool.false_eq_true, eq_self, Nat.add_zero, k_lt', k_bs, k_T, k_F, k_inb, k_ck, k_nz, ↓kN, kL, k_lt, k_le, k_eq, kn_le, kn_lt, kn_eq, kn_le', kn_lt', kn_eq', nI_clamp, nI_add, k_sub, k_mul, k_div, rd_hi, rd_mi, rd_hl, rd_ml, rd_hr, rd_mr, rd_si2, rd_sl1, rd_sl2, rd_sr1, rd_sr2]
  rw [r_task (t := t + 1) pT_36 (by omega), k_bs, r_task (t := t + 2) pT_36 (by omega), k_bs, pT_s (by omega), pT_s (by omega), pT_s (by omega), r_task (t := t + 3) pT_36 (by omega), k_bs, pT_s (by omega)]
theorem wk_2 (h71 : N.1 71 y = nI 2) (hy : y < 2002) (h36 : N.1 62 36 = nI t) (ht : t < 2900) : wkR (nI y) w N = some ((), pT (pT N t (nI 6) (nI y) w) (t + 1) (nI 1) (N.1 72 y) w) := by
  have q1 : ∀ a w, fX11_task (nI 6) a w N = some ((), pT N t (nI 6) a w) := fun a w => r_task h36 (by omega)
  unfold wkR
  simp (disch := omega) only [↓reduceIte, h71, q1, k_iT, k_iF, Bool.false_eq_true, eq_self, Nat.add_zero, k_lt', k_bs, k_T, k_F, k_inb, k_ck, k_nz, ↓kN, kL, k_lt, k_le, k_eq, kn_le, kn_lt, kn_eq, kn_le', kn_lt', kn_eq', nI_clamp, nI_add, k_sub, k_mul, k_div, rd_hi, rd_mi, rd_hl, rd_ml, rd_hr, rd_mr, rd_si2, rd_sl1, rd_sl2, rd_sr1, rd_sr2]
  rw [r_task (t := t + 1) pT_36 (by omega), k_bs, pT_s (by omega)]
theorem wk_4 (h71 : N.1 71 y = nI 4) (hy : y < 2002) (h36 : N.1 62 36 = nI t) (ht : t < 2900) : wkR (nI y) w N = some ((), pT (pT N t (nI 7) (nI y) w) (t + 1) (nI 1) (N.1 72 y) w) := by
  have q1 : ∀ a w, fX11_task (nI 7) a w N = some ((), pT N t (nI 7) a w) := fun a w => r_task h36 (by omega)
  unfold wkR
  simp (disch := omega) only [↓reduceIte, h71, q1, k_iT, k_iF, Bool.false_eq_true, eq_self, Nat.add_zero, k_lt', k_bs, k_T, k_F, k_inb, k_ck, k_nz, ↓kN, kL, k_lt, k_le, k_eq, kn_le, kn_lt, kn_eq, kn_le', kn_lt', kn_eq', nI_clamp, nI_add, k_sub, k_mul, k_div, rd_hi, rd_mi, rd_hl, rd_ml, rd_hr, rd_mr, rd_si2, rd_sl1, rd_sl2, rd_sr1, rd_sr2]
  rw [r_task (t := t + 1) pT_36 (by omega), k_bs, pT_s (by omega)]
-- the class's choice
theorem go_at (hP : Pg b h P F ND M N) (hf : f < F) (h1 : P 15 f ≤ x) (h2 : x ≤ P 12 f) (e51 : M.1 51 d = nI x) (hd : d < 150) : fX2_goOn (nI d) M = (if P 0 x = 2 then fX2_goOnName (nI x) (nI d) M else if P 0 x = 3 then fX2_leave (M.1 (b + 9) x) M else if P 0 x = 5 then fX2_goOnCall (nI x) (nI d) M else if P 0 x = 6 then fX2_makePair (nI x) (M.1 52 d) M else if P 0 x = 301 then fX2_goOnIf (nI x) (nI d) M else if P 0 x = 304 then fX2_goOnLet (nI x) (nI d) M else if P 0 x = 306 then fX2_goOnCase (nI x) (nI d) M else if P 0 x = 308 then some ((), mv_si M 7 2 (nI 2)) else fX2_goOnSign (nI x) (nI d) M) := by
  obtain ⟨hW, hs, hR, h76⟩ := hP
  have w := hW.2.2.2 f hf
  have hND := hW.2.2.1
  have hxN : x < ND := by have := w.2.2.2.2.2.1; omega
  have hk : P 0 x < 400 := by
    have := (w.2.2.2.2.2.2.2.2.2 x h1 h2).2.2.2.2.2
    unfold pN sgK at this
    omega
  have e8 := ((hR.2.2.2.2.2 f hf).2.2.2 x h1 h2).1
  have eN := hR.2.2.2.1
  have gp : ∀ {γ : Type} (K : Nat → Option γ), mv_getp (some b) K = K b := fun K => gp_b hR.1
  have hn : fX4_hasNode b (nI x) M = some (1, M) := by
    unfold fX4_hasNode
    simp (disch := omega) only [eN, k_iT, k_iF, Bool.false_eq_true, eq_self, Nat.add_zero, k_lt', k_bs, k_T, k_F, k_inb, k_ck, k_nz, ↓kN, kL, k_lt, k_le, k_eq, kn_le, kn_lt, kn_eq, kn_le', kn_lt', kn_eq', nI_clamp, nI_add, k_sub, k_mul, k_div, rd_hi, rd_mi, rd_hl, rd_ml, rd_hr, rd_mr, rd_si2, rd_sl1, rd_sl2, rd_sr1, rd_sr2]
  have hin : mv_inb (nI x) 1000 = true := k_inb (by omega) (by omega)
  unfold fX2_goOn
  rw [k_inb hd (by omega), k_ck, k_lt', nI_clamp (by omega), e51, h76, gp, hn, k_bs, if_neg (by decide), h76, gp, hin, k_ck, nI_clamp (by omega), e8]
  have kk : ∀ j, j < 400 → ((nI (P 0 x) = nI j) = (P 0 x = j)) := fun j hj => k_eq (by omega) (by omega)
  by_cases k2 : P 0 x = 2
  · rw [if_pos (show nI (P 0 x) = 2 by rw [k2]; rfl), if_pos k2, bind_id]
  rw [if_neg (show ¬ nI (P 0 x) = (2 : Int32) from fun z => k2 (by rw [← kk 2 (by omega)]; exact z)), if_neg k2]
  by_cases k3 : P 0 x = 3
  · rw [if_pos (show nI (P 0 x) = 3 by rw [k3]; rfl), if_pos k3, gp, k_ck, bind_id]
  rw [if_neg (show ¬ nI (P 0 x) = (3 : Int32) from fun z => k3 (by rw [← kk 3 (by omega)]; exact z)), if_neg k3]
  by_cases k5 : P 0 x = 5
  · rw [if_pos (show nI (P 0 x) = 5 by rw [k5]; rfl), if_pos k5, bind_id]
  rw [if_neg (show ¬ nI (P 0 x) = (5 : Int32) from fun z => k5 (by rw [← kk 5 (by omega)]; exact z)), if_neg k5]
  by_cases k6 : P 0 x = 6
  · rw [if_pos (show nI (P 0 x) = 6 by rw [k6]; rfl), if_pos k6, k_ck, bind_id]
  rw [if_neg (show ¬ nI (P 0 x) = (6 : Int32) from fun z => k6 (by rw [← kk 6 (by omega)]; exact z)), if_neg k6]
  by_cases k301 : P 0 x = 301
  · rw [if_pos (show nI (P 0 x) = 301 by rw [k301]; rfl), if_pos k301, bind_id]
  rw [if_neg (show ¬ nI (P 0 x) = (301 : Int32) from fun z => k301 (by rw [← kk 301 (by omega)]; exact z)), if_neg k301]
  by_cases k304 : P 0 x = 304
  · rw [if_pos (show nI (P 0 x) = 304 by rw [k304]; rfl), if_pos k304, bind_id]
  rw [if_neg (show ¬ nI (P 0 x) = (304 : Int32) from fun z => k304 (by rw [← kk 304 (by omega)]; exact z)), if_neg k304]
  by_cases k306 : P 0 x = 306
  · rw [if_pos (show nI (P 0 x) = 306 by rw [k306]; rfl), if_pos k306, bind_id]
  rw [if_neg (show ¬ nI (P 0 x) = (306 : Int32) from fun z => k306 (by rw [← kk 306 (by omega)]; exact z)), if_neg k306]
  by_cases k308 : P 0 x = 308
  · rw [if_pos (show nI (P 0 x) = 308 by rw [k308]; rfl), if_pos k308]
    rfl
  rw [if_neg (show ¬ nI (P 0 x) = (308 : Int32) from fun z => k308 (by rw [← kk 308 (by omega)]; exact z)), if_neg k308, bind_id]
theorem SS_node (hS : SS b h P F ND it n m pr cl ff st mx dp dd t kp M N) (hx : xX P F it n m cl ff M N x fr) : (x < ND ∧ ND ≤ 1000 ∧ P 7 x ≤ x ∧ P 5 x ≤ 4 ∧ fr ≤ 1500 ∧ P 6 x < 2002) ∧ pN P F (ff fr) x ∧ pD P (ff fr) x ∧ mN b h P x M N ∧ (∀ k, P 7 x ≤ k → k ≤ x → P 7 x ≤ P 7 k) := by
  obtain ⟨⟨hW, hs, hR, h76⟩, hC, _, _⟩ := hS
  obtain ⟨x1, x2, x3, x4, x5⟩ := hx
  have w := hW.2.2.2 _ x2
  have w2 := w.2.2.2.2.2.1
  obtain ⟨v1, v2, v3, v4, v5, v6⟩ := w.2.2.2.2.2.2.2.2.2 x x3 x4
  have mm := (hR.2.2.2.2.2 _ x2).2.2.2 x x3 x4
  have := hC.1
  exact ⟨⟨by omega, hW.2.2.1, v4, v1, by omega, mm.2.2.1⟩, v6, hs _ x2 x x3 x4, mm, v5⟩
/-- into a part -/
theorem xX_in {c : Nat} (hW : WFp P F ND) (hx : xX P F it n m cl ff M N x fr) (h1 : P 7 x ≤ c) (h2 : c < x) (h3 : ∀ k, c < k → k < x → c < P 7 k) (h4 : ∀ y, P 7 c ≤ y → y ≤ c → P 0 y = 2 → P 9 (ff fr) ≤ P 1 y → P 14 (16 * ff fr + P 1 y) = x → bB P it n m M N fr (P 1 y) (P 13 (16 * ff fr + P 1 y))) : xX P F it n m cl ff M N c fr := by
  obtain ⟨x1, x2, x3, x4, x5⟩ := hx
  have w := hW.2.2.2 _ x2
  obtain ⟨v1, v2, v3, v4, v5, v6⟩ := w.2.2.2.2.2.2.2.2.2 x x3 x4
  refine ⟨x1, x2, by omega, by omega, fun y y1 y2 y3 y4 => ?_⟩
  have l1 := v5 c h1 (by omega)
  obtain ⟨u1, u2, u3, u4, u5, u6⟩ := w.2.2.2.2.2.2.2.2.2 y (by omega) (by omega)
  by_cases hp : P 1 y < P 9 (ff fr)
  · exact x5 y (by omega) (by omega) y3 (.inl hp)
  · have hb : c < P 14 (16 * ff fr + P 1 y) := by omega
    by_cases h5 : x < P 14 (16 * ff fr + P 1 y)
    · exact x5 y (by omega) (by omega) y3 (.inr h5)
    · by_cases h6 : P 14 (16 * ff fr + P 1 y) = x
      · exact h4 y y1 y2 y3 (by omega) h6
      · have l2 := h3 _ hb (by omega)
        have hS : pS P (ff fr) y (P 1 y) := by
          unfold pN sgK at u6
          rcases u6 with z | z | ⟨_, _, _, z⟩ | ⟨z, _⟩ | ⟨z, _⟩ | ⟨z, _⟩ | ⟨z, _⟩ | ⟨z, _⟩ | ⟨z, _⟩
          · omega
          · omega
          · exact z
          all_goals omega
        rcases hS with z | ⟨z1, z2, z3, z4, z5⟩
        · omega
        · omega
end RW
