section RC
variable {b h F ND f a q n i k c d lv lv' t t' p g nn : Nat} {M N N' N1 N2 N3 : mv_M} {P : Nat → Nat → Nat} {R : Nat → Nat → Option (Nat → Nat)} {ty u y : Nat → Nat} {w : Nat → Int32} {X Y Z : Option (Nat → Nat)} {op nd v to : Int32}
theorem rk_row (s : Nat) : rk s < 10 ∧ (s ≠ 308 → s ≠ 5 → rk s ≠ 6 ∧ rk s ≠ 8) := by
  unfold rk
  repeat' split
  all_goals omega
theorem a_ent {dd : Nat} (hs : aS b h P F ND f R M N) (c1 : P 15 f ≤ c) (c2 : c ≤ P 12 f) (h36 : N.1 62 36 = nI (t + 1)) (ht : t < 3000) (htk : tk N t (nI 1) (nI (P 6 c)) (nI d) (nI (16 * lv))) (hl : lv < 490) (hD : (P 0 c = 308 ∧ dd = 1) ∨ (P 0 c = 5 ∧ N.1 91 (26 * P 1 c + d) = nI dd ∧ dd ≤ 1 ∧ P 1 c < 12 ∧ d < 26) ∨ (P 0 c ≠ 308 ∧ P 0 c ≠ 5 ∧ dd = 0)) : ∃ N9, kL2 t lv N N9 ∧ N9.1 62 36 = nI t ∧ N9.1 89 lv = nI dd ∧ (∀ n, n < 16 → N9.1 88 (16 * lv + n) = nI 0) ∧ gX11_asks_13 N = mv_bind (askB (nI (P 6 c)) (nI d) (nI (16 * lv)) (nI (rk (P 0 c))) N9) (fun _ M26 => fX11_asks_256 M26) := by
  have L4 : kL2 t lv N (mv_si N 62 36 (nI t)) := kL2_si (by omega)
  have L7 : kL2 t lv N (pG 88 (mv_si N 62 36 (nI t)) (16 * lv) 16 (fun _ => nI 0)) := kL2_tr L4 (kL2_pG (Nat.le_refl _)) (Nat.le_refl _) (Nat.le_refl _)
  have hs7 := aS_F hs L7.1
  have hh := hs.2.2.2.1.2.1
  have m7 := (hs7.2.2.2.1.2.2.2.2.2 f hs7.2.2.1).2.2.2 c c1 c2
  have e71 := m7.2.2.2.1
  have h6 := m7.2.2.1
  have e91 : ∀ p, (pG 88 (mv_si N 62 36 (nI t)) (16 * lv) 16 (fun _ => nI 0)).1 91 p = N.1 91 p := fun p => L7.1.2 91 p (by unfold aC; omega)
  obtain ⟨rk1, rk2⟩ := rk_row (P 0 c)
  have v0 : vp_nar .boolean (nI 0) = nI 0 := vp0
  have v1 : vp_nar .boolean (nI 1) = nI 1 := vp1
  have dv : 16 * lv / 16 = lv := by omega
  have key : fX11_onAsk_3 (nI (P 6 c)) (nI d) (nI (16 * lv)) (nI 16) (pG 88 (mv_si N 62 36 (nI t)) (16 * lv) 16 (fun _ => nI 0)) = askB (nI (P 6 c)) (nI d) (nI (16 * lv)) (nI (rk (P 0 c))) (mv_si (pG 88 (mv_si N 62 36 (nI t)) (16 * lv) 16 (fun _ => nI 0)) 89 lv (nI dd)) := by
    have K83 : ∀ dd, dd ≤ 1 → fX11_onAsk_83 (nI (P 6 c)) (nI d) (nI (16 * lv)) (nI (rk (P 0 c))) (nI dd) (nI lv) (pG 88 (mv_si N 62 36 (nI t)) (16 * lv) 16 (fun _ => nI 0)) = askB (nI (P 6 c)) (nI d) (nI (16 * lv)) (nI (rk (P 0 c))) (mv_si (pG 88 (mv_si N 62 36 (nI t)) (16 * lv) 16 (fun _ => nI 0)) 89 lv (nI dd)) := by
      intro dd hdd
      have ev : vp_nar .boolean (nI dd) = nI dd := by
        rcases (show dd = 0 ∨ dd = 1 by omega) with rfl | rfl
        · exact v0
        · exact v1
      have e : ∀ Nx, fX11_onAsk_83 (nI (P 6 c)) (nI d) (nI (16 * lv)) (nI (rk (P 0 c))) (nI dd) (nI lv) Nx = mv_chk (mv_inb (nI lv) 500) (mv_let (mv_si Nx 89 (nI lv).toNatClampNeg (vp_nar .boolean (nI dd))) fun M9 => askB (nI (P 6 c)) (nI d) (nI (16 * lv)) (nI (rk (P 0 c))) M9) := fun _ => rfl
      rw [e, ev]
      simp (disch := omega) only [k_iT, k_iF, Bool.false_eq_true, eq_self, Nat.add_zero, k_lt', k_bs, k_T, k_F, k_inb, k_ck, k_nz, ↓kN, kL, k_lt, k_le, k_eq, kn_le, kn_lt, kn_eq, kn_le', kn_lt', kn_eq', nI_clamp, nI_add, k_sub, k_mul, k_div, rd_hi, rd_mi, rd_hl, rd_ml, rd_hr, rd_mr, rd_si2, rd_sl1, rd_sl2, rd_sr1, rd_sr2]
    have K0 := K83 0 (by omega)
    have K1 := K83 1 (by omega)
    unfold fX11_onAsk_3
    refine lp_inr ?_
    unfold gX11_onAsk_3 fX11_onAsk_78 fX11_onAsk_82
    rcases hD with ⟨z, rfl⟩ | ⟨z, e, hdd, hq, hd⟩ | ⟨z, z', rfl⟩
    · have : rk (P 0 c) = 6 := by rw [z]; rfl
      simp (disch := omega) only [e71, this, dv, k_iT, k_iF, Bool.false_eq_true, eq_self, Nat.add_zero, k_lt', k_bs, k_T, k_F, k_inb, k_ck, k_nz, ↓kN, kL, k_lt, k_le, k_eq, kn_le, kn_lt, kn_eq, kn_le', kn_lt', kn_eq', nI_clamp, nI_add, k_sub, k_mul, k_div, rd_hi, rd_mi, rd_hl, rd_ml, rd_hr, rd_mr, rd_si2, rd_sl1, rd_sl2, rd_sr1, rd_sr2]
      rw [this] at K1
      rw [K1]
    · have e8 : rk (P 0 c) = 8 := by rw [z]; rfl
      have e74 := (m7.2.2.2.2.2.2.2.1 z).2.1
      have er : 26 * (12 * h + P 1 c - (12 * h + P 1 c) / 12 * 12) + d = 26 * P 1 c + d := by omega
      rw [e8] at K0 K1
      rcases (show dd = 0 ∨ dd = 1 by omega) with rfl | rfl
      · simp (disch := omega) only [e71, e8, dv, e74, er, e91, e, K0, k_iT, k_iF, Bool.false_eq_true, eq_self, Nat.add_zero, k_lt', k_bs, k_T, k_F, k_inb, k_ck, k_nz, ↓kN, kL, k_lt, k_le, k_eq, kn_le, kn_lt, kn_eq, kn_le', kn_lt', kn_eq', nI_clamp, nI_add, k_sub, k_mul, k_div, rd_hi, rd_mi, rd_hl, rd_ml, rd_hr, rd_mr, rd_si2, rd_sl1, rd_sl2, rd_sr1, rd_sr2]
      · simp (disch := omega) only [e71, e8, dv, e74, er, e91, e, K1, k_iT, k_iF, Bool.false_eq_true, eq_self, Nat.add_zero, k_lt', k_bs, k_T, k_F, k_inb, k_ck, k_nz, ↓kN, kL, k_lt, k_le, k_eq, kn_le, kn_lt, kn_eq, kn_le', kn_lt', kn_eq', nI_clamp, nI_add, k_sub, k_mul, k_div, rd_hi, rd_mi, rd_hl, rd_ml, rd_hr, rd_mr, rd_si2, rd_sl1, rd_sl2, rd_sr1, rd_sr2]
    · obtain ⟨u1, u2⟩ := rk2 z z'
      simp (disch := omega) only [e71, dv, K0, k_iT, k_iF, Bool.false_eq_true, eq_self, Nat.add_zero, k_lt', k_bs, k_T, k_F, k_inb, k_ck, k_nz, ↓kN, kL, k_lt, k_le, k_eq, kn_le, kn_lt, kn_eq, kn_le', kn_lt', kn_eq', nI_clamp, nI_add, k_sub, k_mul, k_div, rd_hi, rd_mi, rd_hl, rd_ml, rd_hr, rd_mr, rd_si2, rd_sl1, rd_sl2, rd_sr1, rd_sr2]
  obtain ⟨k1, k2, k3, k4⟩ := htk
  have hdd : dd ≤ 1 := by omega
  refine ⟨_, kL2_tr L7 (kL2_si (t := t) (lv := lv) (a := 89) (p := lv) (v := nI dd) (by omega)) (Nat.le_refl _) (Nat.le_refl _), ?_, by simp (disch := omega) only [rd_hi, rd_mi, rd_hl, rd_ml, rd_hr, rd_mr, rd_si2, rd_sl1, rd_sl2, rd_sr1, rd_sr2], fun n hn => ?_, ?_⟩
  · rw [rd_mi (by omega), pG_out (by omega)]
    simp (disch := omega) only [rd_hi, rd_mi, rd_hl, rd_ml, rd_hr, rd_mr, rd_si2, rd_sl1, rd_sl2, rd_sr1, rd_sr2]
  · rw [rd_mi (by omega), pG_in hn]
  · rw [← key, ← a_clr hl]
    unfold gX11_asks_13 fX11_onAsk
    simp (disch := omega) only [h36, k1, k2, k3, k4, Nat.add_sub_cancel, k_iT, k_iF, Bool.false_eq_true, eq_self, Nat.add_zero, k_lt', k_bs, k_T, k_F, k_inb, k_ck, k_nz, ↓kN, kL, k_lt, k_le, k_eq, kn_le, kn_lt, kn_eq, kn_le', kn_lt', kn_eq', nI_clamp, nI_add, k_sub, k_mul, k_div, rd_hi, rd_mi, rd_hl, rd_ml, rd_hr, rd_mr, rd_si2, rd_sl1, rd_sl2, rd_sr1, rd_sr2]
/-- asking with labels below k is as it should be -/
def aI (b h : Nat) (P : Nat → Nat → Nat) (F ND f : Nat) (R : Nat → Nat → Option (Nat → Nat)) (M : mv_M) (k : Nat) : Prop := ∀ N, aS b h P F ND f R M N → ∀ lv c d t, P 15 f ≤ c → c ≤ P 12 f → P 8 c < k → 0 < d → d < dem (P 5 c) → lv + 2 * k ≤ 480 → t + 5 * k ≤ 2990 → N.1 62 36 = nI (t + 1) → tk N t (nI 1) (nI (P 6 c)) (nI d) (nI (16 * lv)) → ∃ N', fX11_asks_13 N = fX11_asks_13 N' ∧ N'.1 62 36 = nI t ∧ kL2 t lv N N' ∧ aK (P 10 f) lv (pE P R (fun n => P 13 (16 * f + n)) k c d) N'
theorem a_two (ih : aI b h P F ND f R M k) (hs : aS b h P F ND f R M N) (c1 : P 15 f ≤ c) (c2 : c ≤ P 12 f) (hl : P 8 c < k) (h0 : 0 < d) (hd : d < dem (P 5 c)) (hlv : lv + 1 + 2 * k ≤ 480) (ht : t + 1 + 5 * k ≤ 2990) (h36 : N.1 62 36 = nI (t + 2)) (k1 : tk N t (nI 2) nd v (nI (16 * lv))) (k2 : tk N (t + 1) (nI 1) (nI (P 6 c)) (nI d) (nI (16 * (lv + 1)))) (hK : aK (P 10 f) lv X N) (vX : vOK (fun n => P 13 (16 * f + n)) (P 10 f) X) : ∃ N', fX11_asks_13 N = fX11_asks_13 N' ∧ N'.1 62 36 = nI t ∧ kL2 t lv N N' ∧ aK (P 10 f) lv (jn (fun n => P 13 (16 * f + n)) X (pE P R (fun n => P 13 (16 * f + n)) k c d)) N' := by
  have hn := (hs.1.2.2.2 f hs.2.2.1).2.2.1
  obtain ⟨N1, E1, t1, L1, K1⟩ := ih N hs (lv + 1) c d (t + 1) c1 c2 hl h0 hd (by omega) (by omega) h36 k2
  have hs1 := aS_F hs L1.1
  obtain ⟨N2, E2, t2, L2, K2⟩ := a_jn hs1 t1 (by omega) (tk_L k1 L1 (by omega)) (by omega) (aK_up hK L1 hn) K1 vX (pE_ok hs.1 hs.2.1 hs.2.2.1 k c d c1 c2 hl h0 hd)
  exact ⟨N2, E1.trans E2, t2, kL2_tr (kL2_le L1 (by omega) (by omega)) L2 (Nat.le_refl _) (Nat.le_refl _), K2⟩
theorem ag_none {E : Nat → Nat → Option (Nat → Nat)} {a r : Nat → Nat} : ∀ j i, ag ty E a r j i none = none := by
  intro j
  induction j with
  | zero => intro i; rfl
  | succ j ih =>
    intro i
    show ag ty E a r j (i + 1) (if r i = 0 then none else none) = none
    by_cases e : r i = 0
    · rw [if_pos e]; exact ih _
    · rw [if_neg e]; exact ih _
/-- arguments -/
theorem a_next (ih : aI b h P F ND f R M k) {r : Nat → Nat} (c1 : P 15 f ≤ c) (c2 : c ≤ P 12 f) (hl : P 8 c ≤ k) (z0 : P 0 c = 5) (h0 : 0 < d) (hd : d < dem (P 5 c)) (hr : R (P 1 c) d = some r) (hlv : lv + 1 + 2 * k ≤ 480) (ht : t + 2 + 5 * k ≤ 2990) : ∀ j i i0 X N, i + j = P 3 c → i0 ≤ 4 → aS b h P F ND f R M N → N.1 62 36 = nI t → aK (P 10 f) lv X N → vOK (fun n => P 13 (16 * f + n)) (P 10 f) X → ∃ N5 N', fX11_onArgument_25 (nI (P 6 c)) (nI (8 * d + i0)) (nI (16 * lv)) (nI (26 * P 1 c + d)) (nI i) N = some ((), N5) ∧ fX11_asks_13 N5 = fX11_asks_13 N' ∧ N'.1 62 36 = nI t ∧ kL2 t lv N N' ∧ aK (P 10 f) lv (ag (fun n => P 13 (16 * f + n)) (pE P R (fun n => P 13 (16 * f + n)) k) (ar P c) r j i X) N' := by
  intro j
  induction j with
  | zero =>
    intro i i0 X N hi hi0 hs h36 hK vX
    have mc := (hs.2.2.2.1.2.2.2.2.2 f hs.2.2.1).2.2.2 c c1 c2
    have h6 := mc.2.2.1
    have m5 := mc.2.2.2.2.2.2.2.1 z0
    have e73 := m5.2.2.2.1
    have hb := m5.2.2.2.2.2.1
    refine ⟨N, N, ?_, rfl, h36, kL2_rf, hK⟩
    unfold fX11_onArgument_25
    refine Eq.trans (lp_inr (o := fX11_onArgument_57 (nI (P 6 c)) (nI (8 * d + i0)) (nI (16 * lv)) (nI (26 * P 1 c + d)) (nI i) N) ?_) ?_
    · unfold gX11_onArgument_25
      simp (disch := omega) only [e73, k_iT, k_iF, Bool.false_eq_true, eq_self, Nat.add_zero, k_lt', k_bs, k_T, k_F, k_inb, k_ck, k_nz, ↓kN, kL, k_lt, k_le, k_eq, kn_le, kn_lt, kn_eq, kn_le', kn_lt', kn_eq', nI_clamp, nI_add, k_sub, k_mul, k_div, rd_hi, rd_mi, rd_hl, rd_ml, rd_hr, rd_mr, rd_si2, rd_sl1, rd_sl2, rd_sr1, rd_sr2]
    · unfold fX11_onArgument_57
      simp (disch := omega) only [e73, k_iT, k_iF, Bool.false_eq_true, eq_self, Nat.add_zero, k_lt', k_bs, k_T, k_F, k_inb, k_ck, k_nz, ↓kN, kL, k_lt, k_le, k_eq, kn_le, kn_lt, kn_eq, kn_le', kn_lt', kn_eq', nI_clamp, nI_add, k_sub, k_mul, k_div, rd_hi, rd_mi, rd_hl, rd_ml, rd_hr, rd_mr, rd_si2, rd_sl1, rd_sl2, rd_sr1, rd_sr2]
  | succ j jh =>
    intro i i0 X N hi hi0 hs h36 hK vX
    have hw := (hs.1.2.2.2 f hs.2.2.1).2.2.2.2.2.2.2.2.2 c c1 c2
    have mc := (hs.2.2.2.1.2.2.2.2.2 f hs.2.2.1).2.2.2 c c1 c2
    have h6 := mc.2.2.1
    have m5 := mc.2.2.2.2.2.2.2.1 z0
    have e73 := m5.2.2.2.1
    have hb := m5.2.2.2.2.2.1
    have hp : P 1 c < F ∧ P 3 c = P 9 (P 1 c) ∧ P 5 c = P 11 (P 1 c) ∧ ∀ k, k < P 3 c → pC P c (ar P c k) ∧ P 5 (ar P c k) = P 13 (16 * P 1 c + k) := by
      rcases hw.2.2.2.2.2 with ⟨z, _⟩ | z | ⟨z, _⟩ | ⟨_, z1, z2, z3, z4⟩ | ⟨z, _⟩ | ⟨z, _⟩ | ⟨z, _⟩ | ⟨z, _⟩ | ⟨z, _⟩
      case inr.inr.inr.inl => exact ⟨z1, z2, z3, z4⟩
      all_goals (try unfold sgK at z); omega
    obtain ⟨z1, z2, z3, z4⟩ := hp
    have hp4 := (hs.1.2.2.2 _ z1).1
    have hF := hs.1.2.1
    have hd' := dem_le (t := P 5 c)
    have hd2 : d < dem (P 11 (P 1 c)) := by rw [← z3]; exact hd
    have e90 := ((hs.2.2.2.2.2 (P 1 c) z1 d h0 hd2).2 r hr).2 i (by omega)
    have rr := hs.2.1 (P 1 c) z1 d h0 hd2 r hr i (by omega)
    have rr' := dem_le (t := P 13 (16 * P 1 c + i))
    by_cases r0 : r i = 0
    · obtain ⟨N5, N', E5, E', t', L', K'⟩ := jh (i + 1) i0 X N (by omega) hi0 hs h36 hK vX
      refine ⟨N5, N', ?_, E', t', L', ?_⟩
      · unfold fX11_onArgument_25 at E5 ⊢
        refine Eq.trans (lp_go (s' := (nI (P 6 c), nI (8 * d + i0), nI (16 * lv), nI (26 * P 1 c + d), nI (i + 1))) (M' := N) ?_) E5
        unfold gX11_onArgument_25
        simp (disch := omega) only [e73, e90, r0, k_iT, k_iF, Bool.false_eq_true, eq_self, Nat.add_zero, k_lt', k_bs, k_T, k_F, k_inb, k_ck, k_nz, ↓kN, kL, k_lt, k_le, k_eq, kn_le, kn_lt, kn_eq, kn_le', kn_lt', kn_eq', nI_clamp, nI_add, k_sub, k_mul, k_div, rd_hi, rd_mi, rd_hl, rd_ml, rd_hr, rd_mr, rd_si2, rd_sl1, rd_sl2, rd_sr1, rd_sr2]
      · show aK _ _ (ag _ _ _ _ j (i + 1) (if r i = 0 then X else _)) _
        rw [if_pos r0]; exact K'
    · have e57 : fX11_onArgument_25 (nI (P 6 c)) (nI (8 * d + i0)) (nI (16 * lv)) (nI (26 * P 1 c + d)) (nI i) N = fX11_onArgument_57 (nI (P 6 c)) (nI (8 * d + i0)) (nI (16 * lv)) (nI (26 * P 1 c + d)) (nI i) N := by
        unfold fX11_onArgument_25
        refine lp_inr ?_
        unfold gX11_onArgument_25
        simp (disch := omega) only [e73, e90, k_iT, k_iF, Bool.false_eq_true, eq_self, Nat.add_zero, k_lt', k_bs, k_T, k_F, k_inb, k_ck, k_nz, ↓kN, kL, k_lt, k_le, k_eq, kn_le, kn_lt, kn_eq, kn_le', kn_lt', kn_eq', nI_clamp, nI_add, k_sub, k_mul, k_div, rd_hi, rd_mi, rd_hl, rd_ml, rd_hr, rd_mr, rd_si2, rd_sl1, rd_sl2, rd_sr1, rd_sr2]
      have dv : 16 * lv / 16 = lv := by omega
      rcases hK with ⟨rfl, e89⟩ | ⟨x, rfl, e89, vx⟩
      · refine ⟨N, N, ?_, rfl, h36, kL2_rf, .inl ⟨ag_none _ _, e89⟩⟩
        rw [e57]
        unfold fX11_onArgument_57
        simp (disch := omega) only [e73, dv, e89, k_iT, k_iF, Bool.false_eq_true, eq_self, Nat.add_zero, k_lt', k_bs, k_T, k_F, k_inb, k_ck, k_nz, ↓kN, kL, k_lt, k_le, k_eq, kn_le, kn_lt, kn_eq, kn_le', kn_lt', kn_eq', nI_clamp, nI_add, k_sub, k_mul, k_div, rd_hi, rd_mi, rd_hl, rd_ml, rd_hr, rd_mr, rd_si2, rd_sl1, rd_sl2, rd_sr1, rd_sr2]
      · obtain ⟨w1, w2⟩ := z4 i (by omega)
        obtain ⟨s1, s2⟩ := in_seg hs.1 hs.2.2.1 c1 c2 w1
        have e8 : (8 * d + i0) / 8 * 8 + i + 1 = 8 * d + (i + 1) := by omega
        have A1 := a_asking (N := N) (op := nI 6) (nd := nI (P 6 c)) (v := nI (8 * d + (i + 1))) h36 (by omega) (show lv ≤ 490 by omega)
        have A2 := a_asking (N := aP N t (nI 6) (nI (P 6 c)) (nI (8 * d + (i + 1))) (nI (16 * lv))) (op := nI 2) (nd := nI (P 6 c)) (v := nI 0) aP_36 (by omega) (show lv ≤ 490 by omega)
        generalize eN1 : aP N t (nI 6) (nI (P 6 c)) (nI (8 * d + (i + 1))) (nI (16 * lv)) = Na at A1 A2
        have L1 : kL2 t lv N Na := by rw [← eN1]; exact aP_L
        have T1 : tk Na t (nI 6) (nI (P 6 c)) (nI (8 * d + (i + 1))) (nI (16 * lv)) := by rw [← eN1]; exact aP_top
        have Ka : aK (P 10 f) lv (some x) Na := by rw [← eN1]; exact aK_P (.inr ⟨x, rfl, e89, vx⟩)
        have A3 := a_asking (N := aP Na (t + 1) (nI 2) (nI (P 6 c)) (nI 0) (nI (16 * lv))) (op := nI 1) (nd := nI (P 6 (ar P c i))) (v := nI (r i)) aP_36 (by omega) (show lv + 1 ≤ 490 by omega)
        generalize eN2 : aP Na (t + 1) (nI 2) (nI (P 6 c)) (nI 0) (nI (16 * lv)) = Nb at A2 A3
        have L2 : kL2 (t + 1) lv Na Nb := by rw [← eN2]; exact aP_L
        have T2 : tk Nb (t + 1) (nI 2) (nI (P 6 c)) (nI 0) (nI (16 * lv)) := by rw [← eN2]; exact aP_top
        have Kb : aK (P 10 f) lv (some x) Nb := by rw [← eN2]; exact aK_P Ka
        have hsb := aS_F hs (kL2_tr L1 L2 (by omega) (Nat.le_refl _)).1
        have mb := (hsb.2.2.2.1.2.2.2.2.2 f hsb.2.2.1).2.2.2 c c1 c2
        have m5b := mb.2.2.2.2.2.2.2.1 z0
        have b72 := m5b.2.2.2.2.1
        have b78 := m5b.2.2.2.2.2.2.2.2 i (by omega)
        have b90 := ((hsb.2.2.2.2.2 (P 1 c) z1 d h0 hd2).2 r hr).2 i (by omega)
        have e17 : 16 * lv + 16 = 16 * (lv + 1) := by omega
        generalize eN3 : aP Nb (t + 1 + 1) (nI 1) (nI (P 6 (ar P c i))) (nI (r i)) (nI (16 * (lv + 1))) = Nc at A3
        have L3 : kL2 (t + 1 + 1) lv Nb Nc := by rw [← eN3]; exact aP_L
        have T3 : tk Nc (t + 2) (nI 1) (nI (P 6 (ar P c i))) (nI (r i)) (nI (16 * (lv + 1))) := by rw [← eN3]; exact aP_top
        have t3 : Nc.1 62 36 = nI (t + 1 + 2) := by rw [← eN3]; exact aP_36
        have Kc : aK (P 10 f) lv (some x) Nc := by rw [← eN3]; exact aK_P Kb
        have Lac : kL2 t lv N Nc := kL2_tr L1 (kL2_tr L2 L3 (by omega) (Nat.le_refl _)) (by omega) (Nat.le_refl _)
        have hsc := aS_F hs Lac.1
        have E57 : fX11_onArgument_57 (nI (P 6 c)) (nI (8 * d + i0)) (nI (16 * lv)) (nI (26 * P 1 c + d)) (nI i) N = some ((), Nc) := by
          unfold fX11_onArgument_57
          simp (disch := omega) only [e73, dv, e89, e8, A1, A2, b72, b78, b90, e17, A3, k_iT, k_iF, Bool.false_eq_true, eq_self, Nat.add_zero, k_lt', k_bs, k_T, k_F, k_inb, k_ck, k_nz, ↓kN, kL, k_lt, k_le, k_eq, kn_le, kn_lt, kn_eq, kn_le', kn_lt', kn_eq', nI_clamp, nI_add, k_sub, k_mul, k_div, rd_hi, rd_mi, rd_hl, rd_ml, rd_hr, rd_mr, rd_si2, rd_sl1, rd_sl2, rd_sr1, rd_sr2]
        -- the argument, the join
        obtain ⟨N6, E6, t6, L6, K6⟩ := a_two (t := t + 1) ih hsc s1 s2 (by have := w1.2.2; omega) (by omega) (by rw [w2]; exact rr) (by omega) (by omega) t3 (tk_L T2 L3 (by omega)) T3 Kc vX
        have hs6 := aS_F hsc L6.1
        have T6 : tk N6 t (nI 6) (nI (P 6 c)) (nI (8 * d + (i + 1))) (nI (16 * lv)) := tk_L (tk_L (tk_L T1 L2 (by omega)) L3 (by omega)) L6 (by omega)
        -- the next one
        have L8 : kL2 t lv N6 (mv_si N6 62 36 (nI t)) := kL2_si (by omega)
        have hs8 := aS_F hs6 L8.1
        have K8 : aK (P 10 f) lv (jn (fun n => P 13 (16 * f + n)) (some x) (pE P R (fun n => P 13 (16 * f + n)) k (ar P c i) (r i))) (mv_si N6 62 36 (nI t)) := aK_e K6 (fun n hn => by simp (disch := omega) only [rd_hi, rd_mi, rd_hl, rd_ml, rd_hr, rd_mr, rd_si2, rd_sl1, rd_sl2, rd_sr1, rd_sr2]) (by simp (disch := omega) only [rd_hi, rd_mi, rd_hl, rd_ml, rd_hr, rd_mr, rd_si2, rd_sl1, rd_sl2, rd_sr1, rd_sr2])
        have ht6 : ∀ n, n < P 10 f → (fun n => P 13 (16 * f + n)) n < 6 := fun n hn => (rty hs hn).1
        obtain ⟨N5, N', E5, E', t', L', K'⟩ := jh (i + 1) (i + 1) _ _ (by omega) (by omega) hs8 (by simp (disch := omega) only [rd_hi, rd_mi, rd_hl, rd_ml, rd_hr, rd_mr, rd_si2, rd_sl1, rd_sl2, rd_sr1, rd_sr2]) K8 (vOK_jn ht6 vX (pE_ok hs.1 hs.2.1 hs.2.2.1 k _ _ s1 s2 (by have := w1.2.2; omega) (by omega) (by rw [w2]; exact rr)))
        have e74 := ((((hs8.2.2.2.1.2.2.2.2.2 f hs8.2.2.1).2.2.2 c c1 c2)).2.2.2.2.2.2.2.1 z0).2.1
        have hh := hs.2.2.2.1.2.1
        have er : 26 * (12 * h + P 1 c - (12 * h + P 1 c) / 12 * 12) + (8 * d + (i + 1)) / 8 = 26 * P 1 c + d := by omega
        have er2 : 8 * d + (i + 1) - (8 * d + (i + 1)) / 8 * 8 = i + 1 := by omega
        have G8 : gX11_asks_13 N6 = some (.inl (), N5) := by
          obtain ⟨k1, k2, k3, k4⟩ := T6
          have EA : fX11_onArgument (nI (P 6 c)) (nI (8 * d + (i + 1))) (nI (16 * lv)) (mv_si N6 62 36 (nI t)) = some ((), N5) := by
            unfold fX11_onArgument
            simp (disch := omega) only [k_inb, k_ck, k_lt', e74, er, er2, ↓kN, kL, k_lt, k_le, k_eq, kn_le, kn_lt, kn_eq, kn_le', kn_lt', kn_eq', nI_clamp, nI_add, k_sub, k_mul, k_div, rd_hi, rd_mi, rd_hl, rd_ml, rd_hr, rd_mr, rd_si2, rd_sl1, rd_sl2, rd_sr1, rd_sr2]
            exact E5
          unfold gX11_asks_13 fX11_asks_256
          simp (disch := omega) only [t6, k1, k2, k3, k4, Nat.add_sub_cancel, EA, k_iT, k_iF, Bool.false_eq_true, eq_self, Nat.add_zero, k_lt', k_bs, k_T, k_F, k_inb, k_ck, k_nz, ↓kN, kL, k_lt, k_le, k_eq, kn_le, kn_lt, kn_eq, kn_le', kn_lt', kn_eq', nI_clamp, nI_add, k_sub, k_mul, k_div, rd_hi, rd_mi, rd_hl, rd_ml, rd_hr, rd_mr, rd_si2, rd_sl1, rd_sl2, rd_sr1, rd_sr2]
        refine ⟨Nc, N', by rw [e57]; exact E57, (E6.trans (a_go G8)).trans E', t', kL2_tr Lac (kL2_tr (kL2_le L6 (by omega) (Nat.le_refl _)) (kL2_tr L8 L' (Nat.le_refl _) (Nat.le_refl _)) (Nat.le_refl _) (Nat.le_refl _)) (Nat.le_refl _) (Nat.le_refl _), ?_⟩
        show aK _ _ (ag _ _ _ _ j (i + 1) (if r i = 0 then _ else _)) _
        rw [if_neg r0]; exact K'
end RC
