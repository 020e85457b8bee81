section RD
variable {b h F ND f a q n i k c d lv lv' t t' p g nn : Nat} {M N N' N1 N2 N3 : mv_M} {P : Nat → Nat → Nat} {R : Nat → Nat → Option (Nat → Nat)} {ty u y : Nat → Nat} {w : Nat → Int32} {X Y Z : Option (Nat → Nat)} {op nd v to : Int32}
theorem rk_sg {s : Nat} (z : sgK s) : rk s = 1 := by
  unfold sgK at z
  unfold rk
  rw [if_neg (by omega), if_neg (by omega), if_neg (by omega), if_neg (by omega), if_neg (by omega), if_neg (by omega), if_neg (by omega), if_neg (by omega)]
theorem kc (h1 : kL2 t lv N N1) (h2 : kL2 t lv N1 N2) : kL2 t lv N N2 := kL2_tr h1 h2 (Nat.le_refl _) (Nat.le_refl _)
/-- a push, with all that is known of it -/
theorem a_push (hs : aS b h P F ND f R M N) (h36 : N.1 62 36 = nI t) (ht : t < 3000) (hl : lv' ≤ 490) (op nd v : Int32) : ∃ N', fX11_asking op nd v (nI (16 * lv')) N = some ((), N') ∧ N'.1 62 36 = nI (t + 1) ∧ tk N' t op nd v (nI (16 * lv')) ∧ (∀ lv, kL2 t lv N N') ∧ aS b h P F ND f R M N' ∧ ∀ lv X, aK (P 10 f) lv X N → aK (P 10 f) lv X N' :=
  ⟨_, a_asking h36 ht hl, aP_36, aP_top, fun _ => aP_L, aS_F hs (aP_L (lv := 0)).1, fun _ _ hK => aK_P hK⟩
theorem a_bs {o : Option (Unit × mv_M)} (hg : gX11_asks_13 N = mv_bind o (fun _ M26 => fX11_asks_256 M26)) (ho : o = some ((), N')) : fX11_asks_13 N = fX11_asks_13 N' := by
  refine a_go ?_
  rw [hg, ho]
  rfl
/-- behind let and case -/
theorem a_220 (ih : aI b h P F ND f R M k) (hs : aS b h P F ND f R M N) (c1 : P 15 f ≤ c) (c2 : c ≤ P 12 f) (z0 : P 0 c = 304 ∨ P 0 c = 306) (zc : pC P c (P 1 c)) (hl : P 8 c ≤ k) (hd : d < dem (P 5 (P 1 c))) (hlv : lv + 1 + 2 * k ≤ 480) (ht : t + 2 + 5 * k ≤ 2990) (h36 : N.1 62 36 = nI t) (hK : aK (P 10 f) lv X N) (vX : vOK (fun n => P 13 (16 * f + n)) (P 10 f) X) : ∃ N5 N', fX11_asks_220 (nI (P 6 c)) (nI (16 * lv)) (nI d) N = some (.inl (), N5) ∧ fX11_asks_13 N5 = fX11_asks_13 N' ∧ N'.1 62 36 = nI t ∧ kL2 t lv N N' ∧ aK (P 10 f) lv (if d = 0 then X else jn (fun n => P 13 (16 * f + n)) X (pE P R (fun n => P 13 (16 * f + n)) k (P 1 c) d)) N' := by
  have mc := (hs.2.2.2.1.2.2.2.2.2 f hs.2.2.1).2.2.2 c c1 c2
  have h6 := mc.2.2.1
  have hd' := dem_le (t := P 5 (P 1 c))
  by_cases d0 : d = 0
  · refine ⟨N, N, ?_, rfl, h36, kL2_rf, ?_⟩
    · unfold fX11_asks_220 fX11_asks_256
      simp (disch := omega) only [d0, k_iT, k_iF, Bool.false_eq_true, eq_self, Nat.add_zero, k_lt', k_bs, k_T, k_F, k_inb, k_ck, k_nz, ↓kN, kL, k_lt, k_le, k_eq, kn_le, kn_lt, kn_eq, kn_le', kn_lt', kn_eq', nI_clamp, nI_add, k_sub, k_mul, k_div, rd_hi, rd_mi, rd_hl, rd_ml, rd_hr, rd_mr, rd_si2, rd_sl1, rd_sl2, rd_sr1, rd_sr2]
    · rw [if_pos d0]; exact hK
  · obtain ⟨s1, s2⟩ := in_seg hs.1 hs.2.2.1 c1 c2 zc
    obtain ⟨Na, A1, t1, T1, L1, hs1, K1⟩ := a_push hs h36 (by omega) (show lv ≤ 490 by omega) (nI 2) (nI (P 6 c)) (nI 0)
    obtain ⟨Nb, A2, t2, T2, L2, hs2, K2⟩ := a_push hs1 t1 (by omega) (show lv + 1 ≤ 490 by omega) (nI 1) (nI (P 6 (P 1 c))) (nI d)
    have m1 := (hs1.2.2.2.1.2.2.2.2.2 f hs1.2.2.1).2.2.2 c c1 c2
    have e72 := (m1.2.2.2.2.2.2.2.2.1 (by omega)).2.2.1
    have e17 : 16 * lv + 16 = 16 * (lv + 1) := by omega
    obtain ⟨N', E', t', L', K'⟩ := a_two ih hs2 s1 s2 (by have := zc.2.2; omega) (by omega) hd hlv (by omega) t2 (tk_L T1 (L2 lv) (by omega)) T2 (K2 _ _ (K1 _ _ hK)) vX
    refine ⟨Nb, N', ?_, E', t', kL2_tr (L1 lv) (kL2_tr (kL2_le (L2 lv) (by omega) (Nat.le_refl _)) L' (Nat.le_refl _) (Nat.le_refl _)) (Nat.le_refl _) (Nat.le_refl _), ?_⟩
    · unfold fX11_asks_220 fX11_asks_256
      simp (disch := omega) only [A1, e72, e17, A2, k_iT, k_iF, Bool.false_eq_true, eq_self, Nat.add_zero, k_lt', k_bs, k_T, k_F, k_inb, k_ck, k_nz, ↓kN, kL, k_lt, k_le, k_eq, kn_le, kn_lt, kn_eq, kn_le', kn_lt', kn_eq', nI_clamp, nI_add, k_sub, k_mul, k_div, rd_hi, rd_mi, rd_hl, rd_ml, rd_hr, rd_mr, rd_si2, rd_sl1, rd_sl2, rd_sr1, rd_sr2]
    · rw [if_neg d0]; exact K'
theorem a_main : ∀ k, aI b h P F ND f R M k := by
  intro k
  induction k with
  | zero => intro N hs lv c d t c1 c2 hl; omega
  | succ k ih =>
    intro N hs lv c d t c1 c2 hl h0 hd hlv htt h36 htk
    have hn := (hs.1.2.2.2 f hs.2.2.1).2.2.1
    have hd' := dem_le (t := P 5 c)
    have hw := (hs.1.2.2.2 f hs.2.2.1).2.2.2.2.2.2.2.2.2 c c1 c2
    have hF := hs.1.2.1
    have hf := hs.2.2.1
    have hh := hs.2.2.2.1.2.1
    have h6 := ((hs.2.2.2.1.2.2.2.2.2 f hs.2.2.1).2.2.2 c c1 c2).2.2.1
    have ht : ∀ n, n < P 10 f → (fun n => P 13 (16 * f + n)) n < 6 := fun n hn => (rty hs hn).1
    have sg := fun c' (hc' : pC P c c') => in_seg hs.1 hs.2.2.1 c1 c2 hc'
    have MN := fun N' (h' : aS b h P F ND f R M N') => (h'.2.2.2.1.2.2.2.2.2 f h'.2.2.1).2.2.2 c c1 c2
    have vE : ∀ c' d', pC P c c' → 0 < d' → d' < dem (P 5 c') → vOK (fun n => P 13 (16 * f + n)) (P 10 f) (pE P R (fun n => P 13 (16 * f + n)) k c' d') := fun c' d' hc' u1 u2 => pE_ok hs.1 hs.2.1 hf k c' d' (sg c' hc').1 (sg c' hc').2 (by have := hc'.2.2; omega) u1 u2
    have IH := fun N' (h' : aS b h P F ND f R M N') lv' c' d' t' (hc' : pC P c c') (u1 : 0 < d') (u2 : d' < dem (P 5 c')) (u3 : lv' ≤ lv + 2) (u4 : t' ≤ t + 5) => ih N' h' lv' c' d' t' (sg c' hc').1 (sg c' hc').2 (by have := hc'.2.2; omega) u1 u2 (by omega) (by omega)
    have ENT := fun dd hD => a_ent (dd := dd) hs c1 c2 h36 (by omega) htk (by omega) hD
    have h50 : dem 0 = 2 := rfl
    have e17 : 16 * lv + 16 = 16 * (lv + 1) := by omega
    have e32 : 16 * lv + 32 = 16 * (lv + 2) := by omega
    have dv : 16 * lv / 16 = lv := by omega
    rcases hw.2.2.2.2.2 with ⟨z0, z1⟩ | z0 | ⟨z0, z1, z2, z3⟩ | ⟨z0, z1, z2, z3, z4⟩ | ⟨z0, z1, z2, z3, z4, z5⟩ | ⟨z0, z1, z2, z3, z4, z5⟩ | ⟨z0, z1, z2, z3, z4, z5, z6, z7, z8, z9⟩ | ⟨z0, z1, z2, z3, z4, z5, z6, z7, z8, z9, zA, zB, zC⟩ | ⟨z0, z1, z2, z3, z4, z5, z6⟩
    · -- a number
      rw [pe3 z0]
      obtain ⟨N9, L9, t9, r89, r88, G9⟩ := ENT 0 (.inr (.inr ⟨by omega, by omega, rfl⟩))
      have e : rk (P 0 c) = 5 := by rw [z0]; rfl
      refine ⟨N9, a_bs G9 ?_, t9, L9, .inr ⟨_, rfl, r89, fun n hn' => r88 n (by omega)⟩⟩
      unfold askB
      simp (disch := omega) only [e, k_iT, k_iF, Bool.false_eq_true, eq_self, Nat.add_zero, k_lt', k_bs, k_T, k_F, k_inb, k_ck, k_nz, ↓kN, kL, k_lt, k_le, k_eq, kn_le, kn_lt, kn_eq, kn_le', kn_lt', kn_eq', nI_clamp, nI_add, k_sub, k_mul, k_div, rd_hi, rd_mi, rd_hl, rd_ml, rd_hr, rd_mr, rd_si2, rd_sl1, rd_sl2, rd_sr1, rd_sr2]
    · -- fail
      rw [pe308 z0]
      obtain ⟨N9, L9, t9, r89, r88, G9⟩ := ENT 1 (.inl ⟨z0, rfl⟩)
      have e : rk (P 0 c) = 6 := by rw [z0]; rfl
      refine ⟨N9, a_bs G9 ?_, t9, L9, .inl ⟨rfl, r89⟩⟩
      unfold askB
      simp (disch := omega) only [e, k_iT, k_iF, Bool.false_eq_true, eq_self, Nat.add_zero, k_lt', k_bs, k_T, k_F, k_inb, k_ck, k_nz, ↓kN, kL, k_lt, k_le, k_eq, kn_le, kn_lt, kn_eq, kn_le', kn_lt', kn_eq', nI_clamp, nI_add, k_sub, k_mul, k_div, rd_hi, rd_mi, rd_hl, rd_ml, rd_hr, rd_mr, rd_si2, rd_sl1, rd_sl2, rd_sr1, rd_sr2]
    · -- a name
      rw [pe2 z0]
      obtain ⟨N9, L9, t9, r89, r88, G9⟩ := ENT 0 (.inr (.inr ⟨by omega, by omega, rfl⟩))
      have hs9 := aS_F hs L9.1
      have e : rk (P 0 c) = 7 := by rw [z0]; rfl
      have e72 := ((MN N9 hs9).2.2.2.2.2.2.1 z0).2
      refine ⟨mv_si N9 88 (16 * lv + P 1 c) (nI d), a_bs G9 ?_, by simp (disch := omega) only [rd_hi, rd_mi, rd_hl, rd_ml, rd_hr, rd_mr, rd_si2, rd_sl1, rd_sl2, rd_sr1, rd_sr2]; exact t9, kL2_tr L9 (kL2_si (by omega)) (Nat.le_refl _) (Nat.le_refl _), .inr ⟨_, rfl, by simp (disch := omega) only [rd_hi, rd_mi, rd_hl, rd_ml, rd_hr, rd_mr, rd_si2, rd_sl1, rd_sl2, rd_sr1, rd_sr2]; exact r89, fun n hn' => ?_⟩⟩
      · unfold askB
        simp (disch := omega) only [e, e72, k_iT, k_iF, Bool.false_eq_true, eq_self, Nat.add_zero, k_lt', k_bs, k_T, k_F, k_inb, k_ck, k_nz, ↓kN, kL, k_lt, k_le, k_eq, kn_le, kn_lt, kn_eq, kn_le', kn_lt', kn_eq', nI_clamp, nI_add, k_sub, k_mul, k_div, rd_hi, rd_mi, rd_hl, rd_ml, rd_hr, rd_mr, rd_si2, rd_sl1, rd_sl2, rd_sr1, rd_sr2]
      · by_cases en : n = P 1 c
        · rw [if_pos en, rd_hi (by omega)]
        · rw [if_neg en, rd_mi (by omega), r88 n (by omega)]
    · -- a call
      rw [pe5 z0]
      have e : rk (P 0 c) = 8 := by rw [z0]; rfl
      have hd2 : d < dem (P 11 (P 1 c)) := by rw [← z3]; exact hd
      have rw' := hs.2.2.2.2.2 (P 1 c) z1 d h0 hd2
      cases hr : R (P 1 c) d with
      | none =>
        obtain ⟨N9, L9, t9, r89, r88, G9⟩ := ENT 1 (.inr (.inl ⟨z0, rw'.1 hr, by omega, by omega, by omega⟩))
        refine ⟨N9, a_bs G9 ?_, t9, L9, .inl ⟨rfl, r89⟩⟩
        unfold askB
        simp (disch := omega) only [e, dv, r89, k_iT, k_iF, Bool.false_eq_true, eq_self, Nat.add_zero, k_lt', k_bs, k_T, k_F, k_inb, k_ck, k_nz, ↓kN, kL, k_lt, k_le, k_eq, kn_le, kn_lt, kn_eq, kn_le', kn_lt', kn_eq', nI_clamp, nI_add, k_sub, k_mul, k_div, rd_hi, rd_mi, rd_hl, rd_ml, rd_hr, rd_mr, rd_si2, rd_sl1, rd_sl2, rd_sr1, rd_sr2]
      | some r =>
        obtain ⟨N9, L9, t9, r89, r88, G9⟩ := ENT 0 (.inr (.inl ⟨z0, (rw'.2 r hr).1, by omega, by omega, by omega⟩))
        have hs9 := aS_F hs L9.1
        obtain ⟨Na, A1, t1, T1, L1, hs1, K1⟩ := a_push hs9 t9 (by omega) (show lv ≤ 490 by omega) (nI 6) (nI (P 6 c)) (nI (8 * d))
        have K9 : aK (P 10 f) lv (some (fun _ => 0)) N9 := .inr ⟨_, rfl, r89, fun n hn' => r88 n (by omega)⟩
        have Ka := K1 _ _ K9
        have L8 : kL2 t lv Na (mv_si Na 62 36 (nI t)) := kL2_si (by omega)
        have hs8 := aS_F hs1 L8.1
        obtain ⟨N5, N', E5, E', t', L', K'⟩ := a_next ih c1 c2 (by omega) z0 h0 hd hr (by omega) (show t + 2 + 5 * k ≤ 2990 by omega) (P 3 c) 0 0 _ (mv_si Na 62 36 (nI t)) (by omega) (by omega) hs8 (by simp (disch := omega) only [rd_hi, rd_mi, rd_hl, rd_ml, rd_hr, rd_mr, rd_si2, rd_sl1, rd_sl2, rd_sr1, rd_sr2]) (aK_e Ka (fun n hn => by simp (disch := omega) only [rd_hi, rd_mi, rd_hl, rd_ml, rd_hr, rd_mr, rd_si2, rd_sl1, rd_sl2, rd_sr1, rd_sr2]) (by simp (disch := omega) only [rd_hi, rd_mi, rd_hl, rd_ml, rd_hr, rd_mr, rd_si2, rd_sl1, rd_sl2, rd_sr1, rd_sr2])) vOK_0
        rw [Nat.add_zero] at E5
        have e74 := ((MN _ hs8).2.2.2.2.2.2.2.1 z0).2.1
        have er : 26 * (12 * h + P 1 c - (12 * h + P 1 c) / 12 * 12) + 8 * d / 8 = 26 * P 1 c + d := by omega
        have er2 : 8 * d - 8 * d / 8 * 8 = 0 := by omega
        have EA : fX11_onArgument (nI (P 6 c)) (nI (8 * d)) (nI (16 * lv)) (mv_si Na 62 36 (nI t)) = some ((), N5) := by
          unfold fX11_onArgument
          simp (disch := omega) only [k_inb, k_ck, k_lt', e74, er, er2, ↓kN, kL, k_lt, k_le, k_eq, kn_le, kn_lt, kn_eq, kn_le', kn_lt', kn_eq', nI_clamp, nI_add, k_sub, k_mul, k_div, rd_hi, rd_mi, rd_hl, rd_ml, rd_hr, rd_mr, rd_si2, rd_sl1, rd_sl2, rd_sr1, rd_sr2]
          exact E5
        have G8 : gX11_asks_13 Na = some (.inl (), N5) := by
          obtain ⟨k1, k2, k3, k4⟩ := T1
          unfold gX11_asks_13 fX11_asks_256
          simp (disch := omega) only [t1, k1, k2, k3, k4, Nat.add_sub_cancel, EA, k_iT, k_iF, Bool.false_eq_true, eq_self, Nat.add_zero, k_lt', k_bs, k_T, k_F, k_inb, k_ck, k_nz, ↓kN, kL, k_lt, k_le, k_eq, kn_le, kn_lt, kn_eq, kn_le', kn_lt', kn_eq', nI_clamp, nI_add, k_sub, k_mul, k_div, rd_hi, rd_mi, rd_hl, rd_ml, rd_hr, rd_mr, rd_si2, rd_sl1, rd_sl2, rd_sr1, rd_sr2]
        refine ⟨N', ((a_bs G9 ?_).trans (a_go G8)).trans E', t', kL2_tr L9 (kL2_tr (L1 lv) (kL2_tr L8 L' (Nat.le_refl _) (Nat.le_refl _)) (Nat.le_refl _) (Nat.le_refl _)) (Nat.le_refl _) (Nat.le_refl _), K'⟩
        unfold askB
        simp (disch := omega) only [e, dv, r89, A1, k_iT, k_iF, Bool.false_eq_true, eq_self, Nat.add_zero, k_lt', k_bs, k_T, k_F, k_inb, k_ck, k_nz, ↓kN, kL, k_lt, k_le, k_eq, kn_le, kn_lt, kn_eq, kn_le', kn_lt', kn_eq', nI_clamp, nI_add, k_sub, k_mul, k_div, rd_hi, rd_mi, rd_hl, rd_ml, rd_hr, rd_mr, rd_si2, rd_sl1, rd_sl2, rd_sr1, rd_sr2]
    · -- a sign
      have e := rk_sg z0
      rw [pes z0]
      obtain ⟨N9, L9, t9, r89, r88, G9⟩ := ENT 0 (.inr (.inr ⟨by unfold sgK at z0; omega, by unfold sgK at z0; omega, rfl⟩))
      have hs9 := aS_F hs L9.1
      obtain ⟨Na, A1, t1, T1, L1, hs1, K1⟩ := a_push hs9 t9 (by omega) (show lv ≤ 490 by omega) (nI 2) (nI (P 6 c)) (nI 0)
      obtain ⟨Nb, A2, t2, T2, L2, hs2, K2⟩ := a_push hs1 t1 (by omega) (show lv + 1 ≤ 490 by omega) (nI 1) (nI (P 6 (P 2 c))) (nI 1)
      obtain ⟨Nc, A3, t3, T3, L3, hs3, K3⟩ := a_push hs2 t2 (by omega) (show lv ≤ 490 by omega) (nI 1) (nI (P 6 (P 1 c))) (nI 1)
      have e73 := ((MN Na hs1).2.2.2.2.2.2.2.2.1 (.inl z0)).2.2.2
      have e72 := ((MN Nb hs2).2.2.2.2.2.2.2.2.1 (.inl z0)).2.2.1
      obtain ⟨N4, E4, t4, L4, K4⟩ := IH Nc hs3 lv (P 1 c) 1 (t + 1 + 1) z1 (by omega) (by rw [z3]; omega) (by omega) (by omega) t3 T3
      have hs4 := aS_F hs3 L4.1
      obtain ⟨N5, E5, t5, L5, K5⟩ := a_two (t := t) ih hs4 (sg _ z2).1 (sg _ z2).2 (by have := z2.2.2; omega) (by omega) (by rw [z4]; omega) (by omega) (by omega) t4 (tk_L (tk_L (tk_L T1 (L2 0) (by omega)) (L3 0) (by omega)) L4 (by omega)) (tk_L (tk_L T2 (L3 0) (by omega)) L4 (by omega)) K4 (vE _ 1 z1 (by omega) (by rw [z3]; omega))
      refine ⟨N5, ((a_bs G9 ?_).trans E4).trans E5, t5, kc L9 (kc (L1 lv) (kc (kL2_le (L2 lv) (by omega) (by omega)) (kc (kL2_le (L3 lv) (by omega) (by omega)) (kc (kL2_le L4 (by omega) (by omega)) L5)))), K5⟩
      unfold askB fX11_onAsk_121 fX11_onAsk_144 fX11_onAsk_163 fX11_onAsk_182 fX11_onAsk_214 fX11_onAsk_233
      simp (disch := omega) only [e, A1, e73, e17, A2, e72, A3, k_iT, k_iF, Bool.false_eq_true, eq_self, Nat.add_zero, k_lt', k_bs, k_T, k_F, k_inb, k_ck, k_nz, ↓kN, kL, k_lt, k_le, k_eq, kn_le, kn_lt, kn_eq, kn_le', kn_lt', kn_eq', nI_clamp, nI_add, k_sub, k_mul, k_div, rd_hi, rd_mi, rd_hl, rd_ml, rd_hr, rd_mr, rd_si2, rd_sl1, rd_sl2, rd_sr1, rd_sr2]
    · -- a pair
      have e : rk (P 0 c) = 9 := by rw [z0]; rfl
      rw [pe6 z0]
      obtain ⟨N9, L9, t9, r89, r88, G9⟩ := ENT 0 (.inr (.inr ⟨by omega, by omega, rfl⟩))
      have hs9 := aS_F hs L9.1
      have K9 : aK (P 10 f) lv (some (fun _ => 0)) N9 := .inr ⟨_, rfl, r89, fun n hn' => r88 n (by omega)⟩
      have m9 := MN N9 hs9
      have e76 := m9.2.2.2.2.1
      obtain ⟨p1, p2, _⟩ := pt_row (t := P 5 c) (by omega) (by omega) hd (by omega)
      have hdd2 := dem_le (t := (P 5 c - 1) % 2)
      have hpos := dem_pos (t := (P 5 c - 1) % 2)
      have sec := (f_second (y := P 5 c) (by omega) N9).2
      have dm := (cl_dem (t := (P 5 c - 1) % 2) (M := N9) (by omega)).2
      have ea : (d - 1) / dem ((P 5 c - 1) % 2) = af (P 5 c) d := rfl
      have es : d - 1 - (d - 1) / dem ((P 5 c - 1) % 2) * dem ((P 5 c - 1) % 2) = as (P 5 c) d := by
        show _ = (d - 1) % dem ((P 5 c - 1) % 2)
        have := Nat.mod_add_div (d - 1) (dem ((P 5 c - 1) % 2))
        rw [Nat.mul_comm] at this
        omega
      have hle : (d - 1) / dem ((P 5 c - 1) % 2) * dem ((P 5 c - 1) % 2) ≤ d - 1 := Nat.div_mul_le_self _ _
      have af26 := dem_le (t := (P 5 c - 1) / 2)
      rw [ea] at es hle
      have p1' := p1
      have p2' := p2
      rw [show (P 5 c - 1) / 2 = P 5 (P 1 c) by omega] at p1
      rw [show (P 5 c - 1) % 2 = P 5 (P 2 c) by omega] at p2
      by_cases s0 : as (P 5 c) d = 0
      · rw [if_pos s0]
        by_cases a0 : af (P 5 c) d = 0
        · rw [if_pos a0]
          refine ⟨N9, a_bs G9 ?_, t9, L9, aK_cg K9 (rs_sy (rs_0l ht vOK_0))⟩
          unfold askB fX11_onAsk_121 fX11_onAsk_144 fX11_onAsk_163 fX11_onAsk_182 fX11_onAsk_214 fX11_onAsk_233
          rw [a0] at es
          simp (disch := omega) only [e, e76, sec, dm, ea, a0, es, s0, k_iT, k_iF, Bool.false_eq_true, eq_self, Nat.add_zero, k_lt', k_bs, k_T, k_F, k_inb, k_ck, k_nz, ↓kN, kL, k_lt, k_le, k_eq, kn_le, kn_lt, kn_eq, kn_le', kn_lt', kn_eq', nI_clamp, nI_add, k_sub, k_mul, k_div, rd_hi, rd_mi, rd_hl, rd_ml, rd_hr, rd_mr, rd_si2, rd_sl1, rd_sl2, rd_sr1, rd_sr2]
        · rw [if_neg a0]
          obtain ⟨Na, A1, t1, T1, L1, hs1, K1⟩ := a_push hs9 t9 (by omega) (show lv ≤ 490 by omega) (nI 1) (nI (P 6 (P 1 c))) (nI (af (P 5 c) d))
          have e72 := (m9.2.2.2.2.2.2.2.2.1 (.inr (.inl z0))).2.2.1
          obtain ⟨N4, E4, t4, L4, K4⟩ := IH Na hs1 lv (P 1 c) (af (P 5 c) d) t z1 (by omega) p1 (by omega) (by omega) t1 T1
          refine ⟨N4, (a_bs G9 ?_).trans E4, t4, kc L9 (kc (L1 lv) L4), aK_cg K4 (rs_sy (rs_0r ht (vE _ _ z1 (by omega) p1)))⟩
          unfold askB fX11_onAsk_121 fX11_onAsk_144 fX11_onAsk_163 fX11_onAsk_182 fX11_onAsk_214 fX11_onAsk_233
          simp (disch := omega) only [e, e76, sec, dm, ea, es, s0, e72, A1, k_iT, k_iF, Bool.false_eq_true, eq_self, Nat.add_zero, k_lt', k_bs, k_T, k_F, k_inb, k_ck, k_nz, ↓kN, kL, k_lt, k_le, k_eq, kn_le, kn_lt, kn_eq, kn_le', kn_lt', kn_eq', nI_clamp, nI_add, k_sub, k_mul, k_div, rd_hi, rd_mi, rd_hl, rd_ml, rd_hr, rd_mr, rd_si2, rd_sl1, rd_sl2, rd_sr1, rd_sr2]
      · rw [if_neg s0]
        obtain ⟨Na, A1, t1, T1, L1, hs1, K1⟩ := a_push hs9 t9 (by omega) (show lv ≤ 490 by omega) (nI 2) (nI (P 6 c)) (nI 0)
        obtain ⟨Nb, A2, t2, T2, L2, hs2, K2⟩ := a_push hs1 t1 (by omega) (show lv + 1 ≤ 490 by omega) (nI 1) (nI (P 6 (P 2 c))) (nI (as (P 5 c) d))
        have e73 := ((MN Na hs1).2.2.2.2.2.2.2.2.1 (.inr (.inl z0))).2.2.2
        have e72 := ((MN Nb hs2).2.2.2.2.2.2.2.2.1 (.inr (.inl z0))).2.2.1
        by_cases a0 : af (P 5 c) d = 0
        · rw [if_pos a0]
          obtain ⟨N5, E5, t5, L5, K5⟩ := a_two (t := t) ih hs2 (sg _ z2).1 (sg _ z2).2 (by have := z2.2.2; omega) (by omega) p2 (by omega) (by omega) t2 (tk_L T1 (L2 0) (by omega)) T2 (K2 _ _ (K1 _ _ K9)) vOK_0
          refine ⟨N5, (a_bs G9 ?_).trans E5, t5, kc L9 (kc (L1 lv) (kc (kL2_le (L2 lv) (by omega) (by omega)) L5)), K5⟩
          unfold askB fX11_onAsk_121 fX11_onAsk_144 fX11_onAsk_163 fX11_onAsk_182 fX11_onAsk_214 fX11_onAsk_233
          rw [a0] at es
          simp (disch := omega) only [e, e76, sec, dm, ea, a0, es, A1, e73, e17, A2, k_iT, k_iF, Bool.false_eq_true, eq_self, Nat.add_zero, k_lt', k_bs, k_T, k_F, k_inb, k_ck, k_nz, ↓kN, kL, k_lt, k_le, k_eq, kn_le, kn_lt, kn_eq, kn_le', kn_lt', kn_eq', nI_clamp, nI_add, k_sub, k_mul, k_div, rd_hi, rd_mi, rd_hl, rd_ml, rd_hr, rd_mr, rd_si2, rd_sl1, rd_sl2, rd_sr1, rd_sr2]
        · rw [if_neg a0]
          obtain ⟨Nc, A3, t3, T3, L3, hs3, K3⟩ := a_push hs2 t2 (by omega) (show lv ≤ 490 by omega) (nI 1) (nI (P 6 (P 1 c))) (nI (af (P 5 c) d))
          obtain ⟨N4, E4, t4, L4, K4⟩ := IH Nc hs3 lv (P 1 c) (af (P 5 c) d) (t + 1 + 1) z1 (by omega) p1 (by omega) (by omega) t3 T3
          have hs4 := aS_F hs3 L4.1
          obtain ⟨N5, E5, t5, L5, K5⟩ := a_two (t := t) ih hs4 (sg _ z2).1 (sg _ z2).2 (by have := z2.2.2; omega) (by omega) p2 (by omega) (by omega) t4 (tk_L (tk_L (tk_L T1 (L2 0) (by omega)) (L3 0) (by omega)) L4 (by omega)) (tk_L (tk_L T2 (L3 0) (by omega)) L4 (by omega)) K4 (vE _ _ z1 (by omega) p1)
          refine ⟨N5, ((a_bs G9 ?_).trans E4).trans E5, t5, kc L9 (kc (L1 lv) (kc (kL2_le (L2 lv) (by omega) (by omega)) (kc (kL2_le (L3 lv) (by omega) (by omega)) (kc (kL2_le L4 (by omega) (by omega)) L5)))), K5⟩
          unfold askB fX11_onAsk_121 fX11_onAsk_144 fX11_onAsk_163 fX11_onAsk_182 fX11_onAsk_214 fX11_onAsk_233
          simp (disch := omega) only [e, e76, sec, dm, ea, es, A1, e73, e17, A2, e72, A3, k_iT, k_iF, Bool.false_eq_true, eq_self, Nat.add_zero, k_lt', k_bs, k_T, k_F, k_inb, k_ck, k_nz, ↓kN, kL, k_lt, k_le, k_eq, kn_le, kn_lt, kn_eq, kn_le', kn_lt', kn_eq', nI_clamp, nI_add, k_sub, k_mul, k_div, rd_hi, rd_mi, rd_hl, rd_ml, rd_hr, rd_mr, rd_si2, rd_sl1, rd_sl2, rd_sr1, rd_sr2]
    · -- let
      have e : rk (P 0 c) = 3 := by rw [z0]; rfl
      rw [pe304 z0]
      obtain ⟨N9, L9, t9, r89, r88, G9⟩ := ENT 0 (.inr (.inr ⟨by omega, by omega, rfl⟩))
      have hs9 := aS_F hs L9.1
      obtain ⟨Na, A1, t1, T1, L1, hs1, K1⟩ := a_push hs9 t9 (by omega) (show lv ≤ 490 by omega) (nI 4) (nI (P 6 c)) (nI 0)
      obtain ⟨Nb, A2, t2, T2, L2, hs2, K2⟩ := a_push hs1 t1 (by omega) (show lv ≤ 490 by omega) (nI 1) (nI (P 6 (P 2 c))) (nI d)
      have e73 := ((MN Na hs1).2.2.2.2.2.2.2.2.1 (.inr (.inr (.inl z0)))).2.2.2
      have vB := vE _ d z2 h0 (by rw [z3]; exact hd)
      obtain ⟨N4, E4, t4, L4, K4⟩ := IH Nb hs2 lv (P 2 c) d (t + 1) z2 h0 (by rw [z3]; exact hd) (by omega) (by omega) t2 T2
      have T4 := tk_L (tk_L T1 (L2 0) (by omega)) L4 (by omega)
      have L8 : kL2 t lv N4 (mv_si N4 62 36 (nI t)) := kL2_si (by omega)
      have hs8 := aS_F (aS_F hs2 L4.1) L8.1
      have L08 : kL2 t lv N (mv_si N4 62 36 (nI t)) := kc L9 (kc (L1 lv) (kc (kL2_le (L2 lv) (by omega) (by omega)) (kc (kL2_le L4 (by omega) (by omega)) L8)))
      have EB : askB (nI (P 6 c)) (nI d) (nI (16 * lv)) (nI (rk (P 0 c))) N9 = some ((), Nb) := by
        unfold askB fX11_onAsk_321 fX11_onAsk_333
        simp (disch := omega) only [e, A1, e73, A2, k_iT, k_iF, Bool.false_eq_true, eq_self, Nat.add_zero, k_lt', k_bs, k_T, k_F, k_inb, k_ck, k_nz, ↓kN, kL, k_lt, k_le, k_eq, kn_le, kn_lt, kn_eq, kn_le', kn_lt', kn_eq', nI_clamp, nI_add, k_sub, k_mul, k_div, rd_hi, rd_mi, rd_hl, rd_ml, rd_hr, rd_mr, rd_si2, rd_sl1, rd_sl2, rd_sr1, rd_sr2]
      have K8 := aK_e K4 (N' := mv_si N4 62 36 (nI t)) (fun n hn => by simp (disch := omega) only [rd_hi, rd_mi, rd_hl, rd_ml, rd_hr, rd_mr, rd_si2, rd_sl1, rd_sl2, rd_sr1, rd_sr2]) (by simp (disch := omega) only [rd_hi, rd_mi, rd_hl, rd_ml, rd_hr, rd_mr, rd_si2, rd_sl1, rd_sl2, rd_sr1, rd_sr2])
      have e74 := ((MN _ hs8).2.2.2.2.2.2.2.2.2.2.2 (.inl z0)).2
      have e74' : N4.1 74 (P 6 c) = nI (P 3 c) := by rw [← e74]; simp (disch := omega) only [rd_hi, rd_mi, rd_hl, rd_ml, rd_hr, rd_mr, rd_si2, rd_sl1, rd_sl2, rd_sr1, rd_sr2]
      obtain ⟨k1, k2, k3, k4⟩ := T4
      rcases id K4 with ⟨ex, e89⟩ | ⟨x, ex, e89, vx⟩
      · rw [ex]
        refine ⟨mv_si N4 62 36 (nI t), ((a_bs G9 EB).trans E4).trans (a_go ?_), by simp (disch := omega) only [rd_hi, rd_mi, rd_hl, rd_ml, rd_hr, rd_mr, rd_si2, rd_sl1, rd_sl2, rd_sr1, rd_sr2], L08, .inl ⟨rfl, by simp (disch := omega) only [rd_hi, rd_mi, rd_hl, rd_ml, rd_hr, rd_mr, rd_si2, rd_sl1, rd_sl2, rd_sr1, rd_sr2]; exact e89⟩⟩
        unfold gX11_asks_13 fX11_asks_256
        simp (disch := omega) only [t4, k1, k2, k3, k4, Nat.add_sub_cancel, dv, e89, k_iT, k_iF, Bool.false_eq_true, eq_self, Nat.add_zero, k_lt', k_bs, k_T, k_F, k_inb, k_ck, k_nz, ↓kN, kL, k_lt, k_le, k_eq, kn_le, kn_lt, kn_eq, kn_le', kn_lt', kn_eq', nI_clamp, nI_add, k_sub, k_mul, k_div, rd_hi, rd_mi, rd_hl, rd_ml, rd_hr, rd_mr, rd_si2, rd_sl1, rd_sl2, rd_sr1, rd_sr2]
      · have xv := vB x ex (P 3 c) z5
        rw [show (fun n => P 13 (16 * f + n)) (P 3 c) = P 13 (16 * f + P 3 c) from rfl, z6] at xv
        obtain ⟨N5, N', E5, E', t', L', K'⟩ := a_220 ih hs8 c1 c2 (.inl z0) z1 (by omega) xv (by omega) (show t + 2 + 5 * k ≤ 2990 by omega) (by simp (disch := omega) only [rd_hi, rd_mi, rd_hl, rd_ml, rd_hr, rd_mr, rd_si2, rd_sl1, rd_sl2, rd_sr1, rd_sr2]) K8 vB
        have vx' := vx (P 3 c) z5
        refine ⟨N', (((a_bs G9 EB).trans E4).trans (a_go ?_)).trans E', t', kc L08 L', ?_⟩
        · unfold gX11_asks_13
          simp (disch := omega) only [t4, k1, k2, k3, k4, Nat.add_sub_cancel, dv, e89, e74', vx', E5, k_iT, k_iF, Bool.false_eq_true, eq_self, Nat.add_zero, k_lt', k_bs, k_T, k_F, k_inb, k_ck, k_nz, ↓kN, kL, k_lt, k_le, k_eq, kn_le, kn_lt, kn_eq, kn_le', kn_lt', kn_eq', nI_clamp, nI_add, k_sub, k_mul, k_div, rd_hi, rd_mi, rd_hl, rd_ml, rd_hr, rd_mr, rd_si2, rd_sl1, rd_sl2, rd_sr1, rd_sr2]
        · rw [ex] at K' ⊢
          exact K'
    · -- case
      have e : rk (P 0 c) = 4 := by rw [z0]; rfl
      rw [pe306 z0]
      obtain ⟨N9, L9, t9, r89, r88, G9⟩ := ENT 0 (.inr (.inr ⟨by omega, by omega, rfl⟩))
      have hs9 := aS_F hs L9.1
      obtain ⟨Na, A1, t1, T1, L1, hs1, K1⟩ := a_push hs9 t9 (by omega) (show lv ≤ 490 by omega) (nI 5) (nI (P 6 c)) (nI 0)
      obtain ⟨Nb, A2, t2, T2, L2, hs2, K2⟩ := a_push hs1 t1 (by omega) (show lv ≤ 490 by omega) (nI 1) (nI (P 6 (P 2 c))) (nI d)
      have e73 := ((MN Na hs1).2.2.2.2.2.2.2.2.1 (.inr (.inr (.inr (.inl z0))))).2.2.2
      have vB := vE _ d z2 h0 (by rw [z3]; exact hd)
      obtain ⟨N4, E4, t4, L4, K4⟩ := IH Nb hs2 lv (P 2 c) d (t + 1) z2 h0 (by rw [z3]; exact hd) (by omega) (by omega) t2 T2
      have T4 := tk_L (tk_L T1 (L2 0) (by omega)) L4 (by omega)
      have L8 : kL2 t lv N4 (mv_si N4 62 36 (nI t)) := kL2_si (by omega)
      have hs8 := aS_F (aS_F hs2 L4.1) L8.1
      have L08 : kL2 t lv N (mv_si N4 62 36 (nI t)) := kc L9 (kc (L1 lv) (kc (kL2_le (L2 lv) (by omega) (by omega)) (kc (kL2_le L4 (by omega) (by omega)) L8)))
      have EB : askB (nI (P 6 c)) (nI d) (nI (16 * lv)) (nI (rk (P 0 c))) N9 = some ((), Nb) := by
        unfold askB fX11_onAsk_321 fX11_onAsk_333
        simp (disch := omega) only [e, A1, e73, A2, k_iT, k_iF, Bool.false_eq_true, eq_self, Nat.add_zero, k_lt', k_bs, k_T, k_F, k_inb, k_ck, k_nz, ↓kN, kL, k_lt, k_le, k_eq, kn_le, kn_lt, kn_eq, kn_le', kn_lt', kn_eq', nI_clamp, nI_add, k_sub, k_mul, k_div, rd_hi, rd_mi, rd_hl, rd_ml, rd_hr, rd_mr, rd_si2, rd_sl1, rd_sl2, rd_sr1, rd_sr2]
      have K8 := aK_e K4 (N' := mv_si N4 62 36 (nI t)) (fun n hn => by simp (disch := omega) only [rd_hi, rd_mi, rd_hl, rd_ml, rd_hr, rd_mr, rd_si2, rd_sl1, rd_sl2, rd_sr1, rd_sr2]) (by simp (disch := omega) only [rd_hi, rd_mi, rd_hl, rd_ml, rd_hr, rd_mr, rd_si2, rd_sl1, rd_sl2, rd_sr1, rd_sr2])
      have m8 := MN _ hs8
      have e74 := (m8.2.2.2.2.2.2.2.2.2.2.2 (.inr z0)).2
      have e74' : N4.1 74 (P 6 c) = nI (P 3 c) := by rw [← e74]; simp (disch := omega) only [rd_hi, rd_mi, rd_hl, rd_ml, rd_hr, rd_mr, rd_si2, rd_sl1, rd_sl2, rd_sr1, rd_sr2]
      have e72 := (m8.2.2.2.2.2.2.2.2.1 (.inr (.inr (.inr (.inl z0))))).2.2.1
      have e72' : N4.1 72 (P 6 c) = nI (P 6 (P 1 c)) := by rw [← e72]; simp (disch := omega) only [rd_hi, rd_mi, rd_hl, rd_ml, rd_hr, rd_mr, rd_si2, rd_sl1, rd_sl2, rd_sr1, rd_sr2]
      obtain ⟨s1, s2⟩ := sg _ z1
      have mp := (hs8.2.2.2.1.2.2.2.2.2 f hs8.2.2.1).2.2.2 _ s1 s2
      have h61 := mp.2.2.1
      have e76 := mp.2.2.2.2.1
      have e76' : N4.1 76 (P 6 (P 1 c)) = nI (P 5 (P 1 c)) := by rw [← e76]; simp (disch := omega) only [rd_hi, rd_mi, rd_hl, rd_ml, rd_hr, rd_mr, rd_si2, rd_sl1, rd_sl2, rd_sr1, rd_sr2]
      have tp := ((hs.1.2.2.2 f hf).2.2.2.2.2.2.2.2.2 _ s1 s2).1
      have sec := (f_second (y := P 5 (P 1 c)) (by omega) (mv_si N4 62 36 (nI t))).2
      have dm := (cl_dem (t := (P 5 (P 1 c) - 1) % 2) (M := mv_si N4 62 36 (nI t)) (by omega)).2
      have hdd2 := dem_le (t := (P 5 (P 1 c) - 1) % 2)
      obtain ⟨k1, k2, k3, k4⟩ := T4
      rcases id K4 with ⟨ex, e89⟩ | ⟨x, ex, e89, vx⟩
      · rw [ex]
        refine ⟨mv_si N4 62 36 (nI t), ((a_bs G9 EB).trans E4).trans (a_go ?_), by simp (disch := omega) only [rd_hi, rd_mi, rd_hl, rd_ml, rd_hr, rd_mr, rd_si2, rd_sl1, rd_sl2, rd_sr1, rd_sr2], L08, .inl ⟨rfl, by simp (disch := omega) only [rd_hi, rd_mi, rd_hl, rd_ml, rd_hr, rd_mr, rd_si2, rd_sl1, rd_sl2, rd_sr1, rd_sr2]; exact e89⟩⟩
        unfold gX11_asks_13 fX11_asks_256
        simp (disch := omega) only [t4, k1, k2, k3, k4, Nat.add_sub_cancel, dv, e89, k_iT, k_iF, Bool.false_eq_true, eq_self, Nat.add_zero, k_lt', k_bs, k_T, k_F, k_inb, k_ck, k_nz, ↓kN, kL, k_lt, k_le, k_eq, kn_le, kn_lt, kn_eq, kn_le', kn_lt', kn_eq', nI_clamp, nI_add, k_sub, k_mul, k_div, rd_hi, rd_mi, rd_hl, rd_ml, rd_hr, rd_mr, rd_si2, rd_sl1, rd_sl2, rd_sr1, rd_sr2]
      · have xv := vB x ex (P 3 c) (by omega)
        have yv := vB x ex (P 3 c + 1) z5
        rw [show (fun n => P 13 (16 * f + n)) (P 3 c) = P 13 (16 * f + P 3 c) from rfl, z7] at xv
        rw [show (fun n => P 13 (16 * f + n)) (P 3 c + 1) = P 13 (16 * f + (P 3 c + 1)) from rfl, z8] at yv
        obtain ⟨q1, q2, _⟩ := pd_row (t := P 5 (P 1 c)) (x := x (P 3 c)) (y := x (P 3 c + 1)) (by omega) (by omega) xv yv
        obtain ⟨N5, N', E5, E', t', L', K'⟩ := a_220 ih hs8 c1 c2 (.inr z0) z1 (by omega) q2 (by omega) (show t + 2 + 5 * k ≤ 2990 by omega) (by simp (disch := omega) only [rd_hi, rd_mi, rd_hl, rd_ml, rd_hr, rd_mr, rd_si2, rd_sl1, rd_sl2, rd_sr1, rd_sr2]) K8 vB
        have vx' := vx (P 3 c) (by omega)
        have vy' := vx (P 3 c + 1) z5
        have ep : 1 + x (P 3 c) * dem ((P 5 (P 1 c) - 1) % 2) + x (P 3 c + 1) = pd (P 5 (P 1 c)) (x (P 3 c)) (x (P 3 c + 1)) := rfl
        have ew : 16 * lv + P 3 c + 1 = 16 * lv + (P 3 c + 1) := by omega
        refine ⟨N', (((a_bs G9 EB).trans E4).trans (a_go ?_)).trans E', t', kc L08 L', ?_⟩
        · unfold gX11_asks_13
          simp (disch := omega) only [t4, k1, k2, k3, k4, Nat.add_sub_cancel, dv, e89, e74', vx', e72', e76', sec, dm, ew, vy', ep, E5, k_iT, k_iF, Bool.false_eq_true, eq_self, Nat.add_zero, k_lt', k_bs, k_T, k_F, k_inb, k_ck, k_nz, ↓kN, kL, k_lt, k_le, k_eq, kn_le, kn_lt, kn_eq, kn_le', kn_lt', kn_eq', nI_clamp, nI_add, k_sub, k_mul, k_div, rd_hi, rd_mi, rd_hl, rd_ml, rd_hr, rd_mr, rd_si2, rd_sl1, rd_sl2, rd_sr1, rd_sr2]
        · rw [ex] at K' ⊢
          rw [if_neg (by omega)] at K'
          show aK _ _ (if pd (P 5 (P 1 c)) (x (P 3 c)) (x (P 3 c + 1)) = 0 then _ else _) _
          rw [if_neg (by omega)]
          exact K'
    · -- if
      have e : rk (P 0 c) = 2 := by rw [z0]; rfl
      rw [pe301 z0]
      obtain ⟨N9, L9, t9, r89, r88, G9⟩ := ENT 0 (.inr (.inr ⟨by omega, by omega, rfl⟩))
      have hs9 := aS_F hs L9.1
      obtain ⟨Na, A1, t1, T1, L1, hs1, K1⟩ := a_push hs9 t9 (by omega) (show lv ≤ 490 by omega) (nI 2) (nI (P 6 c)) (nI 0)
      obtain ⟨Nb, A2, t2, T2, L2, hs2, K2⟩ := a_push hs1 t1 (by omega) (show lv + 1 ≤ 490 by omega) (nI 3) (nI (P 6 c)) (nI 0)
      obtain ⟨Nc, A3, t3, T3, L3, hs3, K3⟩ := a_push hs2 t2 (by omega) (show lv + 2 ≤ 490 by omega) (nI 1) (nI (P 6 (P 3 c))) (nI d)
      obtain ⟨Nd, A4, t4, T4, L4, hs4, K4⟩ := a_push hs3 t3 (by omega) (show lv + 1 ≤ 490 by omega) (nI 1) (nI (P 6 (P 2 c))) (nI d)
      obtain ⟨Ne, A5, t5, T5, L5, hs5, K5⟩ := a_push hs4 t4 (by omega) (show lv ≤ 490 by omega) (nI 1) (nI (P 6 (P 1 c))) (nI 1)
      have b74 := ((MN Nb hs2).2.2.2.2.2.2.2.2.2.2.1 z0).2
      have b73 := ((MN Nc hs3).2.2.2.2.2.2.2.2.1 (.inr (.inr (.inr (.inr z0))))).2.2.2
      have b72 := ((MN Nd hs4).2.2.2.2.2.2.2.2.1 (.inr (.inr (.inr (.inr z0))))).2.2.1
      have v1 := vE _ 1 z1 (by omega) (by rw [z4]; omega)
      have v2 := vE _ d z2 h0 (by rw [z5]; exact hd)
      have v3 := vE _ d z3 h0 (by rw [z6]; exact hd)
      obtain ⟨N1, E1, u1, J1, I1⟩ := IH Ne hs5 lv (P 1 c) 1 (t + 1 + 1 + 1 + 1) z1 (by omega) (by rw [z4]; omega) (by omega) (by omega) t5 T5
      have w1 := aS_F hs5 J1.1
      obtain ⟨N2, E2, u2, J2, I2⟩ := IH N1 w1 (lv + 1) (P 2 c) d (t + 1 + 1 + 1) z2 h0 (by rw [z5]; exact hd) (by omega) (by omega) u1 (tk_L (tk_L T4 (L5 0) (by omega)) J1 (by omega))
      have w2 := aS_F w1 J2.1
      obtain ⟨N3, E3, u3, J3, I3⟩ := IH N2 w2 (lv + 2) (P 3 c) d (t + 1 + 1) z3 h0 (by rw [z6]; exact hd) (by omega) (by omega) u2 (tk_L (tk_L (tk_L (tk_L T3 (L4 0) (by omega)) (L5 0) (by omega)) J1 (by omega)) J2 (by omega))
      have w3 := aS_F w2 J3.1
      have I2' := aK_up I2 J3 hn
      obtain ⟨N4, E4, u4, J4, I4⟩ := a_ei w3 u3 (by omega) (tk_L (tk_L (tk_L (tk_L (tk_L (tk_L T2 (L3 0) (by omega)) (L4 0) (by omega)) (L5 0) (by omega)) J1 (by omega)) J2 (by omega)) J3 (by omega)) (by omega) I2' I3 v2 v3
      have w4 := aS_F w3 J4.1
      have I1' := aK_up (aK_up (aK_up I1 J2 hn) (kL2_le J3 (Nat.le_refl _) (by omega)) hn) J4 hn
      obtain ⟨N5, E5, u5, J5, I5⟩ := a_jn w4 u4 (by omega) (tk_L (tk_L (tk_L (tk_L (tk_L (tk_L (tk_L (tk_L T1 (L2 0) (by omega)) (L3 0) (by omega)) (L4 0) (by omega)) (L5 0) (by omega)) J1 (by omega)) J2 (by omega)) J3 (by omega)) J4 (by omega)) (by omega) I1' I4 v1 (vOK_eo ht v2 v3)
      refine ⟨N5, ((((((a_bs G9 ?_).trans E1).trans E2).trans E3).trans E4).trans E5), u5, kc L9 (kc (L1 lv) (kc (kL2_le (L2 lv) (by omega) (by omega)) (kc (kL2_le (L3 lv) (by omega) (by omega)) (kc (kL2_le (L4 lv) (by omega) (by omega)) (kc (kL2_le (L5 lv) (by omega) (by omega)) (kc (kL2_le J1 (by omega) (by omega)) (kc (kL2_le J2 (by omega) (by omega)) (kc (kL2_le J3 (by omega) (by omega)) (kc (kL2_le J4 (by omega) (by omega)) J5))))))))), I5⟩
      unfold askB
      simp (disch := omega) only [e, A1, e17, A2, b74, e32, A3, b73, A4, b72, A5, k_iT, k_iF, Bool.false_eq_true, eq_self, Nat.add_zero, k_lt', k_bs, k_T, k_F, k_inb, k_ck, k_nz, ↓kN, kL, k_lt, k_le, k_eq, kn_le, kn_lt, kn_eq, kn_le', kn_lt', kn_eq', nI_clamp, nI_add, k_sub, k_mul, k_div, rd_hi, rd_mi, rd_hl, rd_ml, rd_hr, rd_mr, rd_si2, rd_sl1, rd_sl2, rd_sr1, rd_sr2]
end RD
