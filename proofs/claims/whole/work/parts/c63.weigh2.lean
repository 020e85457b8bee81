/-! WEIGHING by the class is pE -/
section WN
variable {b h F ND f a q n i k c d lv g nn : Nat} {M M' M0 M1 N : mv_M} {P : Nat → Nat → Nat} {R : Nat → Nat → Option (Nat → Nat)} {ty w u y : Nat → Nat} {X Y Z : Option (Nat → Nat)}
theorem w_eit (hs : wS b h P F ND f R N M) (hl : lv + 1 < 84) (hX : wK (P 10 f) (fun n => P 13 (16 * f + n)) lv X M) (hY : wK (P 10 f) (fun n => P 13 (16 * f + n)) (lv + 1) Y M) : ∃ M', fX5_takeEither (nI lv) M = some ((), M') ∧ wL lv M M' ∧ wK (P 10 f) (fun n => P 13 (16 * f + n)) lv (eo (fun n => P 13 (16 * f + n)) X Y) M' := by
  have hn := (hs.1.2.2.2 f hs.2.2.1).2.2.1
  obtain ⟨u, hu, hx⟩ := hX
  obtain ⟨y, hy, hz⟩ := hY
  have e16 : lv * 16 = 16 * lv := by omega
  rcases hz with ⟨rfl, e1⟩ | ⟨y', rfl, e1, ey⟩
  · refine ⟨M, ?_, wL_rf, u, hu, ?_⟩
    · unfold fX5_takeEither
      simp (disch := omega) only [e1, k_iT, k_iF, Bool.false_eq_true, eq_self, Nat.add_zero, k_lt', k_bs, k_T, k_F, k_inb, k_ck, k_nz, ↓kN, kL, k_lt, k_le, k_eq, kn_le, kn_lt, kn_eq, kn_le', kn_lt', kn_eq', nI_clamp, nI_add, k_sub, k_mul, k_div, rd_hi, rd_mi, rd_hl, rd_ml, rd_hr, rd_mr, rd_si2, rd_sl1, rd_sl2, rd_sr1, rd_sr2]
    · have : eo (fun n => P 13 (16 * f + n)) X none = X := by cases X <;> rfl
      rw [this]; exact hx
  · rcases hx with ⟨rfl, e0⟩ | ⟨x', rfl, e0, ex⟩
    · have w := w_19 hs hl (fl := 1) (by omega) e0 hu hy
      have e' : fX5_takeEither (nI lv) M = fX5_takeEither_19 (nI lv) (nI (16 * lv)) (nI 0) M := by
        unfold fX5_takeEither
        simp (disch := omega) only [e1, e16, k_iT, k_iF, Bool.false_eq_true, eq_self, Nat.add_zero, k_lt', k_bs, k_T, k_F, k_inb, k_ck, k_nz, ↓kN, kL, k_lt, k_le, k_eq, kn_le, kn_lt, kn_eq, kn_le', kn_lt', kn_eq', nI_clamp, nI_add, k_sub, k_mul, k_div, rd_hi, rd_mi, rd_hl, rd_ml, rd_hr, rd_mr, rd_si2, rd_sl1, rd_sl2, rd_sr1, rd_sr2]
      rw [← e'] at w
      refine ⟨_, w, wL_tr (wL_pB (lv := lv) (Nat.le_refl _)) (wL_si47 (lv := lv) (Nat.le_refl _)) (Nat.le_refl _), y, fun n hn' => ⟨(hy n hn').1, ?_⟩, .inr ⟨y', rfl, ?_, ey⟩⟩
      · rw [rd_mi (by omega), pB_in hn']
        rfl
      · simp (disch := omega) only [rd_hi, rd_mi, rd_hl, rd_ml, rd_hr, rd_mr, rd_si2, rd_sl1, rd_sl2, rd_sr1, rd_sr2]
    · have w := w_19 hs hl (fl := 0) (by omega) e0 hu hy
      have e' : fX5_takeEither (nI lv) M = fX5_takeEither_19 (nI lv) (nI (16 * lv)) (nI 0) M := by
        unfold fX5_takeEither
        simp (disch := omega) only [e1, e16, k_iT, k_iF, Bool.false_eq_true, eq_self, Nat.add_zero, k_lt', k_bs, k_T, k_F, k_inb, k_ck, k_nz, ↓kN, kL, k_lt, k_le, k_eq, kn_le, kn_lt, kn_eq, kn_le', kn_lt', kn_eq', nI_clamp, nI_add, k_sub, k_mul, k_div, rd_hi, rd_mi, rd_hl, rd_ml, rd_hr, rd_mr, rd_si2, rd_sl1, rd_sl2, rd_sr1, rd_sr2]
      rw [← e'] at w
      refine ⟨_, w, wL_tr (wL_pB (lv := lv) (Nat.le_refl _)) (wL_si47 (lv := lv) (Nat.le_refl _)) (Nat.le_refl _), fun n => ei (P 13 (16 * f + n)) (u n) (y n), fun n hn' => ⟨(tg_row (ty6 hs hn') (hu n hn').1 (hy n hn').1).2.2.1, ?_⟩, .inr ⟨_, rfl, ?_, fun n hn' => ?_⟩⟩
      · rw [rd_mi (by omega), pB_in hn']
        rfl
      · simp (disch := omega) only [rd_hi, rd_mi, rd_hl, rd_ml, rd_hr, rd_mr, rd_si2, rd_sl1, rd_sl2, rd_sr1, rd_sr2]
      · show ei _ _ _ = ei _ _ _
        rw [ex n hn', ey n hn']
theorem w_43 (ih : wTg b h P F ND f R N k) {r : Nat → Nat} (hg : 3 * k + 1 ≤ g) (hlv : lv + 1 + k ≤ 83) (c1 : P 15 f ≤ c) (c2 : c ≤ P 12 f) (hl : P 8 c ≤ k) (z0 : P 0 c = 5) (h0 : 0 < d) (hd : d < dem (P 5 c)) (hr : R (P 1 c) d = some r) : ∀ j i X M (x5 : Int32), wS b h P F ND f R N M → wK (P 10 f) (fun n => P 13 (16 * f + n)) lv X M → i + j = P 3 c → (0 < j → x5 = nI (ar P c i)) → ∃ M', fX5_weighCall_43 (fun a0 a1 a2 M => RX5_weigh g 1 a0 a1 a2 M) (nI c) (nI d) (nI lv) (nI (P 1 c)) x5 (nI i) M = some ((), M') ∧ wL lv M M' ∧ wK (P 10 f) (fun n => P 13 (16 * f + n)) lv (ag (fun n => P 13 (16 * f + n)) (pE P R (fun n => P 13 (16 * f + n)) k) (ar P c) r j i X) M' := by
  intro j
  induction j with
  | zero =>
    intro i X M x5 hs hK hi _
    have hw := (hs.1.2.2.2 f hs.2.2.1).2.2.2.2.2.2.2.2.2 c c1 c2
    obtain ⟨_, hc⟩ := w_node hs c2
    have m5 := ((hs.2.2.2.1.2.2.2.2.2 f hs.2.2.1).2.2.2 c c1 c2).2.2.2.2.2.2.2.1 z0
    have hp : P 3 c ≤ 4 := by
      rcases hw.2.2.2.2.2 with ⟨z, _⟩ | z | ⟨z, _⟩ | ⟨_, z1, z2, _⟩ | ⟨z, _⟩ | ⟨z, _⟩ | ⟨z, _⟩ | ⟨z, _⟩ | ⟨z, _⟩
      case inr.inr.inr.inl => have := (hs.1.2.2.2 _ z1).1; omega
      all_goals (try unfold sgK at z); omega
    refine ⟨M, ?_, wL_rf, hK⟩
    unfold fX5_weighCall_43
    refine lp_out ?_
    unfold gX5_weighCall_43
    rw [w_get hs]
    have e := m5.2.2.1
    simp (disch := omega) only [e, k_iT, k_iF, Bool.false_eq_true, eq_self, Nat.add_zero, k_lt', k_bs, k_T, k_F, k_inb, k_ck, k_nz, ↓kN, kL, k_lt, k_le, k_eq, kn_le, kn_lt, kn_eq, kn_le', kn_lt', kn_eq', nI_clamp, nI_add, k_sub, k_mul, k_div, rd_hi, rd_mi, rd_hl, rd_ml, rd_hr, rd_mr, rd_si2, rd_sl1, rd_sl2, rd_sr1, rd_sr2]
  | succ j jh =>
    intro i X M x5 hs hK hi hx
    have hw := (hs.1.2.2.2 f hs.2.2.1).2.2.2.2.2.2.2.2.2 c c1 c2
    obtain ⟨_, hc⟩ := w_node hs c2
    have m5 := ((hs.2.2.2.1.2.2.2.2.2 f hs.2.2.1).2.2.2 c c1 c2).2.2.2.2.2.2.2.1 z0
    have hp : P 1 c < F ∧ P 3 c = P 9 (P 1 c) ∧ P 5 c = P 11 (P 1 c) ∧ ∀ k, k < P 3 c → pC P c (ar P c k) ∧ P 5 (ar P c k) = P 13 (16 * P 1 c + k) := by
      rcases hw.2.2.2.2.2 with ⟨z, _⟩ | z | ⟨z, _⟩ | ⟨_, z1, z2, z3, z4⟩ | ⟨z, _⟩ | ⟨z, _⟩ | ⟨z, _⟩ | ⟨z, _⟩ | ⟨z, _⟩
      case inr.inr.inr.inl => exact ⟨z1, z2, z3, z4⟩
      all_goals (try unfold sgK at z); omega
    obtain ⟨z1, z2, z3, z4⟩ := hp
    have hp4 := (hs.1.2.2.2 _ z1).1
    have hF := hs.1.2.1
    obtain rfl := hx (by omega)
    obtain ⟨w1, w2⟩ := z4 i (by omega)
    obtain ⟨s1, s2⟩ := in_seg hs.1 hs.2.2.1 c1 c2 w1
    obtain ⟨en, hn'⟩ := w_node hs s2
    have rr := hs.2.1 (P 1 c) z1 d h0 (by rw [← z3]; exact hd) r hr i (by omega)
    obtain ⟨ed, er⟩ := (w_row hs z1 h0 (by rw [← z3]; exact hd)).2 r hr
    have er' := er i (by omega)
    obtain ⟨M2, E2, L2, K2⟩ := ih M hs lv (ar P c i) (r i) X hK s1 s2 (by have := w1.2.2; omega) (by rw [w2]; exact rr) hlv g hg
    have hs2 := wS_F hs L2.1
    have m5' := ((hs2.2.2.2.1.2.2.2.2.2 f hs2.2.2.1).2.2.2 c c1 c2).2.2.2.2.2.2.2.1 z0
    obtain ⟨M3, E3, L3, K3⟩ := jh (i + 1) _ M2 (M2.1 (b + 12) (ar P c i)) hs2 K2 (by omega) (fun hj => m5'.2.2.2.2.2.2.2.1 i (by omega))
    refine ⟨M3, ?_, wL_tr L2 L3 (Nat.le_refl _), K3⟩
    unfold fX5_weighCall_43 at E3 ⊢
    refine Eq.trans (lp_go (s' := (nI c, nI d, nI lv, nI (P 1 c), M2.1 (b + 12) (ar P c i), nI (i + 1))) (M' := M2) ?_) E3
    unfold gX5_weighCall_43
    have e := m5.2.2.1
    rw [w_get hs]
    simp (disch := omega) only [e, k_iT, k_iF, Bool.false_eq_true, eq_self, Nat.add_zero, k_lt', k_bs, k_T, k_F, k_inb, k_ck, k_nz, ↓kN, kL, k_lt, k_le, k_eq, kn_le, kn_lt, kn_eq, kn_le', kn_lt', kn_eq', nI_clamp, nI_add, k_sub, k_mul, k_div, rd_hi, rd_mi, rd_hl, rd_ml, rd_hr, rd_mr, rd_si2, rd_sl1, rd_sl2, rd_sr1, rd_sr2]
    rw [w_get hs]
    simp (disch := omega) only [en, er', E2, k_iT, k_iF, Bool.false_eq_true, eq_self, Nat.add_zero, k_lt', k_bs, k_T, k_F, k_inb, k_ck, k_nz, ↓kN, kL, k_lt, k_le, k_eq, kn_le, kn_lt, kn_eq, kn_le', kn_lt', kn_eq', nI_clamp, nI_add, k_sub, k_mul, k_div, rd_hi, rd_mi, rd_hl, rd_ml, rd_hr, rd_mr, rd_si2, rd_sl1, rd_sl2, rd_sr1, rd_sr2]
    rw [w_get hs2]
end WN
