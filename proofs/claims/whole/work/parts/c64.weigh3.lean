section WO
variable {b h F ND f a q n i k c d lv g nn : Nat} {M M' M0 M1 N : mv_M} {P : Nat → Nat → Nat} {R : Nat → Nat → Option (Nat → Nat)} {ty w u y : Nat → Nat} {X Y Z : Option (Nat → Nat)}
theorem w_ent {r1 r2 r3 r4 r5 : Int32 → Int32 → Int32 → mv_M → Option (Unit × mv_M)} (hs : wS b h P F ND f R N M) (c2 : c ≤ P 12 f) (hl : lv < 84) : ∃ M9, fX5_weigh r1 r2 r3 r4 r5 (nI c) (nI d) (nI lv) M = wB r1 r2 r3 r4 r5 (nI c) (nI d) (nI lv) (nI (16 * lv)) M9 ∧ wL lv M M9 ∧ M9.1 47 lv = nI 0 ∧ (∀ n, n < P 10 f → M9.1 46 (16 * lv + n) = nI 0) ∧ wK (P 10 f) (fun n => P 13 (16 * f + n)) lv (some (fun _ => 0)) M9 := by
  have hn := (hs.1.2.2.2 f hs.2.2.1).2.2.1
  have hF := hs.1.2.1
  have hf := hs.2.2.1
  obtain ⟨en, hc⟩ := w_node hs c2
  have e6 := hs.2.2.2.2.2.1
  have e3 := (hs.2.2.2.1.2.2.2.2.2 f hf).1.2.1
  have e16 : lv * 16 = 16 * lv := by omega
  have fi := w_fill (M := M) (q := 16 * lv) (n := P 10 f) (by omega)
  have r1' : (mv_si (pB 46 M (16 * lv) (P 10 f) (fun _ => 0)) 47 lv (nI 0)).1 47 lv = nI 0 := by simp (disch := omega) only [rd_hi, rd_mi, rd_hl, rd_ml, rd_hr, rd_mr, rd_si2, rd_sl1, rd_sl2, rd_sr1, rd_sr2]
  have r2' : ∀ n, n < P 10 f → (mv_si (pB 46 M (16 * lv) (P 10 f) (fun _ => 0)) 47 lv (nI 0)).1 46 (16 * lv + n) = nI 0 := fun n hn => by rw [rd_mi (by omega), pB_in hn]
  refine ⟨mv_si (pB 46 M (16 * lv) (P 10 f) (fun _ => 0)) 47 lv (nI 0), ?_, wL_tr (wL_pB (lv := lv) (Nat.le_refl _)) (wL_si47 (lv := lv) (Nat.le_refl _)) (Nat.le_refl _), r1', r2', fun _ => 0, fun n hn => ⟨dem_pos, r2' n hn⟩, .inr ⟨_, rfl, r1', fun _ _ => rfl⟩⟩
  have e : fX5_weigh r1 r2 r3 r4 r5 (nI c) (nI d) (nI lv) M = (if nI lv < 0 then some ((), M) else if 84 ≤ nI lv then some ((), M) else mv_getp (M.2.2 5 1) fun b1 => mv_bind (fX4_hasNode b1 (nI c) M) fun r2' M3 => if r2' = 0 then some ((), M3) else mv_let (nI lv * 16) fun v4 => mv_getp (M3.2.2 5 1) fun b5 => mv_chk (mv_inb (M3.1 5 2) 12) <| mv_bind (fJ7_fill_fda19 v4 (v4 + (M3.1 (b5 + 3) (M3.1 5 2).toNatClampNeg)) 0 M3) fun _ M7 => mv_chk (mv_inb (nI lv) 84) <| mv_let (mv_si M7 47 (nI lv).toNatClampNeg (vp_nar .boolean 0)) fun M9 => wB r1 r2 r3 r4 r5 (nI c) (nI d) (nI lv) v4 M9) := rfl
  rw [e, w_get hs]
  simp (disch := omega) only [en, k_iT, k_iF, Bool.false_eq_true, eq_self, Nat.add_zero, k_lt', k_bs, k_T, k_F, k_inb, k_ck, k_nz, ↓kN, kL, k_lt, k_le, k_eq, kn_le, kn_lt, kn_eq, kn_le', kn_lt', kn_eq', nI_clamp, nI_add, k_sub, k_mul, k_div, rd_hi, rd_mi, rd_hl, rd_ml, rd_hr, rd_mr, rd_si2, rd_sl1, rd_sl2, rd_sr1, rd_sr2]
  rw [w_get hs]
  have v0 : vp_nar .boolean (nI 0) = nI 0 := vp0
  simp (disch := omega) only [e6, e3, e16, fi, v0, k_iT, k_iF, Bool.false_eq_true, eq_self, Nat.add_zero, k_lt', k_bs, k_T, k_F, k_inb, k_ck, k_nz, ↓kN, kL, k_lt, k_le, k_eq, kn_le, kn_lt, kn_eq, kn_le', kn_lt', kn_eq', nI_clamp, nI_add, k_sub, k_mul, k_div, rd_hi, rd_mi, rd_hl, rd_ml, rd_hr, rd_mr, rd_si2, rd_sl1, rd_sl2, rd_sr1, rd_sr2]
theorem w_on (hs : wS b h P F ND f R N M) (hl : lv < 84) (hk : k < P 10 f) : fX5_onSheet (nI lv) (nI k) M = some (M.1 46 (16 * lv + k), M) := by
  have hn := (hs.1.2.2.2 f hs.2.2.1).2.2.1
  have e6 := hs.2.2.2.2.2.1
  have e1 := w_name hs hk
  have e16 : lv * 16 = 16 * lv := by omega
  unfold fX5_onSheet
  rw [w_get hs, e6]
  simp (disch := omega) only [e1, e16, k_iT, k_iF, Bool.false_eq_true, eq_self, Nat.add_zero, k_lt', k_bs, k_T, k_F, k_inb, k_ck, k_nz, ↓kN, kL, k_lt, k_le, k_eq, kn_le, kn_lt, kn_eq, kn_le', kn_lt', kn_eq', nI_clamp, nI_add, k_sub, k_mul, k_div, rd_hi, rd_mi, rd_hl, rd_ml, rd_hr, rd_mr, rd_si2, rd_sl1, rd_sl2, rd_sr1, rd_sr2]
theorem w_main : ∀ k, wI b h P F ND f R N k := by
  intro k
  induction k with
  | zero => intro M hs lv c d c1 c2 hl; omega
  | succ k ih =>
    intro M hs lv c d c1 c2 hl h0 hd hlv g hg
    obtain ⟨g, rfl⟩ : ∃ g', g = g' + 3 := ⟨g - 3, by omega⟩
    have tog := w_tog ih
    have hn := (hs.1.2.2.2 f hs.2.2.1).2.2.1
    have hd' := dem_le (t := P 5 c)
    have hw := (hs.1.2.2.2 f hs.2.2.1).2.2.2.2.2.2.2.2.2 c c1 c2
    obtain ⟨_, hc⟩ := w_node hs c2
    have hF := hs.1.2.1
    have hf := hs.2.2.1
    have ht : ∀ n, n < P 10 f → (fun n => P 13 (16 * f + n)) n < 6 := fun n hn => ty6 hs hn
    obtain ⟨M9, E9, L9, r47, r46, K9⟩ := w_ent (r1 := fun a0 a1 a2 M => RX5_weigh (g + 2) 5 a0 a1 a2 M) (r2 := fun a0 a1 a2 M => RX5_weigh (g + 2) 4 a0 a1 a2 M) (r3 := fun a0 a1 a2 M => RX5_weigh (g + 2) 2 a0 a1 a2 M) (r4 := fun a0 a1 a2 M => RX5_weigh (g + 2) 3 a0 a1 a2 M) (r5 := fun a0 a1 a2 M => RX5_weigh (g + 2) 1 a0 a1 a2 M) (d := d) (lv := lv) hs c2 (by omega)
    have hs9 := wS_F hs L9.1
    have sg := fun c' (hc' : pC P c c') => in_seg hs.1 hs.2.2.1 c1 c2 hc'
    have MN := fun M' (h' : wS b h P F ND f R N M') => (h'.2.2.2.1.2.2.2.2.2 f h'.2.2.1).2.2.2 c c1 c2
    have m9 := MN M9 hs9
    have e8 := m9.1
    have vE : ∀ c' d', pC P c c' → 0 < d' → d' < dem (P 5 c') → vOK (fun n => P 13 (16 * f + n)) (P 10 f) (pE P R (fun n => P 13 (16 * f + n)) k c' d') := fun c' d' hc' u1 u2 => pE_ok hs.1 hs.2.1 hf k c' d' (sg c' hc').1 (sg c' hc').2 (by have := hc'.2.2; omega) u1 u2
    have IH := fun M' (h' : wS b h P F ND f R N M') lv' c' d' (hc' : pC P c c') (u1 : 0 < d') (u2 : d' < dem (P 5 c')) (u3 : lv' ≤ lv + 1) g' (u4 : 3 * k ≤ g') => ih M' h' lv' c' d' (sg c' hc').1 (sg c' hc').2 (by have := hc'.2.2; omega) u1 u2 (by omega) g' u4
    have TG := fun M' (h' : wS b h P F ND f R N M') c' d' X (hK : wK (P 10 f) (fun n => P 13 (16 * f + n)) lv X M') (hc' : pC P c c') (u2 : d' < dem (P 5 c')) g' (u4 : 3 * k + 1 ≤ g') => tog M' h' lv c' d' X hK (sg c' hc').1 (sg c' hc').2 (by have := hc'.2.2; omega) u2 (by omega) g' u4
    rw [rx0, E9]
    unfold wB
    rw [w_get hs9]
    have h50 : dem 0 = 2 := rfl
    rcases hw.2.2.2.2.2 with ⟨z0, z1⟩ | z0 | ⟨z0, z1, z2, z3⟩ | ⟨z0, z1, z2, z3, z4⟩ | ⟨z0, z1, z2, z3, z4, z5⟩ | ⟨z0, z1, z2, z3, z4, z5⟩ | ⟨z0, z1, z2, z3, z4, z5, z6, z7, z8, z9⟩ | ⟨z0, z1, z2, z3, z4, z5, z6, z7, z8, z9, zA, zB, zC⟩ | ⟨z0, z1, z2, z3, z4, z5, z6⟩
    · -- a number
      rw [pe3 z0]
      refine ⟨M9, ?_, L9, K9⟩
      simp (disch := omega) only [e8, z0, k_iT, k_iF, Bool.false_eq_true, eq_self, Nat.add_zero, k_lt', k_bs, k_T, k_F, k_inb, k_ck, k_nz, ↓kN, kL, k_lt, k_le, k_eq, kn_le, kn_lt, kn_eq, kn_le', kn_lt', kn_eq', nI_clamp, nI_add, k_sub, k_mul, k_div, rd_hi, rd_mi, rd_hl, rd_ml, rd_hr, rd_mr, rd_si2, rd_sl1, rd_sl2, rd_sr1, rd_sr2]
    · -- fail
      rw [pe308 z0]
      obtain ⟨u, hu, _⟩ := K9
      refine ⟨mv_si M9 47 lv (nI 1), ?_, wL_tr L9 (wL_si47 (Nat.le_refl _)) (Nat.le_refl _), u, fun n hn' => ⟨(hu n hn').1, ?_⟩, .inl ⟨rfl, by simp (disch := omega) only [rd_hi, rd_mi, rd_hl, rd_ml, rd_hr, rd_mr, rd_si2, rd_sl1, rd_sl2, rd_sr1, rd_sr2]⟩⟩
      · rw [vp1]
        simp (disch := omega) only [e8, z0, k_iT, k_iF, Bool.false_eq_true, eq_self, Nat.add_zero, k_lt', k_bs, k_T, k_F, k_inb, k_ck, k_nz, ↓kN, kL, k_lt, k_le, k_eq, kn_le, kn_lt, kn_eq, kn_le', kn_lt', kn_eq', nI_clamp, nI_add, k_sub, k_mul, k_div, rd_hi, rd_mi, rd_hl, rd_ml, rd_hr, rd_mr, rd_si2, rd_sl1, rd_sl2, rd_sr1, rd_sr2]
      · simp (disch := omega) only [rd_hi, rd_mi, rd_hl, rd_ml, rd_hr, rd_mr, rd_si2, rd_sl1, rd_sl2, rd_sr1, rd_sr2]
        exact (hu n hn').2
    · -- a name
      rw [pe2 z0]
      have e9 := (m9.2.2.2.2.2.2.1 z0).1
      have en := w_name hs9 z1
      have e6 := hs9.2.2.2.2.2.1
      have rw46 : ∀ n, n < P 10 f → (mv_si M9 46 (16 * lv + P 1 c) (nI d)).1 46 (16 * lv + n) = nI (if n = P 1 c then d else 0) := by
        intro n hn'
        by_cases e : n = P 1 c
        · rw [if_pos e, rd_hi (by omega)]
        · rw [if_neg e, rd_mi (by omega), r46 n hn']
      refine ⟨mv_si M9 46 (16 * lv + P 1 c) (nI d), ?_, wL_tr L9 (wL_si46 (by omega)) (Nat.le_refl _), _, fun n hn' => ⟨?_, rw46 n hn'⟩, .inr ⟨_, rfl, by simp (disch := omega) only [rd_hi, rd_mi, rd_hl, rd_ml, rd_hr, rd_mr, rd_si2, rd_sl1, rd_sl2, rd_sr1, rd_sr2]; exact r47, fun _ _ => rfl⟩⟩
      · simp (disch := omega) only [e8, z0, k_iT, k_iF, Bool.false_eq_true, eq_self, Nat.add_zero, k_lt', k_bs, k_T, k_F, k_inb, k_ck, k_nz, ↓kN, kL, k_lt, k_le, k_eq, kn_le, kn_lt, kn_eq, kn_le', kn_lt', kn_eq', nI_clamp, nI_add, k_sub, k_mul, k_div, rd_hi, rd_mi, rd_hl, rd_ml, rd_hr, rd_mr, rd_si2, rd_sl1, rd_sl2, rd_sr1, rd_sr2]
        rw [w_get hs9, w_get hs9]
        simp (disch := omega) only [e9, e6, en, k_iT, k_iF, Bool.false_eq_true, eq_self, Nat.add_zero, k_lt', k_bs, k_T, k_F, k_inb, k_ck, k_nz, ↓kN, kL, k_lt, k_le, k_eq, kn_le, kn_lt, kn_eq, kn_le', kn_lt', kn_eq', nI_clamp, nI_add, k_sub, k_mul, k_div, rd_hi, rd_mi, rd_hl, rd_ml, rd_hr, rd_mr, rd_si2, rd_sl1, rd_sl2, rd_sr1, rd_sr2]
        rw [w_get hs9]
        simp (disch := omega) only [e9, k_iT, k_iF, Bool.false_eq_true, eq_self, Nat.add_zero, k_lt', k_bs, k_T, k_F, k_inb, k_ck, k_nz, ↓kN, kL, k_lt, k_le, k_eq, kn_le, kn_lt, kn_eq, kn_le', kn_lt', kn_eq', nI_clamp, nI_add, k_sub, k_mul, k_div, rd_hi, rd_mi, rd_hl, rd_ml, rd_hr, rd_mr, rd_si2, rd_sl1, rd_sl2, rd_sr1, rd_sr2]
      · show (if n = P 1 c then d else 0) < dem (P 13 (16 * f + n))
        by_cases e : n = P 1 c
        · rw [if_pos e, e, z2]; exact hd
        · rw [if_neg e]; exact dem_pos
    · -- a call
      rw [pe5 z0]
      have m5 := m9.2.2.2.2.2.2.2.1 z0
      have e9 := m5.1
      have row := w_row hs9 z1 h0 (by rw [← z3]; exact hd)
      have ec : RX5_weigh (g + 2) 5 (nI c) (nI d) (nI lv) M9 = fX5_weighCall (fun a0 a1 a2 M => RX5_weigh (g + 1) 1 a0 a1 a2 M) (nI c) (nI d) (nI lv) M9 := rx5
      cases hr : R (P 1 c) d with
      | none =>
        have ed := row.1 hr
        obtain ⟨u, hu, _⟩ := K9
        refine ⟨mv_si M9 47 lv (nI 1), ?_, wL_tr L9 (wL_si47 (Nat.le_refl _)) (Nat.le_refl _), u, fun n hn' => ⟨(hu n hn').1, ?_⟩, .inl ⟨rfl, by simp (disch := omega) only [rd_hi, rd_mi, rd_hl, rd_ml, rd_hr, rd_mr, rd_si2, rd_sl1, rd_sl2, rd_sr1, rd_sr2]⟩⟩
        · simp (disch := omega) only [e8, z0, k_iT, k_iF, Bool.false_eq_true, eq_self, Nat.add_zero, k_lt', k_bs, k_T, k_F, k_inb, k_ck, k_nz, ↓kN, kL, k_lt, k_le, k_eq, kn_le, kn_lt, kn_eq, kn_le', kn_lt', kn_eq', nI_clamp, nI_add, k_sub, k_mul, k_div, rd_hi, rd_mi, rd_hl, rd_ml, rd_hr, rd_mr, rd_si2, rd_sl1, rd_sl2, rd_sr1, rd_sr2]
          rw [ec]
          unfold fX5_weighCall
          rw [w_get hs9, vp1]
          simp (disch := omega) only [e9, ed, k_iT, k_iF, Bool.false_eq_true, eq_self, Nat.add_zero, k_lt', k_bs, k_T, k_F, k_inb, k_ck, k_nz, ↓kN, kL, k_lt, k_le, k_eq, kn_le, kn_lt, kn_eq, kn_le', kn_lt', kn_eq', nI_clamp, nI_add, k_sub, k_mul, k_div, rd_hi, rd_mi, rd_hl, rd_ml, rd_hr, rd_mr, rd_si2, rd_sl1, rd_sl2, rd_sr1, rd_sr2]
        · simp (disch := omega) only [rd_hi, rd_mi, rd_hl, rd_ml, rd_hr, rd_mr, rd_si2, rd_sl1, rd_sl2, rd_sr1, rd_sr2]
          exact (hu n hn').2
      | some r =>
        have ed := (row.2 r hr).1
        obtain ⟨M', E', L', K'⟩ := w_43 tog (g := g + 1) (by omega) (by omega) c1 c2 (by omega) z0 h0 hd hr (P 3 c) 0 _ M9 (M9.1 (b + 10) c) hs9 K9 (by omega) (fun hj => m5.2.2.2.2.2.2.1 hj)
        refine ⟨M', ?_, wL_tr L9 L' (Nat.le_refl _), K'⟩
        simp (disch := omega) only [e8, z0, k_iT, k_iF, Bool.false_eq_true, eq_self, Nat.add_zero, k_lt', k_bs, k_T, k_F, k_inb, k_ck, k_nz, ↓kN, kL, k_lt, k_le, k_eq, kn_le, kn_lt, kn_eq, kn_le', kn_lt', kn_eq', nI_clamp, nI_add, k_sub, k_mul, k_div, rd_hi, rd_mi, rd_hl, rd_ml, rd_hr, rd_mr, rd_si2, rd_sl1, rd_sl2, rd_sr1, rd_sr2]
        rw [ec]
        unfold fX5_weighCall
        rw [w_get hs9]
        simp (disch := omega) only [e9, ed, k_iT, k_iF, Bool.false_eq_true, eq_self, Nat.add_zero, k_lt', k_bs, k_T, k_F, k_inb, k_ck, k_nz, ↓kN, kL, k_lt, k_le, k_eq, kn_le, kn_lt, kn_eq, kn_le', kn_lt', kn_eq', nI_clamp, nI_add, k_sub, k_mul, k_div, rd_hi, rd_mi, rd_hl, rd_ml, rd_hr, rd_mr, rd_si2, rd_sl1, rd_sl2, rd_sr1, rd_sr2]
        rw [w_get hs9]
        simp (disch := omega) only [E', k_iT, k_iF, Bool.false_eq_true, eq_self, Nat.add_zero, k_lt', k_bs, k_T, k_F, k_inb, k_ck, k_nz, ↓kN, kL, k_lt, k_le, k_eq, kn_le, kn_lt, kn_eq, kn_le', kn_lt', kn_eq', nI_clamp, nI_add, k_sub, k_mul, k_div, rd_hi, rd_mi, rd_hl, rd_ml, rd_hr, rd_mr, rd_si2, rd_sl1, rd_sl2, rd_sr1, rd_sr2]
    · -- a sign
      rw [pes z0]
      have mb := m9.2.2.2.2.2.2.2.2.1 (.inl z0)
      have e9 := mb.1
      obtain ⟨M2, E2, L2, K2⟩ := TG M9 hs9 (P 1 c) 1 _ K9 z1 (by rw [z3]; omega) (g + 2) (by omega)
      rw [if_neg (by omega)] at K2
      have hs2 := wS_F hs9 L2.1
      have e10 := ((MN M2 hs2).2.2.2.2.2.2.2.2.1 (.inl z0)).2.1
      obtain ⟨M3, E3, L3, K3⟩ := TG M2 hs2 (P 2 c) 1 _ K2 z2 (by rw [z4]; omega) (g + 2) (by omega)
      rw [if_neg (by omega)] at K3
      refine ⟨M3, ?_, wL_tr L9 (wL_tr L2 L3 (Nat.le_refl _)) (Nat.le_refl _), wK_cg K3 (rs_jn (rs_0l ht (vE _ 1 z1 (by omega) (by rw [z3]; omega))) rs_rf)⟩
      unfold sgK at z0
      simp (disch := omega) only [e8, k_iT, k_iF, Bool.false_eq_true, eq_self, Nat.add_zero, k_lt', k_bs, k_T, k_F, k_inb, k_ck, k_nz, ↓kN, kL, k_lt, k_le, k_eq, kn_le, kn_lt, kn_eq, kn_le', kn_lt', kn_eq', nI_clamp, nI_add, k_sub, k_mul, k_div, rd_hi, rd_mi, rd_hl, rd_ml, rd_hr, rd_mr, rd_si2, rd_sl1, rd_sl2, rd_sr1, rd_sr2]
      rw [w_get hs9]
      simp (disch := omega) only [e9, E2, k_iT, k_iF, Bool.false_eq_true, eq_self, Nat.add_zero, k_lt', k_bs, k_T, k_F, k_inb, k_ck, k_nz, ↓kN, kL, k_lt, k_le, k_eq, kn_le, kn_lt, kn_eq, kn_le', kn_lt', kn_eq', nI_clamp, nI_add, k_sub, k_mul, k_div, rd_hi, rd_mi, rd_hl, rd_ml, rd_hr, rd_mr, rd_si2, rd_sl1, rd_sl2, rd_sr1, rd_sr2]
      rw [w_get hs2]
      simp (disch := omega) only [e10, E3, k_iT, k_iF, Bool.false_eq_true, eq_self, Nat.add_zero, k_lt', k_bs, k_T, k_F, k_inb, k_ck, k_nz, ↓kN, kL, k_lt, k_le, k_eq, kn_le, kn_lt, kn_eq, kn_le', kn_lt', kn_eq', nI_clamp, nI_add, k_sub, k_mul, k_div, rd_hi, rd_mi, rd_hl, rd_ml, rd_hr, rd_mr, rd_si2, rd_sl1, rd_sl2, rd_sr1, rd_sr2]
    · -- a pair
      rw [pe6 z0]
      have mb := m9.2.2.2.2.2.2.2.2.1 (.inr (.inl z0))
      have e9 := mb.1
      have e13 := m9.2.1
      obtain ⟨p1, p2, _⟩ := pt_row (t := P 5 c) (by omega) (by omega) hd (by omega)
      rw [show (P 5 c - 1) / 2 = P 5 (P 1 c) by omega] at p1
      rw [show (P 5 c - 1) % 2 = P 5 (P 2 c) by omega] at p2
      have cr := fun M' => ((cl_row (M := M') (t := P 5 c) (a := d) (by omega) hd).2.2.1 (by omega) (by omega))
      obtain ⟨M2, E2, L2, K2⟩ := TG M9 hs9 (P 1 c) _ _ K9 z1 p1 (g + 2) (by omega)
      have hs2 := wS_F hs9 L2.1
      have e10 := ((MN M2 hs2).2.2.2.2.2.2.2.2.1 (.inr (.inl z0))).2.1
      have e13' := (MN M2 hs2).2.1
      obtain ⟨M3, E3, L3, K3⟩ := TG M2 hs2 (P 2 c) _ _ K2 z2 p2 (g + 2) (by omega)
      have f1 := (cr M9).1
      have f2 := (cr M2).2
      refine ⟨M3, ?_, wL_tr L9 (wL_tr L2 L3 (Nat.le_refl _)) (Nat.le_refl _), wK_cg K3 ?_⟩
      · simp (disch := omega) only [e8, z0, k_iT, k_iF, Bool.false_eq_true, eq_self, Nat.add_zero, k_lt', k_bs, k_T, k_F, k_inb, k_ck, k_nz, ↓kN, kL, k_lt, k_le, k_eq, kn_le, kn_lt, kn_eq, kn_le', kn_lt', kn_eq', nI_clamp, nI_add, k_sub, k_mul, k_div, rd_hi, rd_mi, rd_hl, rd_ml, rd_hr, rd_mr, rd_si2, rd_sl1, rd_sl2, rd_sr1, rd_sr2]
        rw [w_get hs9]
        simp (disch := omega) only [e9, k_iT, k_iF, Bool.false_eq_true, eq_self, Nat.add_zero, k_lt', k_bs, k_T, k_F, k_inb, k_ck, k_nz, ↓kN, kL, k_lt, k_le, k_eq, kn_le, kn_lt, kn_eq, kn_le', kn_lt', kn_eq', nI_clamp, nI_add, k_sub, k_mul, k_div, rd_hi, rd_mi, rd_hl, rd_ml, rd_hr, rd_mr, rd_si2, rd_sl1, rd_sl2, rd_sr1, rd_sr2]
        rw [w_get hs9]
        simp (disch := omega) only [e13, f1, E2, k_iT, k_iF, Bool.false_eq_true, eq_self, Nat.add_zero, k_lt', k_bs, k_T, k_F, k_inb, k_ck, k_nz, ↓kN, kL, k_lt, k_le, k_eq, kn_le, kn_lt, kn_eq, kn_le', kn_lt', kn_eq', nI_clamp, nI_add, k_sub, k_mul, k_div, rd_hi, rd_mi, rd_hl, rd_ml, rd_hr, rd_mr, rd_si2, rd_sl1, rd_sl2, rd_sr1, rd_sr2]
        rw [w_get hs2]
        simp (disch := omega) only [e10, k_iT, k_iF, Bool.false_eq_true, eq_self, Nat.add_zero, k_lt', k_bs, k_T, k_F, k_inb, k_ck, k_nz, ↓kN, kL, k_lt, k_le, k_eq, kn_le, kn_lt, kn_eq, kn_le', kn_lt', kn_eq', nI_clamp, nI_add, k_sub, k_mul, k_div, rd_hi, rd_mi, rd_hl, rd_ml, rd_hr, rd_mr, rd_si2, rd_sl1, rd_sl2, rd_sr1, rd_sr2]
        rw [w_get hs2]
        simp (disch := omega) only [e13', f2, E3, k_iT, k_iF, Bool.false_eq_true, eq_self, Nat.add_zero, k_lt', k_bs, k_T, k_F, k_inb, k_ck, k_nz, ↓kN, kL, k_lt, k_le, k_eq, kn_le, kn_lt, kn_eq, kn_le', kn_lt', kn_eq', nI_clamp, nI_add, k_sub, k_mul, k_div, rd_hi, rd_mi, rd_hl, rd_ml, rd_hr, rd_mr, rd_si2, rd_sl1, rd_sl2, rd_sr1, rd_sr2]
      · have s1 : rsame (P 10 f) (if af (P 5 c) d = 0 then some (fun _ => 0) else jn (fun n => P 13 (16 * f + n)) (some (fun _ => 0)) (pE P R (fun n => P 13 (16 * f + n)) k (P 1 c) (af (P 5 c) d))) (if af (P 5 c) d = 0 then some (fun _ => 0) else pE P R (fun n => P 13 (16 * f + n)) k (P 1 c) (af (P 5 c) d)) ∧ vOK (fun n => P 13 (16 * f + n)) (P 10 f) (if af (P 5 c) d = 0 then some (fun _ => 0) else pE P R (fun n => P 13 (16 * f + n)) k (P 1 c) (af (P 5 c) d)) := by
          by_cases a0 : af (P 5 c) d = 0
          · rw [if_pos a0, if_pos a0]; exact ⟨rs_rf, vOK_0⟩
          · rw [if_neg a0, if_neg a0]
            have v := vE (P 1 c) _ z1 (by omega) p1
            exact ⟨rs_0l ht v, v⟩
        by_cases a0 : as (P 5 c) d = 0
        · rw [if_pos a0, if_pos a0]
          exact rs_tr s1.1 (rs_sy (rs_0r ht s1.2))
        · rw [if_neg a0, if_neg a0]
          exact rs_jn s1.1 rs_rf
    · -- let
      rw [pe304 z0]
      have mb := m9.2.2.2.2.2.2.2.2.1 (.inr (.inr (.inl z0)))
      have e10 := mb.2.1
      obtain ⟨M2, E2, L2, K2⟩ := IH M9 hs9 lv (P 2 c) d z2 h0 (by rw [z3]; exact hd) (by omega) (g + 1) (by omega)
      have hs2 := wS_F hs9 L2.1
      have e9 := ((MN M2 hs2).2.2.2.2.2.2.2.2.1 (.inr (.inr (.inl z0)))).1
      have e11 := ((MN M2 hs2).2.2.2.2.2.2.2.2.2.2.2 (.inl z0)).1
      have on := w_on hs2 (lv := lv) (by omega) z5
      obtain ⟨u, hu, hx⟩ := id K2
      obtain ⟨u1, u2⟩ := hu (P 3 c) z5
      obtain ⟨M3, E3, L3, K3⟩ := TG M2 hs2 (P 1 c) (u (P 3 c)) _ K2 z1 (by rw [← z6]; exact u1) (g + 1) (by omega)
      have ec : RX5_weigh (g + 2) 3 (nI c) (nI d) (nI lv) M9 = fX5_weighLet (fun a0 a1 a2 M => RX5_weigh (g + 1) 0 a0 a1 a2 M) (fun a0 a1 a2 M => RX5_weigh (g + 1) 1 a0 a1 a2 M) (nI c) (nI d) (nI lv) M9 := rx3
      refine ⟨M3, ?_, wL_tr L9 (wL_tr L2 L3 (Nat.le_refl _)) (Nat.le_refl _), wK_cg K3 ?_⟩
      · simp (disch := omega) only [e8, z0, k_iT, k_iF, Bool.false_eq_true, eq_self, Nat.add_zero, k_lt', k_bs, k_T, k_F, k_inb, k_ck, k_nz, ↓kN, kL, k_lt, k_le, k_eq, kn_le, kn_lt, kn_eq, kn_le', kn_lt', kn_eq', nI_clamp, nI_add, k_sub, k_mul, k_div, rd_hi, rd_mi, rd_hl, rd_ml, rd_hr, rd_mr, rd_si2, rd_sl1, rd_sl2, rd_sr1, rd_sr2]
        rw [ec]
        unfold fX5_weighLet
        rw [w_get hs9]
        simp (disch := omega) only [e10, E2, k_iT, k_iF, Bool.false_eq_true, eq_self, Nat.add_zero, k_lt', k_bs, k_T, k_F, k_inb, k_ck, k_nz, ↓kN, kL, k_lt, k_le, k_eq, kn_le, kn_lt, kn_eq, kn_le', kn_lt', kn_eq', nI_clamp, nI_add, k_sub, k_mul, k_div, rd_hi, rd_mi, rd_hl, rd_ml, rd_hr, rd_mr, rd_si2, rd_sl1, rd_sl2, rd_sr1, rd_sr2]
        rw [w_get hs2]
        simp (disch := omega) only [e9, k_iT, k_iF, Bool.false_eq_true, eq_self, Nat.add_zero, k_lt', k_bs, k_T, k_F, k_inb, k_ck, k_nz, ↓kN, kL, k_lt, k_le, k_eq, kn_le, kn_lt, kn_eq, kn_le', kn_lt', kn_eq', nI_clamp, nI_add, k_sub, k_mul, k_div, rd_hi, rd_mi, rd_hl, rd_ml, rd_hr, rd_mr, rd_si2, rd_sl1, rd_sl2, rd_sr1, rd_sr2]
        rw [w_get hs2]
        simp (disch := omega) only [e11, on, u2, E3, k_iT, k_iF, Bool.false_eq_true, eq_self, Nat.add_zero, k_lt', k_bs, k_T, k_F, k_inb, k_ck, k_nz, ↓kN, kL, k_lt, k_le, k_eq, kn_le, kn_lt, kn_eq, kn_le', kn_lt', kn_eq', nI_clamp, nI_add, k_sub, k_mul, k_div, rd_hi, rd_mi, rd_hl, rd_ml, rd_hr, rd_mr, rd_si2, rd_sl1, rd_sl2, rd_sr1, rd_sr2]
      · rcases hx with ⟨ex, _⟩ | ⟨x, ex, _, ux⟩
        · rw [ex]
          show rsame _ (if _ then none else none) none
          by_cases v0 : u (P 3 c) = 0
          · rw [if_pos v0]; exact rs_rf
          · rw [if_neg v0]; exact rs_rf
        · rw [ex, ux _ z5]; exact rs_rf
    · -- case
      rw [pe306 z0]
      have mb := m9.2.2.2.2.2.2.2.2.1 (.inr (.inr (.inr (.inl z0))))
      have e10 := mb.2.1
      obtain ⟨M2, E2, L2, K2⟩ := IH M9 hs9 lv (P 2 c) d z2 h0 (by rw [z3]; exact hd) (by omega) (g + 1) (by omega)
      have hs2 := wS_F hs9 L2.1
      have e9 := ((MN M2 hs2).2.2.2.2.2.2.2.2.1 (.inr (.inr (.inr (.inl z0))))).1
      have e11 := ((MN M2 hs2).2.2.2.2.2.2.2.2.2.2.2 (.inr z0)).1
      have on1 := w_on hs2 (lv := lv) (k := P 3 c) (by omega) (by omega)
      have on2 := w_on hs2 (lv := lv) (k := P 3 c + 1) (by omega) z5
      obtain ⟨u, hu, hx⟩ := id K2
      obtain ⟨u1, u2⟩ := hu (P 3 c) (by omega)
      obtain ⟨u3, u4⟩ := hu (P 3 c + 1) z5
      obtain ⟨s1, s2⟩ := sg _ z1
      obtain ⟨en, hc1⟩ := w_node hs2 s2
      have t1 := ((hs.1.2.2.2 f hf).2.2.2.2.2.2.2.2.2 _ s1 s2).1
      have m1 := ((hs2.2.2.2.1.2.2.2.2.2 f hs2.2.2.1).2.2.2 _ s1 s2).2.1
      have d1 := dem_le (t := P 13 (16 * f + P 3 c))
      have d2 := dem_le (t := P 13 (16 * f + (P 3 c + 1)))
      obtain ⟨q1, q2, _⟩ := pd_row (t := P 5 (P 1 c)) (x := u (P 3 c)) (y := u (P 3 c + 1)) (by omega) (by omega) (by rw [← z7]; exact u1) (by rw [← z8]; exact u3)
      have pp := cl_pd (t := P 5 (P 1 c)) (x := u (P 3 c)) (y := u (P 3 c + 1)) (M := M2) (by omega) (by have : u (P 3 c) < dem (P 13 (16 * f + P 3 c)) := u1; omega) (by have : u (P 3 c + 1) < dem (P 13 (16 * f + (P 3 c + 1))) := u3; omega)
      obtain ⟨M3, E3, L3, K3⟩ := TG M2 hs2 (P 1 c) (pd (P 5 (P 1 c)) (u (P 3 c)) (u (P 3 c + 1))) _ K2 z1 q2 (g + 1) (by omega)
      have ec : RX5_weigh (g + 2) 4 (nI c) (nI d) (nI lv) M9 = fX5_weighCase (fun a0 a1 a2 M => RX5_weigh (g + 1) 0 a0 a1 a2 M) (fun a0 a1 a2 M => RX5_weigh (g + 1) 1 a0 a1 a2 M) (nI c) (nI d) (nI lv) M9 := rx4
      refine ⟨M3, ?_, wL_tr L9 (wL_tr L2 L3 (Nat.le_refl _)) (Nat.le_refl _), wK_cg K3 ?_⟩
      · simp (disch := omega) only [e8, z0, k_iT, k_iF, Bool.false_eq_true, eq_self, Nat.add_zero, k_lt', k_bs, k_T, k_F, k_inb, k_ck, k_nz, ↓kN, kL, k_lt, k_le, k_eq, kn_le, kn_lt, kn_eq, kn_le', kn_lt', kn_eq', nI_clamp, nI_add, k_sub, k_mul, k_div, rd_hi, rd_mi, rd_hl, rd_ml, rd_hr, rd_mr, rd_si2, rd_sl1, rd_sl2, rd_sr1, rd_sr2]
        rw [ec]
        unfold fX5_weighCase
        rw [w_get hs9]
        simp (disch := omega) only [e10, E2, k_iT, k_iF, Bool.false_eq_true, eq_self, Nat.add_zero, k_lt', k_bs, k_T, k_F, k_inb, k_ck, k_nz, ↓kN, kL, k_lt, k_le, k_eq, kn_le, kn_lt, kn_eq, kn_le', kn_lt', kn_eq', nI_clamp, nI_add, k_sub, k_mul, k_div, rd_hi, rd_mi, rd_hl, rd_ml, rd_hr, rd_mr, rd_si2, rd_sl1, rd_sl2, rd_sr1, rd_sr2]
        rw [w_get hs2]
        simp (disch := omega) only [e9, k_iT, k_iF, Bool.false_eq_true, eq_self, Nat.add_zero, k_lt', k_bs, k_T, k_F, k_inb, k_ck, k_nz, ↓kN, kL, k_lt, k_le, k_eq, kn_le, kn_lt, kn_eq, kn_le', kn_lt', kn_eq', nI_clamp, nI_add, k_sub, k_mul, k_div, rd_hi, rd_mi, rd_hl, rd_ml, rd_hr, rd_mr, rd_si2, rd_sl1, rd_sl2, rd_sr1, rd_sr2]
        rw [w_get hs2]
        simp (disch := omega) only [en, k_iT, k_iF, Bool.false_eq_true, eq_self, Nat.add_zero, k_lt', k_bs, k_T, k_F, k_inb, k_ck, k_nz, ↓kN, kL, k_lt, k_le, k_eq, kn_le, kn_lt, kn_eq, kn_le', kn_lt', kn_eq', nI_clamp, nI_add, k_sub, k_mul, k_div, rd_hi, rd_mi, rd_hl, rd_ml, rd_hr, rd_mr, rd_si2, rd_sl1, rd_sl2, rd_sr1, rd_sr2]
        rw [w_get hs2]
        simp (disch := omega) only [e11, on1, u2, k_iT, k_iF, Bool.false_eq_true, eq_self, Nat.add_zero, k_lt', k_bs, k_T, k_F, k_inb, k_ck, k_nz, ↓kN, kL, k_lt, k_le, k_eq, kn_le, kn_lt, kn_eq, kn_le', kn_lt', kn_eq', nI_clamp, nI_add, k_sub, k_mul, k_div, rd_hi, rd_mi, rd_hl, rd_ml, rd_hr, rd_mr, rd_si2, rd_sl1, rd_sl2, rd_sr1, rd_sr2]
        rw [w_get hs2]
        simp (disch := omega) only [e11, on2, u4, k_iT, k_iF, Bool.false_eq_true, eq_self, Nat.add_zero, k_lt', k_bs, k_T, k_F, k_inb, k_ck, k_nz, ↓kN, kL, k_lt, k_le, k_eq, kn_le, kn_lt, kn_eq, kn_le', kn_lt', kn_eq', nI_clamp, nI_add, k_sub, k_mul, k_div, rd_hi, rd_mi, rd_hl, rd_ml, rd_hr, rd_mr, rd_si2, rd_sl1, rd_sl2, rd_sr1, rd_sr2]
        rw [w_get hs2]
        simp (disch := omega) only [m1, pp, E3, k_iT, k_iF, Bool.false_eq_true, eq_self, Nat.add_zero, k_lt', k_bs, k_T, k_F, k_inb, k_ck, k_nz, ↓kN, kL, k_lt, k_le, k_eq, kn_le, kn_lt, kn_eq, kn_le', kn_lt', kn_eq', nI_clamp, nI_add, k_sub, k_mul, k_div, rd_hi, rd_mi, rd_hl, rd_ml, rd_hr, rd_mr, rd_si2, rd_sl1, rd_sl2, rd_sr1, rd_sr2]
      · rcases hx with ⟨ex, _⟩ | ⟨x, ex, _, ux⟩
        · rw [ex, if_neg (by omega)]; exact rs_rf
        · rw [ex, ux _ z5, ux _ (show P 3 c < P 10 f by omega)]; exact rs_rf
    · -- if
      rw [pe301 z0]
      have mb := m9.2.2.2.2.2.2.2.2.1 (.inr (.inr (.inr (.inr z0))))
      have e10 := mb.2.1
      obtain ⟨M2, E2, L2, K2⟩ := IH M9 hs9 lv (P 2 c) d z2 h0 (by rw [z5]; exact hd) (by omega) (g + 1) (by omega)
      have hs2 := wS_F hs9 L2.1
      have e11 := ((MN M2 hs2).2.2.2.2.2.2.2.2.2.2.1 z0).1
      obtain ⟨M3, E3, L3, K3⟩ := IH M2 hs2 (lv + 1) (P 3 c) d z3 h0 (by rw [z6]; exact hd) (by omega) (g + 1) (by omega)
      have hs3 := wS_F hs2 L3.1
      have K2' := wK_up K2 L3 hn
      obtain ⟨M4, E4, L4, K4⟩ := w_eit hs3 (by omega) K2' K3
      have hs4 := wS_F hs3 L4.1
      have e9 := ((MN M4 hs4).2.2.2.2.2.2.2.2.1 (.inr (.inr (.inr (.inr z0))))).1
      obtain ⟨M5, E5, L5, K5⟩ := TG M4 hs4 (P 1 c) 1 _ K4 z1 (by rw [z4]; omega) (g + 1) (by omega)
      rw [if_neg (by omega)] at K5
      have ec : RX5_weigh (g + 2) 2 (nI c) (nI d) (nI lv) M9 = fX5_weighIf (fun a0 a1 a2 M => RX5_weigh (g + 1) 0 a0 a1 a2 M) (fun a0 a1 a2 M => RX5_weigh (g + 1) 1 a0 a1 a2 M) (nI c) (nI d) (nI lv) M9 := rx2
      refine ⟨M5, ?_, wL_tr L9 (wL_tr L2 (wL_tr (lv := lv) (wL_tr (lv' := lv + 1) wL_rf L3 (by omega)) (wL_tr L4 L5 (Nat.le_refl _)) (Nat.le_refl _)) (Nat.le_refl _)) (Nat.le_refl _), wK_cg K5 (rs_cm ht (vOK_eo ht (vE _ d z2 h0 (by rw [z5]; exact hd)) (vE _ d z3 h0 (by rw [z6]; exact hd))) (vE _ 1 z1 (by omega) (by rw [z4]; omega)))⟩
      simp (disch := omega) only [e8, z0, k_iT, k_iF, Bool.false_eq_true, eq_self, Nat.add_zero, k_lt', k_bs, k_T, k_F, k_inb, k_ck, k_nz, ↓kN, kL, k_lt, k_le, k_eq, kn_le, kn_lt, kn_eq, kn_le', kn_lt', kn_eq', nI_clamp, nI_add, k_sub, k_mul, k_div, rd_hi, rd_mi, rd_hl, rd_ml, rd_hr, rd_mr, rd_si2, rd_sl1, rd_sl2, rd_sr1, rd_sr2]
      rw [ec]
      unfold fX5_weighIf
      rw [w_get hs9]
      simp (disch := omega) only [e10, E2, k_iT, k_iF, Bool.false_eq_true, eq_self, Nat.add_zero, k_lt', k_bs, k_T, k_F, k_inb, k_ck, k_nz, ↓kN, kL, k_lt, k_le, k_eq, kn_le, kn_lt, kn_eq, kn_le', kn_lt', kn_eq', nI_clamp, nI_add, k_sub, k_mul, k_div, rd_hi, rd_mi, rd_hl, rd_ml, rd_hr, rd_mr, rd_si2, rd_sl1, rd_sl2, rd_sr1, rd_sr2]
      rw [w_get hs2]
      simp (disch := omega) only [e11, E3, E4, k_iT, k_iF, Bool.false_eq_true, eq_self, Nat.add_zero, k_lt', k_bs, k_T, k_F, k_inb, k_ck, k_nz, ↓kN, kL, k_lt, k_le, k_eq, kn_le, kn_lt, kn_eq, kn_le', kn_lt', kn_eq', nI_clamp, nI_add, k_sub, k_mul, k_div, rd_hi, rd_mi, rd_hl, rd_ml, rd_hr, rd_mr, rd_si2, rd_sl1, rd_sl2, rd_sr1, rd_sr2]
      rw [w_get hs4]
      simp (disch := omega) only [e9, E5, k_iT, k_iF, Bool.false_eq_true, eq_self, Nat.add_zero, k_lt', k_bs, k_T, k_F, k_inb, k_ck, k_nz, ↓kN, kL, k_lt, k_le, k_eq, kn_le, kn_lt, kn_eq, kn_le', kn_lt', kn_eq', nI_clamp, nI_add, k_sub, k_mul, k_div, rd_hi, rd_mi, rd_hl, rd_ml, rd_hr, rd_mr, rd_si2, rd_sl1, rd_sl2, rd_sr1, rd_sr2]
end WO
