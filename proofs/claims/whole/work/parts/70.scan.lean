theorem lx_kd_rw {T : Nat → Nat} {n s : Nat} (h : lx_kd T n s = 2 ∨ lx_kd T n s = 3) : t_rw (T s) = true := by
  by_cases hr : t_rw (T s) = true
  · exact hr
  · exfalso
    unfold lx_kd lx_sg at h
    rw [if_neg hr] at h
    by_cases h1 : T s = 61 ∧ s + 1 < n ∧ T (s + 1) = 61
    · rw [if_pos h1] at h; omega
    · rw [if_neg h1] at h
      by_cases h2 : T s = 61 ∨ T s = 40 ∨ T s = 41 ∨ T s = 44 ∨ T s = 59 ∨ T s = 58 ∨ T s = 43 ∨ T s = 45 ∨ T s = 42 ∨ T s = 60
      · rw [if_pos h2] at h; omega
      · rw [if_neg h2] at h; omega
theorem lx_st_le {T : Nat → Nat} {n i : Nat} (h : lx_ps T n i ≤ n) : lx_ps T n i ≤ lx_st T n i ∧ lx_st T n i ≤ n := lx_sk_le h
theorem lx_kd_ne0 {T : Nat → Nat} {n s : Nat} : lx_kd T n s ≠ 0 := by
  unfold lx_kd lx_sg
  have := lx_wr (lx_lt T s (lx_re T n s - s))
  repeat' split
  all_goals omega
/-- the class's tokens -/
def c_toks (M : mv_M) (T : Nat → Nat) (n cnt : Nat) : Prop := M.1 2 2 = nI cnt ∧ cnt ≤ 1001 ∧ (∀ i, i < cnt → lx_st T n i < n ∧ M.1 41 i = nI (lx_st T n i) ∧ M.1 40 i = nI (lx_kd T n (lx_st T n i)) ∧ (t_rw (T (lx_st T n i)) = true → M.2.1 42 i = lx_tx T n (lx_st T n i))) ∧ (cnt ≤ 1000 → lx_st T n cnt = n) ∧ M.1 40 cnt = nI 0 ∧ M.1 41 cnt = nI n
def c_scf (M M' : mv_M) : Prop := (∀ c k, c ≠ 40 → c ≠ 41 → ¬ (c = 2 ∧ k = 2) → M'.1 c k = M.1 c k) ∧ (∀ c k, c ≠ 42 → M'.2.1 c k = M.2.1 c k) ∧ M'.2.2 = M.2.2
theorem c_scf_tr {M M1 M2 : mv_M} (h1 : c_scf M M1) (h2 : c_scf M1 M2) : c_scf M M2 :=
  ⟨fun c k a b d => (h2.1 c k a b d).trans (h1.1 c k a b d), fun c k a => (h2.2.1 c k a).trans (h1.2.1 c k a), h2.2.2.trans h1.2.2⟩
theorem c_scf_tape {M M1 : mv_M} {T : Nat → Nat} {n : Nat} (h1 : c_scf M M1) (h : c_tape M T n) : c_tape M1 T n :=
  ⟨(h1.1 2 1 (by omega) (by omega) (by omega)).trans h.1, h.2.1, fun k hk => ⟨(h1.1 39 k (by omega) (by omega) (by omega)).trans (h.2.2 k hk).1, (h.2.2 k hk).2⟩⟩
theorem c_scanL {T : Nat → Nat} {n : Nat} : ∀ (d i : Nat) (M : mv_M), 1001 - i = d → i ≤ 1001 → c_tape M T n → M.1 2 2 = nI i → lx_ps T n i ≤ n → (∀ j, j < i → lx_st T n j < n ∧ M.1 41 j = nI (lx_st T n j) ∧ M.1 40 j = nI (lx_kd T n (lx_st T n j)) ∧ (t_rw (T (lx_st T n j)) = true → M.2.1 42 j = lx_tx T n (lx_st T n j))) → ∃ M' cnt, fX8_scan_11 (nI (lx_st T n i)) M = some ((), M') ∧ c_toks M' T n cnt ∧ c_scf M M' := by
  intro d
  induction d with
  | zero =>
    intro i M hd hi ht hc hp hj
    obtain rfl : i = 1001 := by omega
    have hs := lx_st_le hp
    obtain ⟨h1, h2, h3⟩ := ht
    refine ⟨mv_si (mv_si M 40 1001 (nI 0)) 41 1001 (nI n), 1001, lp_inr (o := some _) ?_, ⟨?_, by omega, fun j hjj => ?_, fun z => by omega, ?_, ?_⟩, fun c k a b e => ?_, fun c k a => rfl, rfl⟩
    · show gX8_scan_11 _ M = _
      unfold gX8_scan_11 fX8_scan_80
      by_cases hn : lx_st T n 1001 < n
      · simp (disch := omega) only [h1, hc, k_iT, k_iF, Bool.false_eq_true, eq_self, Nat.add_zero, k_lt', k_bs, k_T, k_F, k_inb, k_ck, k_nz, ↓kN, kL, k_lt, k_le, k_eq, kn_le, kn_lt, kn_eq, kn_le', kn_lt', kn_eq', nI_clamp, nI_add, k_sub, k_mul, k_div, rd_hi, rd_mi, rd_hl, rd_ml, rd_hr, rd_mr, rd_si2, rd_sl1, rd_sl2, rd_sr1, rd_sr2]
      · simp (disch := omega) only [h1, hc, k_iT, k_iF, Bool.false_eq_true, eq_self, Nat.add_zero, k_lt', k_bs, k_T, k_F, k_inb, k_ck, k_nz, ↓kN, kL, k_lt, k_le, k_eq, kn_le, kn_lt, kn_eq, kn_le', kn_lt', kn_eq', nI_clamp, nI_add, k_sub, k_mul, k_div, rd_hi, rd_mi, rd_hl, rd_ml, rd_hr, rd_mr, rd_si2, rd_sl1, rd_sl2, rd_sr1, rd_sr2]
    · simp (disch := omega) only [rd_hi, rd_mi, rd_hl, rd_ml, rd_hr, rd_mr, rd_si2, rd_sl1, rd_sl2, rd_sr1, rd_sr2]
      exact hc
    · obtain ⟨a1, a2, a3, a4⟩ := hj j hjj
      refine ⟨a1, ?_, ?_, a4⟩
      · simp (disch := omega) only [rd_hi, rd_mi, rd_hl, rd_ml, rd_hr, rd_mr, rd_si2, rd_sl1, rd_sl2, rd_sr1, rd_sr2]
        exact a2
      · simp (disch := omega) only [rd_hi, rd_mi, rd_hl, rd_ml, rd_hr, rd_mr, rd_si2, rd_sl1, rd_sl2, rd_sr1, rd_sr2]
        exact a3
    · simp (disch := omega) only [rd_hi, rd_mi, rd_hl, rd_ml, rd_hr, rd_mr, rd_si2, rd_sl1, rd_sl2, rd_sr1, rd_sr2]
    · simp (disch := omega) only [rd_hi, rd_mi, rd_hl, rd_ml, rd_hr, rd_mr, rd_si2, rd_sl1, rd_sl2, rd_sr1, rd_sr2]
    · simp (disch := omega) only [rd_hi, rd_mi, rd_hl, rd_ml, rd_hr, rd_mr, rd_si2, rd_sl1, rd_sl2, rd_sr1, rd_sr2]
  | succ d ih =>
    intro i M hd hi ht hc hp hj
    have hs := lx_st_le hp
    have ht0 := ht
    obtain ⟨h1, h2, h3⟩ := ht
    by_cases hn : lx_st T n i < n
    · have he := lx_end_le (T := T) hn
      have hps : lx_ps T n (i + 1) = lx_end T n (lx_st T n i) := rfl
      -- the memory behind the token, and its facts
      have step : ∃ M1, gX8_scan_11 (nI (lx_st T n i)) M = some (.inl (nI (lx_st T n (i + 1))), M1) ∧ c_scf M M1 ∧ M1.1 2 2 = nI (i + 1) ∧ M1.1 41 i = nI (lx_st T n i) ∧ M1.1 40 i = nI (lx_kd T n (lx_st T n i)) ∧ (t_rw (T (lx_st T n i)) = true → M1.2.1 42 i = lx_tx T n (lx_st T n i)) ∧ (∀ j, j < i → M1.1 41 j = M.1 41 j ∧ M1.1 40 j = M.1 40 j ∧ M1.2.1 42 j = M.2.1 42 j) := by
        by_cases hr : t_rw (T (lx_st T n i)) = true
        · have e1 := c_scanRow ht0 hn hr hc (by omega)
          refine ⟨mv_si (mv_si (mv_sl (mv_si M 40 i (nI (lx_kd T n (lx_st T n i)))) 42 i (lx_tx T n (lx_st T n i))) 41 i (nI (lx_st T n i))) 2 2 (nI (i + 1)), ?_, ⟨fun c k a b e => ?_, fun c k a => ?_, rfl⟩, ?_, ?_, ?_, fun _ => ?_, fun j hjj => ⟨?_, ?_, ?_⟩⟩
          · unfold gX8_scan_11 fX8_scan_50
            have hpb : c_tape (mv_si (mv_si (mv_sl (mv_si M 40 i (nI (lx_kd T n (lx_st T n i)))) 42 i (lx_tx T n (lx_st T n i))) 41 i (nI (lx_st T n i))) 2 2 (nI (i + 1))) T n := by
              refine c_scf_tape ⟨fun c k a b e => ?_, fun c k a => ?_, rfl⟩ ht0
              · simp (disch := omega) only [rd_hi, rd_mi, rd_hl, rd_ml, rd_hr, rd_mr, rd_si2, rd_sl1, rd_sl2, rd_sr1, rd_sr2]
              · simp (disch := omega) only [rd_hi, rd_mi, rd_hl, rd_ml, rd_hr, rd_mr, rd_si2, rd_sl1, rd_sl2, rd_sr1, rd_sr2]
            have e2 := c_past hpb _ (lx_end T n (lx_st T n i)) he.2 rfl
            simp (disch := omega) only [h1, hc, k_le, k_lt, k_T, k_F, kL, c_row ht0 hn, hr, k_iT, k_iF, e1, k_bs, k_lt', k_inb, k_ck, nI_clamp, rd_hi, rd_mi, rd_sl1, nI_add, k_eq, e2]
            rfl
          · simp (disch := omega) only [rd_hi, rd_mi, rd_hl, rd_ml, rd_hr, rd_mr, rd_si2, rd_sl1, rd_sl2, rd_sr1, rd_sr2]
          · simp (disch := omega) only [rd_hi, rd_mi, rd_hl, rd_ml, rd_hr, rd_mr, rd_si2, rd_sl1, rd_sl2, rd_sr1, rd_sr2]
          · simp (disch := omega) only [rd_hi, rd_mi, rd_hl, rd_ml, rd_hr, rd_mr, rd_si2, rd_sl1, rd_sl2, rd_sr1, rd_sr2]
          · simp (disch := omega) only [rd_hi, rd_mi, rd_hl, rd_ml, rd_hr, rd_mr, rd_si2, rd_sl1, rd_sl2, rd_sr1, rd_sr2]
          · simp (disch := omega) only [rd_hi, rd_mi, rd_hl, rd_ml, rd_hr, rd_mr, rd_si2, rd_sl1, rd_sl2, rd_sr1, rd_sr2]
          · simp (disch := omega) only [rd_hi, rd_mi, rd_hl, rd_ml, rd_hr, rd_mr, rd_si2, rd_sl1, rd_sl2, rd_sr1, rd_sr2]
          · simp (disch := omega) only [rd_hi, rd_mi, rd_hl, rd_ml, rd_hr, rd_mr, rd_si2, rd_sl1, rd_sl2, rd_sr1, rd_sr2]
          · simp (disch := omega) only [rd_hi, rd_mi, rd_hl, rd_ml, rd_hr, rd_mr, rd_si2, rd_sl1, rd_sl2, rd_sr1, rd_sr2]
          · simp (disch := omega) only [rd_hi, rd_mi, rd_hl, rd_ml, rd_hr, rd_mr, rd_si2, rd_sl1, rd_sl2, rd_sr1, rd_sr2]
        · have e1 := c_scanSign ht0 hn hr hc (by omega)
          refine ⟨mv_si (mv_si (mv_si M 40 i (nI (lx_kd T n (lx_st T n i)))) 41 i (nI (lx_st T n i))) 2 2 (nI (i + 1)), ?_, ⟨fun c k a b e => ?_, fun c k a => rfl, rfl⟩, ?_, ?_, ?_, fun z => absurd z hr, fun j hjj => ⟨?_, ?_, rfl⟩⟩
          · unfold gX8_scan_11 fX8_scan_50
            have hpb : c_tape (mv_si (mv_si (mv_si M 40 i (nI (lx_kd T n (lx_st T n i)))) 41 i (nI (lx_st T n i))) 2 2 (nI (i + 1))) T n := by
              refine c_scf_tape ⟨fun c k a b e => ?_, fun c k a => rfl, rfl⟩ ht0
              simp (disch := omega) only [rd_hi, rd_mi, rd_hl, rd_ml, rd_hr, rd_mr, rd_si2, rd_sl1, rd_sl2, rd_sr1, rd_sr2]
            have e2 := c_past hpb _ (lx_end T n (lx_st T n i)) he.2 rfl
            simp (disch := omega) only [h1, hc, k_le, k_lt, k_T, k_F, kL, c_row ht0 hn, hr, k_iT, k_iF, Bool.false_eq_true, eq_self, e1, k_bs, k_lt', k_inb, k_ck, nI_clamp, rd_hi, rd_mi, rd_sl1, nI_add, k_eq, e2]
            rfl
          · simp (disch := omega) only [rd_hi, rd_mi, rd_hl, rd_ml, rd_hr, rd_mr, rd_si2, rd_sl1, rd_sl2, rd_sr1, rd_sr2]
          · simp (disch := omega) only [rd_hi, rd_mi, rd_hl, rd_ml, rd_hr, rd_mr, rd_si2, rd_sl1, rd_sl2, rd_sr1, rd_sr2]
          · simp (disch := omega) only [rd_hi, rd_mi, rd_hl, rd_ml, rd_hr, rd_mr, rd_si2, rd_sl1, rd_sl2, rd_sr1, rd_sr2]
          · simp (disch := omega) only [rd_hi, rd_mi, rd_hl, rd_ml, rd_hr, rd_mr, rd_si2, rd_sl1, rd_sl2, rd_sr1, rd_sr2]
          · simp (disch := omega) only [rd_hi, rd_mi, rd_hl, rd_ml, rd_hr, rd_mr, rd_si2, rd_sl1, rd_sl2, rd_sr1, rd_sr2]
          · simp (disch := omega) only [rd_hi, rd_mi, rd_hl, rd_ml, rd_hr, rd_mr, rd_si2, rd_sl1, rd_sl2, rd_sr1, rd_sr2]
      obtain ⟨M1, g1, g2, g3, g4, g5, g6, g7⟩ := step
      obtain ⟨M', cnt, r1, r2, r3⟩ := ih (i + 1) M1 (by omega) (by omega) (c_scf_tape g2 ht0) g3 (by rw [hps]; exact he.2) (fun j hjj => by
        by_cases e : j = i
        · subst e
          exact ⟨hn, g4, g5, g6⟩
        · obtain ⟨a1, a2, a3, a4⟩ := hj j (by omega)
          obtain ⟨b1, b2, b3⟩ := g7 j (by omega)
          exact ⟨a1, b1.trans a2, b2.trans a3, fun z => b3.trans (a4 z)⟩)
      exact ⟨M', cnt, (lp_go g1).trans r1, r2, c_scf_tr g2 r3⟩
    · have hE : lx_st T n i = n := by omega
      refine ⟨mv_si (mv_si M 40 i (nI 0)) 41 i (nI n), i, lp_inr (o := some _) ?_, ⟨?_, by omega, fun j hjj => ?_, fun z => hE, ?_, ?_⟩, fun c k a b e => ?_, fun c k a => rfl, rfl⟩
      · show gX8_scan_11 _ M = _
        unfold gX8_scan_11 fX8_scan_80
        simp (disch := omega) only [h1, hc, k_iT, k_iF, Bool.false_eq_true, eq_self, Nat.add_zero, k_lt', k_bs, k_T, k_F, k_inb, k_ck, k_nz, ↓kN, kL, k_lt, k_le, k_eq, kn_le, kn_lt, kn_eq, kn_le', kn_lt', kn_eq', nI_clamp, nI_add, k_sub, k_mul, k_div, rd_hi, rd_mi, rd_hl, rd_ml, rd_hr, rd_mr, rd_si2, rd_sl1, rd_sl2, rd_sr1, rd_sr2]
      · simp (disch := omega) only [rd_hi, rd_mi, rd_hl, rd_ml, rd_hr, rd_mr, rd_si2, rd_sl1, rd_sl2, rd_sr1, rd_sr2]
        exact hc
      · obtain ⟨a1, a2, a3, a4⟩ := hj j hjj
        refine ⟨a1, ?_, ?_, a4⟩
        · simp (disch := omega) only [rd_hi, rd_mi, rd_hl, rd_ml, rd_hr, rd_mr, rd_si2, rd_sl1, rd_sl2, rd_sr1, rd_sr2]
          exact a2
        · simp (disch := omega) only [rd_hi, rd_mi, rd_hl, rd_ml, rd_hr, rd_mr, rd_si2, rd_sl1, rd_sl2, rd_sr1, rd_sr2]
          exact a3
      · simp (disch := omega) only [rd_hi, rd_mi, rd_hl, rd_ml, rd_hr, rd_mr, rd_si2, rd_sl1, rd_sl2, rd_sr1, rd_sr2]
      · simp (disch := omega) only [rd_hi, rd_mi, rd_hl, rd_ml, rd_hr, rd_mr, rd_si2, rd_sl1, rd_sl2, rd_sr1, rd_sr2]
      · simp (disch := omega) only [rd_hi, rd_mi, rd_hl, rd_ml, rd_hr, rd_mr, rd_si2, rd_sl1, rd_sl2, rd_sr1, rd_sr2]
theorem c_scan {M : mv_M} {T : Nat → Nat} {n : Nat} (ht : c_tape M T n) : ∃ M' cnt, fX8_scan M = some ((), M') ∧ c_toks M' T n cnt ∧ c_scf M M' := by
  have ht1 : c_tape (mv_si M 2 2 (nI 0)) T n := c_scf_tape ⟨fun c k a b e => by simp (disch := omega) only [rd_hi, rd_mi, rd_hl, rd_ml, rd_hr, rd_mr, rd_si2, rd_sl1, rd_sl2, rd_sr1, rd_sr2], fun c k a => rfl, rfl⟩ ht
  obtain ⟨M', cnt, r1, r2, r3⟩ := c_scanL 1001 0 (mv_si M 2 2 (nI 0)) rfl (by omega) ht1 (by simp (disch := omega) only [rd_hi, rd_mi, rd_hl, rd_ml, rd_hr, rd_mr, rd_si2, rd_sl1, rd_sl2, rd_sr1, rd_sr2]) (Nat.zero_le _) (fun j hj => absurd hj (Nat.not_lt_zero j))
  refine ⟨M', cnt, ?_, r2, c_scf_tr (M1 := mv_si M 2 2 (nI 0)) ⟨fun c k a b e => ?_, fun c k a => rfl, rfl⟩ r3⟩
  · unfold fX8_scan
    have e2 := c_past ht1 _ 0 (Nat.zero_le _) rfl
    simp (disch := omega) only [k_lt', kL, e2, k_bs]
    exact r1
  · simp (disch := omega) only [rd_hi, rd_mi, rd_hl, rd_ml, rd_hr, rd_mr, rd_si2, rd_sl1, rd_sl2, rd_sr1, rd_sr2]
