theorem lp_inr {σ τ : Type} {g : σ → mv_M → Option ((σ ⊕ τ) × mv_M)} {s : σ} {M : mv_M} {o : Option (τ × mv_M)} (h : g s M = mv_inr o) : mv_loop g s M = o := by
  rw [mv_loop_eq, h]
  match o with
  | none => rfl
  | some (t, M') => rfl
theorem si_si {M : mv_M} {c k : Nat} {a b : Int32} : mv_si (mv_si M c k a) c k b = mv_si M c k b := by
  unfold mv_si mv_up
  refine Prod.ext (funext fun c' => funext fun k' => ?_) rfl
  dsimp only
  by_cases h : c' = c ∧ k' = k
  · rw [if_pos h, if_pos h]
  · rw [if_neg h, if_neg h, if_neg h]
theorem si_self {M : mv_M} {c k : Nat} {v : Int32} (h : M.1 c k = v) : mv_si M c k v = M := by
  unfold mv_si mv_up
  refine Prod.ext (funext fun c' => funext fun k' => ?_) rfl
  dsimp only
  by_cases h2 : c' = c ∧ k' = k
  · rw [if_pos h2, h2.1, h2.2, h]
  · rw [if_neg h2]
theorem r_tapeI {M : mv_M} {T : Nat → Nat} {n : Nat} (h : r_tape M T n) {j : Nat} {v : Int32} (hj : j ≠ 2) : r_tape (mv_si M 62 j v) T n := by
  obtain ⟨h1, h2, h3⟩ := h
  refine ⟨?_, h2, fun k hk => ⟨?_, (h3 k hk).2⟩⟩
  · simp (disch := omega) only [rd_hi, rd_mi, rd_hl, rd_ml, rd_hr, rd_mr, rd_si2, rd_sl1, rd_sl2, rd_sr1, rd_sr2]
    exact h1
  · simp (disch := omega) only [rd_hi, rd_mi, rd_hl, rd_ml, rd_hr, rd_mr, rd_si2, rd_sl1, rd_sl2, rd_sr1, rd_sr2]
    exact (h3 k hk).1
/-- what a row leaves -/
def r_fin (M M' : mv_M) (T : Nat → Nat) (n s : Nat) : Prop :=
  M'.1 62 3 = nI (lx_end T n s) ∧ M'.1 62 4 = nI (lx_tk (lx_kd T n s)) ∧ (lx_kd T n s = 2 → M'.2.1 62 7 = lx_tx T n s) ∧ (lx_kd T n s = 3 → M'.1 62 8 = (lx_tx T n s).toInt32) ∧ (lx_kd T n s = 1 → M'.1 62 9 = nI 1 ∧ M'.1 62 10 = nI s) ∧ (lx_kd T n s ≠ 1 → M'.1 62 9 = nI 0 ∧ M'.1 62 10 = M.1 62 10) ∧ (∀ c k, ¬ (c = 62 ∧ (k = 3 ∨ k = 4 ∨ k = 8 ∨ k = 9 ∨ k = 10)) → M'.1 c k = M.1 c k) ∧ (∀ c k, ¬ (c = 62 ∧ k = 7) → M'.2.1 c k = M.2.1 c k) ∧ M'.2.2 = M.2.2
theorem r_row124 {M : mv_M} {T : Nat → Nat} {n s : Nat} (h : r_tape M T n) (hs : s < n) (hr : t_rw (T s) = true) (h5 : M.1 62 5 = nI s) (h9 : M.1 62 9 = nI 0) (h3' : M.1 62 3 = nI (lx_re T n s)) : ∃ M', fX11_row_124 (if lx_ad T s (lx_re T n s - s) = true then nI 1 else nI 0) (lx_lt T s (lx_re T n s - s)) (lx_rv T s (lx_re T n s - s)) M = some ((), M') ∧ r_fin M M' T n s := by
  obtain ⟨h1, h2, h3⟩ := h
  have hle := lx_re_le (T := T) (n := n) (p := s) (by omega)
  have he : lx_end T n s = lx_re T n s := by unfold lx_end; rw [if_pos hr]
  have hb := h3 s hs
  unfold r_fin
  rw [he]
  unfold fX11_row_124 fX11_row_195 fX11_row_221 fX11_row_167 fX11_row_168 fX11_row_229 fX11_stop
  by_cases hd : t_dg (T s) = true
  · by_cases ha : lx_ad T s (lx_re T n s - s) = true ∧ lx_re T n s - s ≤ 9
    · have hk : lx_kd T n s = 3 := by unfold lx_kd; rw [if_pos hr, if_pos hd, if_pos ha]
      have ha2 := ha.2
      refine ⟨mv_si (mv_si M 62 4 (nI 11)) 62 8 (lx_rv T s (lx_re T n s - s)).toInt32, ?_, ?_⟩
      · simp (disch := omega) only [h3', h5, hb.1, r_dig hb.2, hd, ha.1, k_iT, k_iF, Bool.false_eq_true, eq_self, Nat.add_zero, k_lt', k_bs, k_T, k_F, k_inb, k_ck, k_nz, ↓kN, kL, k_lt, k_le, k_eq, kn_le, kn_lt, kn_eq, kn_le', kn_lt', kn_eq', nI_clamp, nI_add, k_sub, k_mul, k_div, rd_hi, rd_mi, rd_hl, rd_ml, rd_hr, rd_mr, rd_si2, rd_sl1, rd_sl2, rd_sr1, rd_sr2]
      · rw [hk]
        refine ⟨?_, ?_, fun z => absurd z (by decide), fun _ => ?_, fun z => absurd z (by decide), fun _ => ⟨?_, ?_⟩, fun c k hck => ?_, fun c k hck => rfl, rfl⟩
        · simp (disch := omega) only [rd_hi, rd_mi, rd_hl, rd_ml, rd_hr, rd_mr, rd_si2, rd_sl1, rd_sl2, rd_sr1, rd_sr2]
          exact h3'
        · simp (disch := omega) only [rd_hi, rd_mi, rd_hl, rd_ml, rd_hr, rd_mr, rd_si2, rd_sl1, rd_sl2, rd_sr1, rd_sr2]
          rfl
        · simp (disch := omega) only [rd_hi, rd_mi, rd_hl, rd_ml, rd_hr, rd_mr, rd_si2, rd_sl1, rd_sl2, rd_sr1, rd_sr2]
          unfold lx_tx
          rw [if_pos hd]
          have e1 := lx_cv_dv _ ha.2 ha.1
          have e2 := lx_rv_dv _ ha.2 ha.1
          rw [Int64.toInt_inj.mp (e1.trans e2.symm)]
        · simp (disch := omega) only [rd_hi, rd_mi, rd_hl, rd_ml, rd_hr, rd_mr, rd_si2, rd_sl1, rd_sl2, rd_sr1, rd_sr2]
          exact h9
        · simp (disch := omega) only [rd_hi, rd_mi, rd_hl, rd_ml, rd_hr, rd_mr, rd_si2, rd_sl1, rd_sl2, rd_sr1, rd_sr2]
        · simp (disch := omega) only [rd_hi, rd_mi, rd_hl, rd_ml, rd_hr, rd_mr, rd_si2, rd_sl1, rd_sl2, rd_sr1, rd_sr2]
    · have hk : lx_kd T n s = 1 := by unfold lx_kd; rw [if_pos hr, if_pos hd, if_neg ha]
      refine ⟨mv_si (mv_si (mv_si (mv_si M 62 4 (nI 0)) 62 8 (lx_rv T s (lx_re T n s - s)).toInt32) 62 9 (nI 1)) 62 10 (nI s), ?_, ?_⟩
      · by_cases ha1 : lx_ad T s (lx_re T n s - s) = true
        · have : ¬ lx_re T n s - s ≤ 9 := fun z => ha ⟨ha1, z⟩
          simp (disch := omega) only [h3', h5, hb.1, r_dig hb.2, hd, ha1, h9, k_iT, k_iF, Bool.false_eq_true, eq_self, Nat.add_zero, k_lt', k_bs, k_T, k_F, k_inb, k_ck, k_nz, ↓kN, kL, k_lt, k_le, k_eq, kn_le, kn_lt, kn_eq, kn_le', kn_lt', kn_eq', nI_clamp, nI_add, k_sub, k_mul, k_div, rd_hi, rd_mi, rd_hl, rd_ml, rd_hr, rd_mr, rd_si2, rd_sl1, rd_sl2, rd_sr1, rd_sr2]
        · simp (disch := omega) only [h3', h5, hb.1, r_dig hb.2, hd, ha1, h9, k_iT, k_iF, Bool.false_eq_true, eq_self, Nat.add_zero, k_lt', k_bs, k_T, k_F, k_inb, k_ck, k_nz, ↓kN, kL, k_lt, k_le, k_eq, kn_le, kn_lt, kn_eq, kn_le', kn_lt', kn_eq', nI_clamp, nI_add, k_sub, k_mul, k_div, rd_hi, rd_mi, rd_hl, rd_ml, rd_hr, rd_mr, rd_si2, rd_sl1, rd_sl2, rd_sr1, rd_sr2]
      · rw [hk]
        refine ⟨?_, ?_, fun z => absurd z (by decide), fun z => absurd z (by decide), fun _ => ⟨?_, ?_⟩, fun z => absurd rfl z, fun c k hck => ?_, fun c k hck => rfl, rfl⟩
        · simp (disch := omega) only [rd_hi, rd_mi, rd_hl, rd_ml, rd_hr, rd_mr, rd_si2, rd_sl1, rd_sl2, rd_sr1, rd_sr2]
          exact h3'
        · simp (disch := omega) only [rd_hi, rd_mi, rd_hl, rd_ml, rd_hr, rd_mr, rd_si2, rd_sl1, rd_sl2, rd_sr1, rd_sr2]
          rfl
        · simp (disch := omega) only [rd_hi, rd_mi, rd_hl, rd_ml, rd_hr, rd_mr, rd_si2, rd_sl1, rd_sl2, rd_sr1, rd_sr2]
        · simp (disch := omega) only [rd_hi, rd_mi, rd_hl, rd_ml, rd_hr, rd_mr, rd_si2, rd_sl1, rd_sl2, rd_sr1, rd_sr2]
        · simp (disch := omega) only [rd_hi, rd_mi, rd_hl, rd_ml, rd_hr, rd_mr, rd_si2, rd_sl1, rd_sl2, rd_sr1, rd_sr2]
  · by_cases h8 : lx_re T n s - s ≤ 8
    · have hk : lx_kd T n s = lx_wd (lx_lt T s (lx_re T n s - s)) := by unfold lx_kd; rw [if_pos hr, if_neg hd, if_pos h8]
      have hw := lx_wr (lx_lt T s (lx_re T n s - s))
      have hin : ∀ j, j < lx_re T n s - s → T (s + j) < 128 := fun j hj => by
        have := t_rwP.mp (lx_re_in (T := T) (n := n) (p := s) (j := s + j) (by omega) (by omega))
        omega
      have h0 : 0 < T s := by have := t_rwP.mp hr; omega
      refine ⟨mv_sl (mv_si M 62 4 (nI (lx_tk (lx_kd T n s)))) 62 7 (lx_lt T s (lx_re T n s - s)), ?_, ?_⟩
      · rw [hk]
        by_cases h4 : lx_re T n s - s ≤ 4
        · rcases hw.2 with w | w
          · have w2 : lx_rw (lx_lt T s (lx_re T n s - s)) = 0 := by omega
            simp (disch := omega) only [h3', h5, hb.1, r_dig hb.2, hd, h9, r_word, w, w2, show lx_tk 2 = 10 from rfl, k_iT, k_iF, Bool.false_eq_true, eq_self, Nat.add_zero, k_lt', k_bs, k_T, k_F, k_inb, k_ck, k_nz, ↓kN, kL, k_lt, k_le, k_eq, kn_le, kn_lt, kn_eq, kn_le', kn_lt', kn_eq', nI_clamp, nI_add, k_sub, k_mul, k_div, rd_hi, rd_mi, rd_hl, rd_ml, rd_hr, rd_mr, rd_si2, rd_sl1, rd_sl2, rd_sr1, rd_sr2]
          · have w3 : lx_tk (lx_wd (lx_lt T s (lx_re T n s - s))) = lx_wd (lx_lt T s (lx_re T n s - s)) - 299 := by
              unfold lx_tk
              simp (disch := omega) only [k_iT, k_iF, Bool.false_eq_true, eq_self, Nat.add_zero, k_lt', k_bs, k_T, k_F, k_inb, k_ck, k_nz, ↓kN, kL, k_lt, k_le, k_eq, kn_le, kn_lt, kn_eq, kn_le', kn_lt', kn_eq', nI_clamp, nI_add, k_sub, k_mul, k_div, rd_hi, rd_mi, rd_hl, rd_ml, rd_hr, rd_mr, rd_si2, rd_sl1, rd_sl2, rd_sr1, rd_sr2]
            simp (disch := omega) only [h3', h5, hb.1, r_dig hb.2, hd, h9, r_word, hw.1, w3, k_iT, k_iF, Bool.false_eq_true, eq_self, Nat.add_zero, k_lt', k_bs, k_T, k_F, k_inb, k_ck, k_nz, ↓kN, kL, k_lt, k_le, k_eq, kn_le, kn_lt, kn_eq, kn_le', kn_lt', kn_eq', nI_clamp, nI_add, k_sub, k_mul, k_div, rd_hi, rd_mi, rd_hl, rd_ml, rd_hr, rd_mr, rd_si2, rd_sl1, rd_sl2, rd_sr1, rd_sr2]
        · have w := lx_long (T := T) (s := s) (k := lx_re T n s - s) (by omega) h8 hin h0
          simp (disch := omega) only [h3', h5, hb.1, r_dig hb.2, hd, h9, w.1, show lx_tk 2 = 10 from rfl, k_iT, k_iF, Bool.false_eq_true, eq_self, Nat.add_zero, k_lt', k_bs, k_T, k_F, k_inb, k_ck, k_nz, ↓kN, kL, k_lt, k_le, k_eq, kn_le, kn_lt, kn_eq, kn_le', kn_lt', kn_eq', nI_clamp, nI_add, k_sub, k_mul, k_div, rd_hi, rd_mi, rd_hl, rd_ml, rd_hr, rd_mr, rd_si2, rd_sl1, rd_sl2, rd_sr1, rd_sr2]
      · refine ⟨?_, ?_, fun _ => ?_, fun z => ?_, fun z => ?_, fun _ => ⟨?_, ?_⟩, fun c k hck => ?_, fun c k hck => ?_, rfl⟩
        · simp (disch := omega) only [rd_hi, rd_mi, rd_hl, rd_ml, rd_hr, rd_mr, rd_si2, rd_sl1, rd_sl2, rd_sr1, rd_sr2]
          exact h3'
        · simp (disch := omega) only [rd_hi, rd_mi, rd_hl, rd_ml, rd_hr, rd_mr, rd_si2, rd_sl1, rd_sl2, rd_sr1, rd_sr2]
        · simp (disch := omega) only [rd_hi, rd_mi, rd_hl, rd_ml, rd_hr, rd_mr, rd_si2, rd_sl1, rd_sl2, rd_sr1, rd_sr2]
          unfold lx_tx
          rw [if_neg hd]
        · omega
        · omega
        · simp (disch := omega) only [rd_hi, rd_mi, rd_hl, rd_ml, rd_hr, rd_mr, rd_si2, rd_sl1, rd_sl2, rd_sr1, rd_sr2]
          exact h9
        · simp (disch := omega) only [rd_hi, rd_mi, rd_hl, rd_ml, rd_hr, rd_mr, rd_si2, rd_sl1, rd_sl2, rd_sr1, rd_sr2]
        · simp (disch := omega) only [rd_hi, rd_mi, rd_hl, rd_ml, rd_hr, rd_mr, rd_si2, rd_sl1, rd_sl2, rd_sr1, rd_sr2]
        · simp (disch := omega) only [rd_hi, rd_mi, rd_hl, rd_ml, rd_hr, rd_mr, rd_si2, rd_sl1, rd_sl2, rd_sr1, rd_sr2]
    · have hk : lx_kd T n s = 1 := by unfold lx_kd; rw [if_pos hr, if_neg hd, if_neg h8]
      refine ⟨mv_si (mv_si (mv_sl (mv_si M 62 4 (nI 0)) 62 7 (lx_lt T s (lx_re T n s - s))) 62 9 (nI 1)) 62 10 (nI s), ?_, ?_⟩
      · simp (disch := omega) only [h3', h5, hb.1, r_dig hb.2, hd, h9, k_iT, k_iF, Bool.false_eq_true, eq_self, Nat.add_zero, k_lt', k_bs, k_T, k_F, k_inb, k_ck, k_nz, ↓kN, kL, k_lt, k_le, k_eq, kn_le, kn_lt, kn_eq, kn_le', kn_lt', kn_eq', nI_clamp, nI_add, k_sub, k_mul, k_div, rd_hi, rd_mi, rd_hl, rd_ml, rd_hr, rd_mr, rd_si2, rd_sl1, rd_sl2, rd_sr1, rd_sr2]
      · rw [hk]
        refine ⟨?_, ?_, fun z => absurd z (by decide), fun z => absurd z (by decide), fun _ => ⟨?_, ?_⟩, fun z => absurd rfl z, fun c k hck => ?_, fun c k hck => ?_, rfl⟩
        · simp (disch := omega) only [rd_hi, rd_mi, rd_hl, rd_ml, rd_hr, rd_mr, rd_si2, rd_sl1, rd_sl2, rd_sr1, rd_sr2]
          exact h3'
        · simp (disch := omega) only [rd_hi, rd_mi, rd_hl, rd_ml, rd_hr, rd_mr, rd_si2, rd_sl1, rd_sl2, rd_sr1, rd_sr2]
          rfl
        · simp (disch := omega) only [rd_hi, rd_mi, rd_hl, rd_ml, rd_hr, rd_mr, rd_si2, rd_sl1, rd_sl2, rd_sr1, rd_sr2]
        · simp (disch := omega) only [rd_hi, rd_mi, rd_hl, rd_ml, rd_hr, rd_mr, rd_si2, rd_sl1, rd_sl2, rd_sr1, rd_sr2]
        · simp (disch := omega) only [rd_hi, rd_mi, rd_hl, rd_ml, rd_hr, rd_mr, rd_si2, rd_sl1, rd_sl2, rd_sr1, rd_sr2]
        · simp (disch := omega) only [rd_hi, rd_mi, rd_hl, rd_ml, rd_hr, rd_mr, rd_si2, rd_sl1, rd_sl2, rd_sr1, rd_sr2]
