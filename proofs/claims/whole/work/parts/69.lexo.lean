/-- the kind of the token at s (0: the text's end) -/
noncomputable def lx_k (T : Nat → Nat) (n s : Nat) : Nat := if s < n then lx_kd T n s else 0
/-- the reference stands at the token that begins at s -/
def r_at (M : mv_M) (T : Nat → Nat) (n s : Nat) : Prop := M.1 62 5 = nI s ∧ M.1 62 4 = nI (lx_tk (lx_k T n s)) ∧ M.1 62 3 = nI (if s < n then lx_end T n s else n) ∧ (lx_k T n s = 2 → M.2.1 62 7 = lx_tx T n s) ∧ (lx_k T n s = 3 → M.1 62 8 = (lx_tx T n s).toInt32)
/-- nothing but the token's places has changed -/
def r_tkf (M M' : mv_M) : Prop := (∀ c k, ¬ (c = 62 ∧ 3 ≤ k ∧ k ≤ 10) → M'.1 c k = M.1 c k) ∧ (∀ c k, ¬ (c = 62 ∧ k = 7) → M'.2.1 c k = M.2.1 c k) ∧ M'.2.2 = M.2.2
theorem r_next52 {M : mv_M} {T : Nat → Nat} {n s i : Nat} (h : r_tape M T n) (hs : s ≤ n) (h3' : M.1 62 3 = nI s) (h6 : M.1 62 6 = nI i) (h9 : M.1 62 9 = nI 0) : ∃ M', fX11_next_52 M = some ((), M') ∧ r_at M' T n s ∧ M'.1 62 6 = nI (if s < n then i + 1 else i) ∧ (lx_k T n s = 1 → M'.1 62 9 = nI 1 ∧ M'.1 62 10 = nI s) ∧ (lx_k T n s ≠ 1 → M'.1 62 9 = nI 0 ∧ M'.1 62 10 = M.1 62 10) ∧ r_tkf M M' := by
  obtain ⟨h1, h2, h3⟩ := h
  unfold r_at r_tkf lx_k
  by_cases hn : s < n
  · simp only [if_pos hn]
    have hb := h3 s hn
    by_cases hr : t_rw (T s) = true
    · obtain ⟨M', e1, f1, f2, f3, f4, f5, f6, f7, f8, f9⟩ := r_rowE (M := mv_si (mv_si M 62 5 (nI s)) 62 6 (nI (i + 1))) (r_tapeI (r_tapeI ⟨h1, h2, h3⟩ (by decide)) (by decide)) hn hr (by simp (disch := omega) only [rd_hi, rd_mi, rd_hl, rd_ml, rd_hr, rd_mr, rd_si2, rd_sl1, rd_sl2, rd_sr1, rd_sr2]) (by simp (disch := omega) only [rd_hi, rd_mi, rd_hl, rd_ml, rd_hr, rd_mr, rd_si2, rd_sl1, rd_sl2, rd_sr1, rd_sr2]; exact h9) (by simp (disch := omega) only [rd_hi, rd_mi, rd_hl, rd_ml, rd_hr, rd_mr, rd_si2, rd_sl1, rd_sl2, rd_sr1, rd_sr2]; exact h3')
      refine ⟨M', ?_, ⟨?_, f2, f1, f3, f4⟩, ?_, f5, fun z => ⟨(f6 z).1, ?_⟩, fun c k hck => ?_, fun c k hck => ?_, ?_⟩
      · unfold fX11_next_52
        simp (disch := omega) only [h3', h1, h6, hb.1, r_row hb.2, hr, e1, k_iT, k_iF, Bool.false_eq_true, eq_self, Nat.add_zero, k_lt', k_bs, k_T, k_F, k_inb, k_ck, k_nz, ↓kN, kL, k_lt, k_le, k_eq, kn_le, kn_lt, kn_eq, kn_le', kn_lt', kn_eq', nI_clamp, nI_add, k_sub, k_mul, k_div, rd_hi, rd_mi, rd_hl, rd_ml, rd_hr, rd_mr, rd_si2, rd_sl1, rd_sl2, rd_sr1, rd_sr2]
      · rw [f7 _ _ (by omega)]
        simp (disch := omega) only [rd_hi, rd_mi, rd_hl, rd_ml, rd_hr, rd_mr, rd_si2, rd_sl1, rd_sl2, rd_sr1, rd_sr2]
      · rw [f7 _ _ (by omega)]
        simp (disch := omega) only [rd_hi, rd_mi, rd_hl, rd_ml, rd_hr, rd_mr, rd_si2, rd_sl1, rd_sl2, rd_sr1, rd_sr2]
      · rw [(f6 z).2]
        simp (disch := omega) only [rd_hi, rd_mi, rd_hl, rd_ml, rd_hr, rd_mr, rd_si2, rd_sl1, rd_sl2, rd_sr1, rd_sr2]
      · rw [f7 _ _ (by omega)]
        simp (disch := omega) only [rd_hi, rd_mi, rd_hl, rd_ml, rd_hr, rd_mr, rd_si2, rd_sl1, rd_sl2, rd_sr1, rd_sr2]
      · rw [f8 _ _ hck]
        rfl
      · rw [f9]
        rfl
    · by_cases he : T s = 61 ∧ s + 1 < n ∧ T (s + 1) = 61
      · have hk : lx_kd T n s = 4 := by unfold lx_kd; rw [if_neg hr, if_pos he]
        have hend : lx_end T n s = s + 2 := by unfold lx_end; rw [if_neg hr, if_pos he]
        have hb2 := h3 (s + 1) he.2.1
        have hl := he.2.1
        rw [hk, hend]
        refine ⟨mv_si (mv_si (mv_si (mv_si M 62 5 (nI s)) 62 6 (nI (i + 1))) 62 3 (nI (s + 1 + 1))) 62 4 (nI 12), ?_, ⟨?_, ?_, ?_, fun z => absurd z (by decide), fun z => absurd z (by decide)⟩, ?_, fun z => absurd z (by decide), fun _ => ⟨?_, ?_⟩, fun c k hck => ?_, fun c k hck => rfl, rfl⟩
        · unfold fX11_next_52
          rw [he.1] at hb hr
          simp (disch := omega) only [h3', h1, h6, hb.1, r_row hb.2, hr, hb2.1, he.2.2, si_si, k_iT, k_iF, Bool.false_eq_true, eq_self, Nat.add_zero, k_lt', k_bs, k_T, k_F, k_inb, k_ck, k_nz, ↓kN, kL, k_lt, k_le, k_eq, kn_le, kn_lt, kn_eq, kn_le', kn_lt', kn_eq', nI_clamp, nI_add, k_sub, k_mul, k_div, rd_hi, rd_mi, rd_hl, rd_ml, rd_hr, rd_mr, rd_si2, rd_sl1, rd_sl2, rd_sr1, rd_sr2]
        · simp (disch := omega) only [rd_hi, rd_mi, rd_hl, rd_ml, rd_hr, rd_mr, rd_si2, rd_sl1, rd_sl2, rd_sr1, rd_sr2]
        · simp (disch := omega) only [rd_hi, rd_mi, rd_hl, rd_ml, rd_hr, rd_mr, rd_si2, rd_sl1, rd_sl2, rd_sr1, rd_sr2]
          rfl
        · simp (disch := omega) only [rd_hi, rd_mi, rd_hl, rd_ml, rd_hr, rd_mr, rd_si2, rd_sl1, rd_sl2, rd_sr1, rd_sr2]
        · simp (disch := omega) only [rd_hi, rd_mi, rd_hl, rd_ml, rd_hr, rd_mr, rd_si2, rd_sl1, rd_sl2, rd_sr1, rd_sr2]
        · simp (disch := omega) only [rd_hi, rd_mi, rd_hl, rd_ml, rd_hr, rd_mr, rd_si2, rd_sl1, rd_sl2, rd_sr1, rd_sr2]
          exact h9
        · simp (disch := omega) only [rd_hi, rd_mi, rd_hl, rd_ml, rd_hr, rd_mr, rd_si2, rd_sl1, rd_sl2, rd_sr1, rd_sr2]
        · simp (disch := omega) only [rd_hi, rd_mi, rd_hl, rd_ml, rd_hr, rd_mr, rd_si2, rd_sl1, rd_sl2, rd_sr1, rd_sr2]
      · have hk : lx_kd T n s = lx_sg (T s) := by unfold lx_kd; rw [if_neg hr, if_neg he]
        have hend : lx_end T n s = s + 1 := by unfold lx_end; rw [if_neg hr, if_neg he]
        rw [hk, hend]
        have hstep : fX11_next_52 M = fX11_next_168 (nI (T s)) (mv_si (mv_si (mv_si M 62 5 (nI s)) 62 6 (nI (i + 1))) 62 3 (nI (s + 1))) := by
          unfold fX11_next_52
          by_cases e1 : T s = 61
          · by_cases e2 : s + 1 < n
            · have hb3 := h3 (s + 1) e2
              have hb4 := hb3.2
              have e3 : ¬ T (s + 1) = 61 := fun z => he ⟨e1, e2, z⟩
              rw [e1] at hb hr ⊢
              simp (disch := omega) only [h3', h1, h6, hb.1, r_row hb.2, hr, hb3.1, k_iT, k_iF, Bool.false_eq_true, eq_self, Nat.add_zero, k_lt', k_bs, k_T, k_F, k_inb, k_ck, k_nz, ↓kN, kL, k_lt, k_le, k_eq, kn_le, kn_lt, kn_eq, kn_le', kn_lt', kn_eq', nI_clamp, nI_add, k_sub, k_mul, k_div, rd_hi, rd_mi, rd_hl, rd_ml, rd_hr, rd_mr, rd_si2, rd_sl1, rd_sl2, rd_sr1, rd_sr2]
            · rw [e1] at hb hr ⊢
              simp (disch := omega) only [h3', h1, h6, hb.1, r_row hb.2, hr, k_iT, k_iF, Bool.false_eq_true, eq_self, Nat.add_zero, k_lt', k_bs, k_T, k_F, k_inb, k_ck, k_nz, ↓kN, kL, k_lt, k_le, k_eq, kn_le, kn_lt, kn_eq, kn_le', kn_lt', kn_eq', nI_clamp, nI_add, k_sub, k_mul, k_div, rd_hi, rd_mi, rd_hl, rd_ml, rd_hr, rd_mr, rd_si2, rd_sl1, rd_sl2, rd_sr1, rd_sr2]
          · have := hb.2
            simp (disch := omega) only [h3', h1, h6, hb.1, r_row hb.2, hr, k_iT, k_iF, Bool.false_eq_true, eq_self, Nat.add_zero, k_lt', k_bs, k_T, k_F, k_inb, k_ck, k_nz, ↓kN, kL, k_lt, k_le, k_eq, kn_le, kn_lt, kn_eq, kn_le', kn_lt', kn_eq', nI_clamp, nI_add, k_sub, k_mul, k_div, rd_hi, rd_mi, rd_hl, rd_ml, rd_hr, rd_mr, rd_si2, rd_sl1, rd_sl2, rd_sr1, rd_sr2]
        rw [hstep]
        have hb2 := hb.2
        by_cases e : T s = 61 ∨ T s = 40 ∨ T s = 41 ∨ T s = 44 ∨ T s = 59 ∨ T s = 58 ∨ T s = 43 ∨ T s = 45 ∨ T s = 42 ∨ T s = 60
        · have hsg : lx_sg (T s) = T s := by unfold lx_sg; rw [if_pos e]
          rw [hsg]
          have hst : fX11_next_168 (nI (T s)) (mv_si (mv_si (mv_si M 62 5 (nI s)) 62 6 (nI (i + 1))) 62 3 (nI (s + 1))) = some ((), mv_si (mv_si (mv_si (mv_si M 62 5 (nI s)) 62 6 (nI (i + 1))) 62 3 (nI (s + 1))) 62 4 (nI (lx_tk (T s)))) := by
            unfold fX11_next_168 fX11_next_280 lx_tk
            rcases e with e | e | e | e | e | e | e | e | e | e <;> simp (disch := omega) only [e, k_iT, k_iF, Bool.false_eq_true, eq_self, Nat.add_zero, k_lt', k_bs, k_T, k_F, k_inb, k_ck, k_nz, ↓kN, kL, k_lt, k_le, k_eq, kn_le, kn_lt, kn_eq, kn_le', kn_lt', kn_eq', nI_clamp, nI_add, k_sub, k_mul, k_div, rd_hi, rd_mi, rd_hl, rd_ml, rd_hr, rd_mr, rd_si2, rd_sl1, rd_sl2, rd_sr1, rd_sr2]
          refine ⟨_, hst, ⟨?_, ?_, ?_, fun z => by omega, fun z => by omega⟩, ?_, fun z => by omega, fun _ => ⟨?_, ?_⟩, fun c k hck => ?_, fun c k hck => rfl, rfl⟩
          · simp (disch := omega) only [rd_hi, rd_mi, rd_hl, rd_ml, rd_hr, rd_mr, rd_si2, rd_sl1, rd_sl2, rd_sr1, rd_sr2]
          · simp (disch := omega) only [rd_hi, rd_mi, rd_hl, rd_ml, rd_hr, rd_mr, rd_si2, rd_sl1, rd_sl2, rd_sr1, rd_sr2]
          · simp (disch := omega) only [rd_hi, rd_mi, rd_hl, rd_ml, rd_hr, rd_mr, rd_si2, rd_sl1, rd_sl2, rd_sr1, rd_sr2]
          · simp (disch := omega) only [rd_hi, rd_mi, rd_hl, rd_ml, rd_hr, rd_mr, rd_si2, rd_sl1, rd_sl2, rd_sr1, rd_sr2]
          · simp (disch := omega) only [rd_hi, rd_mi, rd_hl, rd_ml, rd_hr, rd_mr, rd_si2, rd_sl1, rd_sl2, rd_sr1, rd_sr2]
            exact h9
          · simp (disch := omega) only [rd_hi, rd_mi, rd_hl, rd_ml, rd_hr, rd_mr, rd_si2, rd_sl1, rd_sl2, rd_sr1, rd_sr2]
          · simp (disch := omega) only [rd_hi, rd_mi, rd_hl, rd_ml, rd_hr, rd_mr, rd_si2, rd_sl1, rd_sl2, rd_sr1, rd_sr2]
        · have hsg : lx_sg (T s) = 1 := by unfold lx_sg; rw [if_neg e]
          rw [hsg]
          have hst : fX11_next_168 (nI (T s)) (mv_si (mv_si (mv_si M 62 5 (nI s)) 62 6 (nI (i + 1))) 62 3 (nI (s + 1))) = some ((), mv_si (mv_si (mv_si (mv_si (mv_si (mv_si M 62 5 (nI s)) 62 6 (nI (i + 1))) 62 3 (nI (s + 1))) 62 4 (nI 0)) 62 9 (nI 1)) 62 10 (nI s)) := by
            unfold fX11_next_168 fX11_next_280 fX11_stop
            simp (disch := omega) only [h9, k_iT, k_iF, Bool.false_eq_true, eq_self, Nat.add_zero, k_lt', k_bs, k_T, k_F, k_inb, k_ck, k_nz, ↓kN, kL, k_lt, k_le, k_eq, kn_le, kn_lt, kn_eq, kn_le', kn_lt', kn_eq', nI_clamp, nI_add, k_sub, k_mul, k_div, rd_hi, rd_mi, rd_hl, rd_ml, rd_hr, rd_mr, rd_si2, rd_sl1, rd_sl2, rd_sr1, rd_sr2]
          refine ⟨_, hst, ⟨?_, ?_, ?_, fun z => by omega, fun z => by omega⟩, ?_, fun _ => ⟨?_, ?_⟩, fun z => absurd rfl z, fun c k hck => ?_, fun c k hck => rfl, rfl⟩
          · simp (disch := omega) only [rd_hi, rd_mi, rd_hl, rd_ml, rd_hr, rd_mr, rd_si2, rd_sl1, rd_sl2, rd_sr1, rd_sr2]
          · simp (disch := omega) only [rd_hi, rd_mi, rd_hl, rd_ml, rd_hr, rd_mr, rd_si2, rd_sl1, rd_sl2, rd_sr1, rd_sr2]
            rfl
          · simp (disch := omega) only [rd_hi, rd_mi, rd_hl, rd_ml, rd_hr, rd_mr, rd_si2, rd_sl1, rd_sl2, rd_sr1, rd_sr2]
          · simp (disch := omega) only [rd_hi, rd_mi, rd_hl, rd_ml, rd_hr, rd_mr, rd_si2, rd_sl1, rd_sl2, rd_sr1, rd_sr2]
          · simp (disch := omega) only [rd_hi, rd_mi, rd_hl, rd_ml, rd_hr, rd_mr, rd_si2, rd_sl1, rd_sl2, rd_sr1, rd_sr2]
          · simp (disch := omega) only [rd_hi, rd_mi, rd_hl, rd_ml, rd_hr, rd_mr, rd_si2, rd_sl1, rd_sl2, rd_sr1, rd_sr2]
          · simp (disch := omega) only [rd_hi, rd_mi, rd_hl, rd_ml, rd_hr, rd_mr, rd_si2, rd_sl1, rd_sl2, rd_sr1, rd_sr2]
  · simp only [if_neg hn]
    obtain rfl : s = n := by omega
    refine ⟨mv_si (mv_si M 62 5 (nI s)) 62 4 (nI 23), ?_, ⟨?_, ?_, ?_, fun z => absurd z (by decide), fun z => absurd z (by decide)⟩, ?_, fun z => absurd z (by decide), fun _ => ⟨?_, ?_⟩, fun c k hck => ?_, fun c k hck => rfl, rfl⟩
    · unfold fX11_next_52
      simp (disch := omega) only [h3', h1, k_iT, k_iF, Bool.false_eq_true, eq_self, Nat.add_zero, k_lt', k_bs, k_T, k_F, k_inb, k_ck, k_nz, ↓kN, kL, k_lt, k_le, k_eq, kn_le, kn_lt, kn_eq, kn_le', kn_lt', kn_eq', nI_clamp, nI_add, k_sub, k_mul, k_div, rd_hi, rd_mi, rd_hl, rd_ml, rd_hr, rd_mr, rd_si2, rd_sl1, rd_sl2, rd_sr1, rd_sr2]
    · simp (disch := omega) only [rd_hi, rd_mi, rd_hl, rd_ml, rd_hr, rd_mr, rd_si2, rd_sl1, rd_sl2, rd_sr1, rd_sr2]
    · simp (disch := omega) only [rd_hi, rd_mi, rd_hl, rd_ml, rd_hr, rd_mr, rd_si2, rd_sl1, rd_sl2, rd_sr1, rd_sr2]
      rfl
    · simp (disch := omega) only [rd_hi, rd_mi, rd_hl, rd_ml, rd_hr, rd_mr, rd_si2, rd_sl1, rd_sl2, rd_sr1, rd_sr2]
      exact h3'
    · simp (disch := omega) only [rd_hi, rd_mi, rd_hl, rd_ml, rd_hr, rd_mr, rd_si2, rd_sl1, rd_sl2, rd_sr1, rd_sr2]
      exact h6
    · simp (disch := omega) only [rd_hi, rd_mi, rd_hl, rd_ml, rd_hr, rd_mr, rd_si2, rd_sl1, rd_sl2, rd_sr1, rd_sr2]
      exact h9
    · simp (disch := omega) only [rd_hi, rd_mi, rd_hl, rd_ml, rd_hr, rd_mr, rd_si2, rd_sl1, rd_sl2, rd_sr1, rd_sr2]
    · simp (disch := omega) only [rd_hi, rd_mi, rd_hl, rd_ml, rd_hr, rd_mr, rd_si2, rd_sl1, rd_sl2, rd_sr1, rd_sr2]
theorem r_next {M : mv_M} {T : Nat → Nat} {n p i : Nat} (h : r_tape M T n) (hp : p ≤ n) (h3' : M.1 62 3 = nI p) (h6 : M.1 62 6 = nI i) (h9 : M.1 62 9 = nI 0) : ∃ M', fX11_next M = some ((), M') ∧ r_at M' T n (lx_sk T n p) ∧ M'.1 62 6 = nI (if lx_sk T n p < n then i + 1 else i) ∧ (lx_k T n (lx_sk T n p) = 1 → M'.1 62 9 = nI 1 ∧ M'.1 62 10 = nI (lx_sk T n p)) ∧ (lx_k T n (lx_sk T n p) ≠ 1 → M'.1 62 9 = nI 0 ∧ M'.1 62 10 = M.1 62 10) ∧ r_tkf M M' := by
  have key : ∀ d p, n - p = d → p ≤ n → mv_loop (fun (s : Unit) M => gX11_next_0 M) () (mv_si M 62 3 (nI p)) = fX11_next_52 (mv_si M 62 3 (nI (lx_sk T n p))) := by
    intro d
    induction d with
    | zero =>
      intro p hd hp
      obtain ⟨h1, h2, h3⟩ := r_tapeI (j := 3) (v := nI p) h (by decide)
      have e3 : (mv_si M 62 3 (nI p)).1 62 3 = nI p := by simp (disch := omega) only [rd_hi, rd_mi, rd_hl, rd_ml, rd_hr, rd_mr, rd_si2, rd_sl1, rd_sl2, rd_sr1, rd_sr2]
      rw [lx_skZ (by omega)]
      refine lp_inr ?_
      show gX11_next_0 _ = _
      unfold gX11_next_0
      simp (disch := omega) only [h1, e3, k_le, k_lt, k_T, k_F]
    | succ d ih =>
      intro p hd hp
      obtain ⟨h1, h2, h3⟩ := r_tapeI (j := 3) (v := nI p) h (by decide)
      have e3 : (mv_si M 62 3 (nI p)).1 62 3 = nI p := by simp (disch := omega) only [rd_hi, rd_mi, rd_hl, rd_ml, rd_hr, rd_mr, rd_si2, rd_sl1, rd_sl2, rd_sr1, rd_sr2]
      have hb := h3 p (by omega)
      have hb2 := hb.2
      by_cases hbl : t_bl (T p) = true
      · rw [lx_skS (by omega) hbl]
        refine (lp_go (s' := ()) (M' := mv_si M 62 3 (nI (p + 1))) ?_).trans (ih (p + 1) (by omega) (by omega))
        show gX11_next_0 _ = _
        unfold gX11_next_0 fX11_next_39
        rw [t_blP] at hbl
        rcases hbl with z | z
        · simp (disch := omega) only [h1, e3, hb.1, z, si_si, k_iT, k_iF, Bool.false_eq_true, eq_self, Nat.add_zero, k_lt', k_bs, k_T, k_F, k_inb, k_ck, k_nz, ↓kN, kL, k_lt, k_le, k_eq, kn_le, kn_lt, kn_eq, kn_le', kn_lt', kn_eq', nI_clamp, nI_add, k_sub, k_mul, k_div, rd_hi, rd_mi, rd_hl, rd_ml, rd_hr, rd_mr, rd_si2, rd_sl1, rd_sl2, rd_sr1, rd_sr2]
        · simp (disch := omega) only [h1, e3, hb.1, z, si_si, k_iT, k_iF, Bool.false_eq_true, eq_self, Nat.add_zero, k_lt', k_bs, k_T, k_F, k_inb, k_ck, k_nz, ↓kN, kL, k_lt, k_le, k_eq, kn_le, kn_lt, kn_eq, kn_le', kn_lt', kn_eq', nI_clamp, nI_add, k_sub, k_mul, k_div, rd_hi, rd_mi, rd_hl, rd_ml, rd_hr, rd_mr, rd_si2, rd_sl1, rd_sl2, rd_sr1, rd_sr2]
      · rw [lx_skZ (fun z => hbl z.2)]
        refine lp_inr ?_
        show gX11_next_0 _ = _
        unfold gX11_next_0
        rw [t_blP] at hbl
        simp (disch := omega) only [h1, e3, k_le, k_lt, k_eq, k_T, k_F, k_inb, k_ck, nI_clamp, hb.1, kL]
  have k0 := key _ p rfl hp
  rw [si_self h3'] at k0
  have hl := lx_sk_le (T := T) (n := n) hp
  obtain ⟨M', e1, e2, e3, e4, e5, e6, e7, e8⟩ := r_next52 (M := mv_si M 62 3 (nI (lx_sk T n p))) (r_tapeI h (by decide)) hl.2 (by simp (disch := omega) only [rd_hi, rd_mi, rd_hl, rd_ml, rd_hr, rd_mr, rd_si2, rd_sl1, rd_sl2, rd_sr1, rd_sr2]) (by simp (disch := omega) only [rd_hi, rd_mi, rd_hl, rd_ml, rd_hr, rd_mr, rd_si2, rd_sl1, rd_sl2, rd_sr1, rd_sr2]; exact h6) (by simp (disch := omega) only [rd_hi, rd_mi, rd_hl, rd_ml, rd_hr, rd_mr, rd_si2, rd_sl1, rd_sl2, rd_sr1, rd_sr2]; exact h9)
  refine ⟨M', k0.trans e1, e2, e3, e4, fun z => ⟨(e5 z).1, ?_⟩, fun c k hck => ?_, fun c k hck => ?_, ?_⟩
  · rw [(e5 z).2]
    simp (disch := omega) only [rd_hi, rd_mi, rd_hl, rd_ml, rd_hr, rd_mr, rd_si2, rd_sl1, rd_sl2, rd_sr1, rd_sr2]
  · rw [e6 c k hck]
    simp (disch := omega) only [rd_hi, rd_mi, rd_hl, rd_ml, rd_hr, rd_mr, rd_si2, rd_sl1, rd_sl2, rd_sr1, rd_sr2]
  · rw [e7 c k hck]
    rfl
  · rw [e8]
    rfl
