theorem r_rowE {M : mv_M} {T : Nat → Nat} {n s : Nat} (h : r_tape M T n) (hs : s < n) (hr : t_rw (T s) = true) (h5 : M.1 62 5 = nI s) (h9 : M.1 62 9 = nI 0) (h3' : M.1 62 3 = nI s) : ∃ M', fX11_row M = some ((), M') ∧ r_fin M M' T n s := by
  have hle := lx_re_le (T := T) (n := n) (p := s) (by omega)
  have hlt := (lx_end_le (T := T) hs).1
  have he : lx_end T n s = lx_re T n s := by unfold lx_end; rw [if_pos hr]
  rw [he] at hlt
  have key : ∀ d k, lx_re T n s - (s + k) = d → s + k ≤ lx_re T n s → mv_loop (fun (s : Int32 × Int64 × Int64) M => gX11_row_7 s.1 s.2.1 s.2.2 M) (if lx_ad T s k = true then nI 1 else nI 0, lx_lt T s k, lx_rv T s k) (mv_si M 62 3 (nI (s + k))) = fX11_row_124 (if lx_ad T s (lx_re T n s - s) = true then nI 1 else nI 0) (lx_lt T s (lx_re T n s - s)) (lx_rv T s (lx_re T n s - s)) (mv_si M 62 3 (nI (lx_re T n s))) := by
    intro d
    induction d with
    | zero =>
      intro k hd hk
      obtain rfl : k = lx_re T n s - s := by omega
      rw [show s + (lx_re T n s - s) = lx_re T n s by omega]
      refine lp_inr ?_
      show gX11_row_7 _ _ _ _ = _
      unfold gX11_row_7
      obtain ⟨h1, h2, h3⟩ := r_tapeI (j := 3) (v := nI (lx_re T n s)) h (by decide)
      have e3 : (mv_si M 62 3 (nI (lx_re T n s))).1 62 3 = nI (lx_re T n s) := by simp (disch := omega) only [rd_hi, rd_mi, rd_hl, rd_ml, rd_hr, rd_mr, rd_si2, rd_sl1, rd_sl2, rd_sr1, rd_sr2]
      by_cases hn : lx_re T n s < n
      · have hz : t_rw (T (lx_re T n s)) ≠ true := by
          have hx : ∀ d p, n - p = d → p ≤ n → lx_re T n p < n → t_rw (T (lx_re T n p)) ≠ true := by
            intro d
            induction d with
            | zero => intro p h1 h2 h3; have := lx_re_le (T := T) (n := n) (p := p) h2; omega
            | succ d ih =>
              intro p h1 h2 h3
              by_cases hb : t_rw (T p) = true
              · rw [lx_reS (by omega) hb] at h3 ⊢
                exact ih (p + 1) (by omega) (by omega) h3
              · rw [lx_reZ (fun z => hb z.2)]
                exact hb
          exact hx _ s rfl (by omega) hn
        have hb := h3 _ hn
        simp (disch := omega) only [h1, e3, k_le, k_lt, k_T, k_F, k_inb, k_ck, nI_clamp, hb.1, r_row hb.2, hz, k_bs, Bool.false_eq_true, k_iF, kL, eq_self, k_iT]
      · simp (disch := omega) only [h1, e3, k_le, k_lt, k_T, k_F]
    | succ d ih =>
      intro k hd hk
      have hb := lx_re_in (T := T) (n := n) (p := s) (j := s + k) (by omega) (by omega)
      have hkn : s + k < n := by omega
      obtain ⟨h1, h2, h3⟩ := r_tapeI (j := 3) (v := nI (s + k)) h (by decide)
      have e3 : (mv_si M 62 3 (nI (s + k))).1 62 3 = nI (s + k) := by simp (disch := omega) only [rd_hi, rd_mi, rd_hl, rd_ml, rd_hr, rd_mr, rd_si2, rd_sl1, rd_sl2, rd_sr1, rd_sr2]
      have hbt := h3 (s + k) hkn
      refine (lp_go (s' := (if lx_ad T s (k + 1) = true then nI 1 else nI 0, lx_lt T s (k + 1), lx_rv T s (k + 1))) (M' := mv_si M 62 3 (nI (s + (k + 1)))) ?_).trans (ih (k + 1) (by omega) (by omega))
      show gX11_row_7 _ _ _ _ = _
      unfold gX11_row_7 fX11_row_56 fX11_row_57 fX11_row_109
      simp only [lx_lt, lx_rv, lx_ad, ← Nat.add_assoc]
      by_cases ha : lx_ad T s k = true
      · by_cases hd : t_dg (T (s + k)) = true
        · by_cases hc : lg_cmp (lx_rv T s k) 1000000000 ≤ 0
          · simp only [ha, hd, hc, if_true, Bool.and_self]
            simp (disch := omega) only [h1, e3, hbt.1, r_row hbt.2, r_dig hbt.2, hb, hd, si_si, k_iT, k_iF, Bool.false_eq_true, eq_self, Nat.add_zero, k_lt', k_bs, k_T, k_F, k_inb, k_ck, k_nz, ↓kN, kL, k_lt, k_le, k_eq, kn_le, kn_lt, kn_eq, kn_le', kn_lt', kn_eq', nI_clamp, nI_add, k_sub, k_mul, k_div, rd_hi, rd_mi, rd_hl, rd_ml, rd_hr, rd_mr, rd_si2, rd_sl1, rd_sl2, rd_sr1, rd_sr2]
          · simp only [ha, hd, hc, if_true, if_false, Bool.and_self]
            simp (disch := omega) only [h1, e3, hbt.1, r_row hbt.2, r_dig hbt.2, hb, hd, si_si, k_iT, k_iF, Bool.false_eq_true, eq_self, Nat.add_zero, k_lt', k_bs, k_T, k_F, k_inb, k_ck, k_nz, ↓kN, kL, k_lt, k_le, k_eq, kn_le, kn_lt, kn_eq, kn_le', kn_lt', kn_eq', nI_clamp, nI_add, k_sub, k_mul, k_div, rd_hi, rd_mi, rd_hl, rd_ml, rd_hr, rd_mr, rd_si2, rd_sl1, rd_sl2, rd_sr1, rd_sr2]
        · by_cases hc : lg_cmp (lx_rv T s k) 1000000000 ≤ 0
          · simp only [ha, hd, hc, if_true, if_false, Bool.and_false]
            simp (disch := omega) only [h1, e3, hbt.1, r_row hbt.2, r_dig hbt.2, hb, hd, si_si, k_iT, k_iF, Bool.false_eq_true, eq_self, Nat.add_zero, k_lt', k_bs, k_T, k_F, k_inb, k_ck, k_nz, ↓kN, kL, k_lt, k_le, k_eq, kn_le, kn_lt, kn_eq, kn_le', kn_lt', kn_eq', nI_clamp, nI_add, k_sub, k_mul, k_div, rd_hi, rd_mi, rd_hl, rd_ml, rd_hr, rd_mr, rd_si2, rd_sl1, rd_sl2, rd_sr1, rd_sr2]
          · simp only [ha, hd, hc, if_true, if_false, Bool.and_false]
            simp (disch := omega) only [h1, e3, hbt.1, r_row hbt.2, r_dig hbt.2, hb, hd, si_si, k_iT, k_iF, Bool.false_eq_true, eq_self, Nat.add_zero, k_lt', k_bs, k_T, k_F, k_inb, k_ck, k_nz, ↓kN, kL, k_lt, k_le, k_eq, kn_le, kn_lt, kn_eq, kn_le', kn_lt', kn_eq', nI_clamp, nI_add, k_sub, k_mul, k_div, rd_hi, rd_mi, rd_hl, rd_ml, rd_hr, rd_mr, rd_si2, rd_sl1, rd_sl2, rd_sr1, rd_sr2]
      · by_cases hc : lg_cmp (lx_rv T s k) 1000000000 ≤ 0
        · simp only [ha, hc, if_true, if_false, Bool.false_and]
          simp (disch := omega) only [h1, e3, hbt.1, r_row hbt.2, hb, si_si, k_iT, k_iF, Bool.false_eq_true, eq_self, Nat.add_zero, k_lt', k_bs, k_T, k_F, k_inb, k_ck, k_nz, ↓kN, kL, k_lt, k_le, k_eq, kn_le, kn_lt, kn_eq, kn_le', kn_lt', kn_eq', nI_clamp, nI_add, k_sub, k_mul, k_div, rd_hi, rd_mi, rd_hl, rd_ml, rd_hr, rd_mr, rd_si2, rd_sl1, rd_sl2, rd_sr1, rd_sr2]
        · simp only [ha, hc, if_true, if_false, Bool.false_and]
          simp (disch := omega) only [h1, e3, hbt.1, r_row hbt.2, hb, si_si, k_iT, k_iF, Bool.false_eq_true, eq_self, Nat.add_zero, k_lt', k_bs, k_T, k_F, k_inb, k_ck, k_nz, ↓kN, kL, k_lt, k_le, k_eq, kn_le, kn_lt, kn_eq, kn_le', kn_lt', kn_eq', nI_clamp, nI_add, k_sub, k_mul, k_div, rd_hi, rd_mi, rd_hl, rd_ml, rd_hr, rd_mr, rd_si2, rd_sl1, rd_sl2, rd_sr1, rd_sr2]
  have hM : mv_si M 62 3 (nI (s + 0)) = M := si_self h3'
  have k0 := key _ 0 rfl (by omega)
  rw [hM] at k0
  obtain ⟨M', e1, e2⟩ := r_row124 (M := mv_si M 62 3 (nI (lx_re T n s))) (r_tapeI h (by decide)) hs hr (by simp (disch := omega) only [rd_hi, rd_mi, rd_hl, rd_ml, rd_hr, rd_mr, rd_si2, rd_sl1, rd_sl2, rd_sr1, rd_sr2]; exact h5) (by simp (disch := omega) only [rd_hi, rd_mi, rd_hl, rd_ml, rd_hr, rd_mr, rd_si2, rd_sl1, rd_sl2, rd_sr1, rd_sr2]; exact h9) (by simp (disch := omega) only [rd_hi, rd_mi, rd_hl, rd_ml, rd_hr, rd_mr, rd_si2, rd_sl1, rd_sl2, rd_sr1, rd_sr2])
  refine ⟨M', k0.trans e1, ?_⟩
  obtain ⟨f1, f2, f3, f4, f5, f6, f7, f8, f9⟩ := e2
  refine ⟨f1, f2, f3, f4, f5, fun z => ⟨(f6 z).1, ?_⟩, fun c k hck => ?_, fun c k hck => ?_, ?_⟩
  · rw [(f6 z).2]
    simp (disch := omega) only [rd_hi, rd_mi, rd_hl, rd_ml, rd_hr, rd_mr, rd_si2, rd_sl1, rd_sl2, rd_sr1, rd_sr2]
  · rw [f7 c k hck]
    simp (disch := omega) only [rd_hi, rd_mi, rd_hl, rd_ml, rd_hr, rd_mr, rd_si2, rd_sl1, rd_sl2, rd_sr1, rd_sr2]
  · rw [f8 c k hck]
    rfl
  · rw [f9]
    rfl
