/-! PARSING, both sides: the class's functions against the reference's loop. -/
def pX (b h : Nat) (M0 N0 : mv_M) (T : Nat → Nat) (n cnt f : Nat) : Prop := cX b M0 T n cnt ∧ r_tape N0 T n ∧ h ≤ 1 ∧ f < 12
def rFt (h f : Nat) (N0 : mv_M) (nb pl : Nat) (N : mv_M) : Prop := N.1 62 9 = nI nb ∧ 0 < nb ∧ nb ≤ 6 ∧ N.1 62 10 = nI pl ∧ rW h N0 N ∧ N.1 62 33 = nI (12 * h + f)
def RF (h f : Nat) (N0 : mv_M) (R : Option (Unit × mv_M)) (nb pl : Nat) : Prop := ∃ N', R = some ((), N') ∧ rFt h f N0 nb pl N'
def J {α : Type} (b h : Nat) (M0 N0 : mv_M) (T : Nat → Nat) (n cnt f : Nat) (N : mv_M) (o : Option (α × mv_M)) (Q : α → mv_M → mv_M → Prop) : Prop :=
  mv_ok o (fun r M' => (∃ nb pl, cD b M0 T n cnt f nb pl M' ∧ RF h f N0 (fX11_parse_26 N) nb pl) ∨ ∃ N', fX11_parse_26 N = fX11_parse_26 N' ∧ Q r M' N')
theorem kM (n : Nat) : (OfNat.ofNat n : Int32) = nI (@OfNat.ofNat Nat n (instOfNatNat n)) := rfl
section JD
variable {α β : Type} {b h n cnt f i m nd nb pl xn an ot : Nat} {L : List (Nat × Int32)} {D W Y : List Int32} {M M' M0 N N' N0 : mv_M} {T : Nat → Nat} {o : Option (α × mv_M)} {Q : α → mv_M → mv_M → Prop}
theorem lx_txne {s : Nat} (hs : s < n) (hk : lx_k T n s = 2) : lx_tx T n s ≠ 0 := by
  unfold lx_k at hk
  rw [if_pos hs] at hk
  have hr := lx_kd_rw (.inl hk)
  unfold lx_kd at hk
  rw [if_pos hr] at hk
  unfold lx_tx
  by_cases hd : t_dg (T s) = true
  · rw [if_pos hd] at hk
    split at hk <;> omega
  · rw [if_neg hd] at hk ⊢
    by_cases h8 : lx_re T n s - s ≤ 8
    · have hl := lx_re_le (T := T) (n := n) (p := s) (by omega)
      have hl2 := lx_re_le (T := T) (n := n) (p := s + 1) (by omega)
      rw [← lx_reS hs hr] at hl2
      have h1 := lx_lt_nv (T := T) (s := s) (lx_re T n s - s) h8 (fun j hj => by
        have := lx_re_in (T := T) (n := n) (p := s) (j := s + j) (by omega) (by omega)
        rw [t_rwP] at this
        omega)
      have h2 := lx_nv_ge (T := T) (s := s) (by rw [t_rwP] at hr; omega) (lx_re T n s - s - 1)
      rw [show lx_re T n s - s - 1 + 1 = lx_re T n s - s by omega, ← h1] at h2
      have h3 : 1 ≤ 256 ^ (lx_re T n s - s - 1) := Nat.le_trans Nat.one_le_two_pow (Nat.pow_le_pow_left (by decide) _)
      intro z
      rw [z] at h2
      have h4 : (0 : Int64).toBitVec.toNat = 0 := by decide
      rw [h4] at h2
      exact absurd (Nat.le_trans h3 h2) (by decide)
    · rw [if_neg h8] at hk
      omega
theorem J_some {r : α} (h1 : Q r M N) : J b h M0 N0 T n cnt f N (some (r, M)) Q := .inr ⟨N, rfl, h1⟩
theorem J_ex {r : α} (e : o = some (r, M)) (h1 : Q r M N) : J b h M0 N0 T n cnt f N o Q := by
  subst e
  exact J_some h1
theorem J_step (e : fX11_parse_26 N = fX11_parse_26 N') (h1 : J b h M0 N0 T n cnt f N' o Q) : J b h M0 N0 T n cnt f N o Q := by
  unfold J at h1 ⊢
  rw [e]
  exact h1
theorem J_dead (h1 : mv_ok o (fun _ M' => cD b M0 T n cnt f nb pl M')) (h2 : RF h f N0 (fX11_parse_26 N) nb pl) : J b h M0 N0 T n cnt f N o Q := ok_mono h1 (fun _ _ z => .inl ⟨nb, pl, z, h2⟩)
theorem J_mono {Q' : α → mv_M → mv_M → Prop} (h1 : J b h M0 N0 T n cnt f N o Q) (hq : ∀ r M' N', Q r M' N' → Q' r M' N') : J b h M0 N0 T n cnt f N o Q' := ok_mono h1 (fun r M' z => z.elim (fun z => .inl z) (fun ⟨N', e, z⟩ => .inr ⟨N', e, hq r M' N' z⟩))
theorem J_bind {g : α → mv_M → Option (β × mv_M)} {Q' : β → mv_M → mv_M → Prop} (h1 : J b h M0 N0 T n cnt f N o Q) (hd : ∀ nb pl r M', cD b M0 T n cnt f nb pl M' → mv_ok (g r M') (fun _ M'' => cD b M0 T n cnt f nb pl M'')) (hq : ∀ r M' N', Q r M' N' → J b h M0 N0 T n cnt f N' (g r M') Q') : J b h M0 N0 T n cnt f N (mv_bind o g) Q' := by
  refine ok_bind (ok_mono h1 (fun r M' z => ?_))
  rcases z with ⟨nb, pl, z1, z2⟩ | ⟨N', e, z⟩
  · exact J_dead (hd nb pl r M' z1) z2
  · exact J_step e (hq r M' N' z)
theorem J_bs {g : α → mv_M → Option (β × mv_M)} {r : α} {Q' : β → mv_M → mv_M → Prop} (e : o = some (r, M')) (hq : J b h M0 N0 T n cnt f N (g r M') Q') : J b h M0 N0 T n cnt f N (mv_bind o g) Q' := by
  subst e
  exact hq
theorem J_getp {g : Nat → Option (α × mv_M)} (hx : pX b h M0 N0 T n cnt f) (hc : cW b M0 M) (hq : J b h M0 N0 T n cnt f N (g b) Q) : J b h M0 N0 T n cnt f N (mv_getp (M.2.2 3 2) g) Q := ok_getp (cW_tok hx.1 hc).2.2.2.2 hx.1.1 hq
theorem J_T {c : Prop} [Decidable c] {x y : Option (α × mv_M)} (hc : c) (hq : J b h M0 N0 T n cnt f N x Q) : J b h M0 N0 T n cnt f N (if c then x else y) Q := by
  rw [if_pos hc]; exact hq
theorem J_F {c : Prop} [Decidable c] {x y : Option (α × mv_M)} (hc : ¬ c) (hq : J b h M0 N0 T n cnt f N y Q) : J b h M0 N0 T n cnt f N (if c then x else y) Q := by
  rw [if_neg hc]; exact hq
theorem P_fault (h1 : rFt h f N0 nb pl N) : RF h f N0 (fX11_parse_26 N) nb pl := by
  refine ⟨N, ?_, h1⟩
  obtain ⟨a1, a2, a3, _⟩ := h1
  unfold fX11_parse_26
  refine lp_out (t := ()) ?_
  show gX11_parse_26 N = _
  unfold gX11_parse_26
  by_cases h0 : N.1 62 36 ≤ 0
  · rw [if_pos h0]
  · rw [if_neg h0, a1, if_neg (by rw [kM, k_eq (by omega) (by omega)]; omega)]
theorem P_go (e : gX11_parse_26 N = some (.inl (), N')) : fX11_parse_26 N = fX11_parse_26 N' := by
  unfold fX11_parse_26
  exact lp_go (s' := ()) e
theorem rO_tape (hx : pX b h M0 N0 T n cnt f) (hr : rW h N0 N) : r_tape N T n := by
  obtain ⟨t1, t2, t3⟩ := hx.2.1
  exact ⟨(hr.1 62 2 (by unfold rWa; omega)).trans t1, t2, fun k hk => ⟨(hr.1 63 k (by unfold rWa; omega)).trans (t3 k hk).1, (t3 k hk).2⟩⟩
theorem cO_stop {v : Nat} (hx : cX b M0 T n cnt) (hc : cO b M0 T n cnt f i m nd M) (h1 : 2 ≤ v) (h2 : v ≤ 6) : ∃ M', fX3_stop (nI v) M = some ((), M') ∧ cD b M0 T n cnt f v (lx_st T n i) M' := by
  have hb := hx.1
  obtain ⟨hB, h3, hi, hi2, hk, hm, hm2, hnd, hnd2, h10⟩ := hc
  obtain ⟨a1, a2, a3, a4, a5⟩ := cW_tok hx hB.1
  obtain ⟨b1, b2, b3⟩ := tk_kind hx hi hi2
  have b4 : lx_k T n (lx_st T n i) < 2 ^ 31 := by have := vk_k (T := T) (n := n) (s := lx_st T n i); unfold vk at this; omega
  have hcnt := hx.2.2.1.2.1
  refine ⟨mv_si (mv_si (mv_si M 1 0 (nI v)) 1 1 (nI (lx_st T n i))) 3 3 (nI cnt), ?_, .inl ⟨cB_si hb (cB_si hb (cB_si hb hB (by omega)) (by omega)) (by omega), ⟨m, hm2, by simp (disch := omega) only [rd_hi, rd_mi, rd_hl, rd_ml, rd_hr, rd_mr, rd_si2, rd_sl1, rd_sl2, rd_sr1, rd_sr2]; exact hm⟩, ⟨nd, by omega, by simp (disch := omega) only [rd_hi, rd_mi, rd_hl, rd_ml, rd_hr, rd_mr, rd_si2, rd_sl1, rd_sl2, rd_sr1, rd_sr2]; exact hnd⟩, by simp (disch := omega) only [rd_hi, rd_mi, rd_hl, rd_ml, rd_hr, rd_mr, rd_si2, rd_sl1, rd_sl2, rd_sr1, rd_sr2], by simp (disch := omega) only [rd_hi, rd_mi, rd_hl, rd_ml, rd_hr, rd_mr, rd_si2, rd_sl1, rd_sl2, rd_sr1, rd_sr2], by omega, by omega, by simp (disch := omega) only [rd_hi, rd_mi, rd_hl, rd_ml, rd_hr, rd_mr, rd_si2, rd_sl1, rd_sl2, rd_sr1, rd_sr2]⟩⟩
  unfold fX3_stop fX3_stop_17 fX3_kind fX8_kindOf fX8_startOf fX0_tell
  simp (disch := omega) only [h3, a1, a2, a3, b1, b2, h10, hk, k_iT, k_iF, Bool.false_eq_true, eq_self, Nat.add_zero, k_lt', k_bs, k_T, k_F, k_inb, k_ck, k_nz, ↓kN, kL, k_lt, k_le, k_eq, kn_le, kn_lt, kn_eq, kn_le', kn_lt', kn_eq', nI_clamp, nI_add, k_sub, k_mul, k_div, rd_hi, rd_mi, rd_hl, rd_ml, rd_hr, rd_mr, rd_si2, rd_sl1, rd_sl2, rd_sr1, rd_sr2]
theorem r_stop {v : Nat} (hr : rO h N0 T n f i m xn an L D W Y ot N) (h1 : 2 ≤ v) (h2 : v ≤ 6) : ∃ N', fX11_stop (nI v) (nI (lx_st T n i)) N = some ((), N') ∧ rFt h f N0 v (lx_st T n i) N' ∧ N' = mv_si (mv_si N 62 9 (nI v)) 62 10 (nI (lx_st T n i)) := by
  refine ⟨_, ?_, ⟨?_, by omega, h2, ?_, rW_si (rW_si hr.1 (by unfold rWa; omega)) (by unfold rWa; omega), ?_⟩, rfl⟩
  · unfold fX11_stop
    simp (disch := omega) only [hr.2.2.2.2.2.1, k_iT, k_iF, Bool.false_eq_true, eq_self, Nat.add_zero, k_lt', k_bs, k_T, k_F, k_inb, k_ck, k_nz, ↓kN, kL, k_lt, k_le, k_eq, kn_le, kn_lt, kn_eq, kn_le', kn_lt', kn_eq', nI_clamp, nI_add, k_sub, k_mul, k_div, rd_hi, rd_mi, rd_hl, rd_ml, rd_hr, rd_mr, rd_si2, rd_sl1, rd_sl2, rd_sr1, rd_sr2]
  · simp (disch := omega) only [rd_hi, rd_mi, rd_hl, rd_ml, rd_hr, rd_mr, rd_si2, rd_sl1, rd_sl2, rd_sr1, rd_sr2]
  · simp (disch := omega) only [rd_hi, rd_mi, rd_hl, rd_ml, rd_hr, rd_mr, rd_si2, rd_sl1, rd_sl2, rd_sr1, rd_sr2]
  · simp (disch := omega) only [rd_hi, rd_mi, rd_hl, rd_ml, rd_hr, rd_mr, rd_si2, rd_sl1, rd_sl2, rd_sr1, rd_sr2]; exact hr.2.1
theorem j_pass {mr : Nat} (hx : pX b h M0 N0 T n cnt f) (hc : cO b M0 T n cnt f i m nd M) (hr : rO h N0 T n f i mr xn an L D W Y ot N) (hk : lx_k T n (lx_st T n i) ≠ 0) : ∃ M' N', fX3_pass M = some ((), M') ∧ fX11_pass N = some ((), N') ∧ r_tkf N N' ∧ ((∃ nb pl, cD b M0 T n cnt f nb pl M' ∧ rFt h f N0 nb pl N') ∨ (M' = mv_si M 3 3 (nI (i + 1)) ∧ cO b M0 T n cnt f (i + 1) m nd M' ∧ rO h N0 T n f (i + 1) mr xn an L D W Y ot N')) := by
  have hb := hx.1.1
  have hcnt := hx.1.2.2.1.2.1
  have hc' := hc
  have hr' := hr
  obtain ⟨hB, h3, hi, hi2, hk1, hm, hm2, hnd, hnd2, h10⟩ := hc
  obtain ⟨a1, a2, a3, a4, a5, a6, a7⟩ := hr
  have hlt := (tk_kind hx.1 hi hi2).2.2 hk
  have hn : lx_st T n i < n := (hx.1.2.2.1.2.2.1 i hlt).1
  rw [if_pos hn] at a5
  have ha4 := a4
  obtain ⟨q1, q2, q3, q4, q5⟩ := a4
  by_cases hi3 : i < 1000
  · rw [if_pos hn] at q3
    have he := lx_end_le (T := T) hn
    obtain ⟨N', e1, e2, e3, e4, e5, e6⟩ := r_next (rO_tape hx a1) he.2 q3 a5 a6
    have est : lx_sk T n (lx_end T n (lx_st T n i)) = lx_st T n (i + 1) := rfl
    rw [est] at e2 e3 e4 e5
    refine ⟨mv_si M 3 3 (nI (i + 1)), N', ?_, ?_, e6, ?_⟩
    · unfold fX3_pass
      simp (disch := omega) only [h3, k_iT, k_iF, Bool.false_eq_true, eq_self, Nat.add_zero, k_lt', k_bs, k_T, k_F, k_inb, k_ck, k_nz, ↓kN, kL, k_lt, k_le, k_eq, kn_le, kn_lt, kn_eq, kn_le', kn_lt', kn_eq', nI_clamp, nI_add, k_sub, k_mul, k_div, rd_hi, rd_mi, rd_hl, rd_ml, rd_hr, rd_mr, rd_si2, rd_sl1, rd_sl2, rd_sr1, rd_sr2]
    · unfold fX11_pass fX11_pass_27
      simp (disch := omega) only [a6, a5, e1, k_iT, k_iF, Bool.false_eq_true, eq_self, Nat.add_zero, k_lt', k_bs, k_T, k_F, k_inb, k_ck, k_nz, ↓kN, kL, k_lt, k_le, k_eq, kn_le, kn_lt, kn_eq, kn_le', kn_lt', kn_eq', nI_clamp, nI_add, k_sub, k_mul, k_div, rd_hi, rd_mi, rd_hl, rd_ml, rd_hr, rd_mr, rd_si2, rd_sl1, rd_sl2, rd_sr1, rd_sr2]
    · by_cases hb1 : lx_k T n (lx_st T n (i + 1)) = 1
      · refine .inl ⟨1, lx_st T n (i + 1), .inr ⟨cB_si hb hB (by omega), ⟨m, hm2, by simp (disch := omega) only [rd_hi, rd_mi, rd_hl, rd_ml, rd_hr, rd_mr, rd_si2, rd_sl1, rd_sl2, rd_sr1, rd_sr2]; exact hm⟩, ⟨nd, by omega, by simp (disch := omega) only [rd_hi, rd_mi, rd_hl, rd_ml, rd_hr, rd_mr, rd_si2, rd_sl1, rd_sl2, rd_sr1, rd_sr2]; exact hnd⟩, rfl, i + 1, ?_, by omega, by simp (disch := omega) only [rd_hi, rd_mi, rd_hl, rd_ml, rd_hr, rd_mr, rd_si2, rd_sl1, rd_sl2, rd_sr1, rd_sr2], hb1, rfl, by simp (disch := omega) only [rd_hi, rd_mi, rd_hl, rd_ml, rd_hr, rd_mr, rd_si2, rd_sl1, rd_sl2, rd_sr1, rd_sr2]; exact h10⟩, (e4 hb1).1, by omega, by omega, (e4 hb1).2, rW_tk a1 e6, (e6.1 _ _ (by omega)).trans a2⟩
        exact (tk_kind hx.1 (i := i + 1) (by omega) (by omega)).2.2 (by omega)
      · refine .inr ⟨rfl, ⟨cB_si hb hB (by omega), by simp (disch := omega) only [rd_hi, rd_mi, rd_hl, rd_ml, rd_hr, rd_mr, rd_si2, rd_sl1, rd_sl2, rd_sr1, rd_sr2], by omega, by omega, hb1, by simp (disch := omega) only [rd_hi, rd_mi, rd_hl, rd_ml, rd_hr, rd_mr, rd_si2, rd_sl1, rd_sl2, rd_sr1, rd_sr2]; exact hm, hm2, by simp (disch := omega) only [rd_hi, rd_mi, rd_hl, rd_ml, rd_hr, rd_mr, rd_si2, rd_sl1, rd_sl2, rd_sr1, rd_sr2]; exact hnd, by omega, by simp (disch := omega) only [rd_hi, rd_mi, rd_hl, rd_ml, rd_hr, rd_mr, rd_si2, rd_sl1, rd_sl2, rd_sr1, rd_sr2]; exact h10⟩, rW_tk a1 e6, (e6.1 _ _ (by omega)).trans a2, (e6.1 _ _ (by omega)).trans a3, e2, e3, (e5 hb1).1, rK_congr a7 (fun c k z => e6.1 c k (by omega))⟩
  · have hi4 : i = 1000 := by omega
    obtain ⟨M', e1, e2⟩ := cO_stop (v := 6) hx.1 hc' (by omega) (by omega)
    obtain ⟨N', f1, f2, f3⟩ := r_stop (v := 6) hr' (by omega) (by omega)
    refine ⟨M', N', ?_, ?_, ?_, .inl ⟨_, _, e2, f2⟩⟩
    · unfold fX3_pass
      simp (disch := omega) only [h3, e1, k_iT, k_iF, Bool.false_eq_true, eq_self, Nat.add_zero, k_lt', k_bs, k_T, k_F, k_inb, k_ck, k_nz, ↓kN, kL, k_lt, k_le, k_eq, kn_le, kn_lt, kn_eq, kn_le', kn_lt', kn_eq', nI_clamp, nI_add, k_sub, k_mul, k_div, rd_hi, rd_mi, rd_hl, rd_ml, rd_hr, rd_mr, rd_si2, rd_sl1, rd_sl2, rd_sr1, rd_sr2]
    · unfold fX11_pass fX11_pass_27
      have g1 := f2.1
      simp (disch := omega) only [a6, a5, q1, f1, g1, k_iT, k_iF, Bool.false_eq_true, eq_self, Nat.add_zero, k_lt', k_bs, k_T, k_F, k_inb, k_ck, k_nz, ↓kN, kL, k_lt, k_le, k_eq, kn_le, kn_lt, kn_eq, kn_le', kn_lt', kn_eq', nI_clamp, nI_add, k_sub, k_mul, k_div, rd_hi, rd_mi, rd_hl, rd_ml, rd_hr, rd_mr, rd_si2, rd_sl1, rd_sl2, rd_sr1, rd_sr2]
    · subst f3
      exact ⟨fun c k z => by simp (disch := omega) only [rd_hi, rd_mi, rd_hl, rd_ml, rd_hr, rd_mr, rd_si2, rd_sl1, rd_sl2, rd_sr1, rd_sr2], fun c k z => rfl, rfl⟩
end JD
