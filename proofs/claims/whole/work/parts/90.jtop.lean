/-! the text's outer rows: both sides step by step -/
def rC (h : Nat) (N0 : mv_M) (T : Nat → Nat) (n f i m : Nat) (N : mv_M) : Prop := rW h N0 N ∧ N.1 62 33 = nI (12 * h + f) ∧ N.1 67 (12 * h + f) = nI m ∧ r_at N T n (lx_st T n i) ∧ N.1 62 6 = nI (if lx_st T n i < n then i + 1 else i) ∧ N.1 62 9 = nI 0
def rA (h : Nat) (N0 : mv_M) (T : Nat → Nat) (n f i m xn an : Nat) (N : mv_M) : Prop := rC h N0 T n f i m N ∧ N.1 62 29 = nI xn ∧ N.1 62 30 = nI an ∧ N.1 62 32 = nI 0
section TP
variable {α β : Type} {b h n cnt f i m nd nb pl xn an ot p : Nat} {M M' M0 N N' N0 : mv_M} {T : Nat → Nat}
theorem rA_stop {v : Nat} (hr : rC h N0 T n f i m N) (h1 : 2 ≤ v) (h2 : v ≤ 6) : ∃ N', fX11_stop (nI v) (nI (lx_st T n i)) N = some ((), N') ∧ rFt h f N0 v (lx_st T n i) N' := by
  obtain ⟨r1, r2, r3, r4, r5, r6⟩ := hr
  refine ⟨mv_si (mv_si N 62 9 (nI v)) 62 10 (nI (lx_st T n i)), ?_, ⟨?_, by omega, h2, ?_, rW_si (rW_si r1 (by unfold rWa; omega)) (by unfold rWa; omega), ?_⟩⟩
  · unfold fX11_stop
    simp (disch := omega) only [r6, k_iT, k_iF, Bool.false_eq_true, eq_self, Nat.add_zero, k_lt', k_bs, k_T, k_F, k_inb, k_ck, k_nz, ↓kN, kL, k_lt, k_le, k_eq, kn_le, kn_lt, kn_eq, kn_le', kn_lt', kn_eq', nI_clamp, nI_add, k_sub, k_mul, k_div, rd_hi, rd_mi, rd_hl, rd_ml, rd_hr, rd_mr, rd_si2, rd_sl1, rd_sl2, rd_sr1, rd_sr2]
  · simp (disch := omega) only [rd_hi, rd_mi, rd_hl, rd_ml, rd_hr, rd_mr, rd_si2, rd_sl1, rd_sl2, rd_sr1, rd_sr2]
  · simp (disch := omega) only [rd_hi, rd_mi, rd_hl, rd_ml, rd_hr, rd_mr, rd_si2, rd_sl1, rd_sl2, rd_sr1, rd_sr2]
  · simp (disch := omega) only [rd_hi, rd_mi, rd_hl, rd_ml, rd_hr, rd_mr, rd_si2, rd_sl1, rd_sl2, rd_sr1, rd_sr2]; exact r2
theorem j_pass0 {mr : Nat} (hx : pX b h M0 N0 T n cnt f) (hc : cO b M0 T n cnt f i m nd M) (hr : rC h N0 T n f i mr N) (hk : lx_k T n (lx_st T n i) ≠ 0) : ∃ M' N', fX3_pass M = some ((), M') ∧ fX11_pass N = some ((), N') ∧ ((∃ nb pl, cD b M0 T n cnt f nb pl M' ∧ rFt h f N0 nb pl N') ∨ (M' = mv_si M 3 3 (nI (i + 1)) ∧ cO b M0 T n cnt f (i + 1) m nd M' ∧ rC h N0 T n f (i + 1) mr N' ∧ r_tkf N N')) := by
  have hb := hx.1.1
  have hcnt := hx.1.2.2.1.2.1
  have hc' := hc
  have hr' := hr
  obtain ⟨hB, h3, hi, hi2, hk1, hm, hm2, hnd, hnd2, h10⟩ := hc
  obtain ⟨a1, a2, a3, a4, a5, a6⟩ := hr
  have hlt := (tk_kind hx.1 hi hi2).2.2 hk
  have hn : lx_st T n i < n := (hx.1.2.2.1.2.2.1 i hlt).1
  rw [if_pos hn] at a5
  obtain ⟨q1, q2, q3, q4, q5⟩ := a4
  by_cases hi3 : i < 1000
  · rw [if_pos hn] at q3
    have he := lx_end_le (T := T) hn
    obtain ⟨N', e1, e2, e3, e4, e5, e6⟩ := r_next (rO_tape hx a1) he.2 q3 a5 a6
    have est : lx_sk T n (lx_end T n (lx_st T n i)) = lx_st T n (i + 1) := rfl
    rw [est] at e2 e3 e4 e5
    refine ⟨mv_si M 3 3 (nI (i + 1)), N', ?_, ?_, ?_⟩
    · unfold fX3_pass
      simp (disch := omega) only [h3, k_iT, k_iF, Bool.false_eq_true, eq_self, Nat.add_zero, k_lt', k_bs, k_T, k_F, k_inb, k_ck, k_nz, ↓kN, kL, k_lt, k_le, k_eq, kn_le, kn_lt, kn_eq, kn_le', kn_lt', kn_eq', nI_clamp, nI_add, k_sub, k_mul, k_div, rd_hi, rd_mi, rd_hl, rd_ml, rd_hr, rd_mr, rd_si2, rd_sl1, rd_sl2, rd_sr1, rd_sr2]
    · unfold fX11_pass fX11_pass_27
      simp (disch := omega) only [a6, a5, e1, k_iT, k_iF, Bool.false_eq_true, eq_self, Nat.add_zero, k_lt', k_bs, k_T, k_F, k_inb, k_ck, k_nz, ↓kN, kL, k_lt, k_le, k_eq, kn_le, kn_lt, kn_eq, kn_le', kn_lt', kn_eq', nI_clamp, nI_add, k_sub, k_mul, k_div, rd_hi, rd_mi, rd_hl, rd_ml, rd_hr, rd_mr, rd_si2, rd_sl1, rd_sl2, rd_sr1, rd_sr2]
    · by_cases hb1 : lx_k T n (lx_st T n (i + 1)) = 1
      · refine .inl ⟨1, lx_st T n (i + 1), .inr ⟨cB_si hb hB (by omega), ⟨m, hm2, by simp (disch := omega) only [rd_hi, rd_mi, rd_hl, rd_ml, rd_hr, rd_mr, rd_si2, rd_sl1, rd_sl2, rd_sr1, rd_sr2]; exact hm⟩, ⟨nd, by omega, by simp (disch := omega) only [rd_hi, rd_mi, rd_hl, rd_ml, rd_hr, rd_mr, rd_si2, rd_sl1, rd_sl2, rd_sr1, rd_sr2]; exact hnd⟩, rfl, i + 1, ?_, by omega, by simp (disch := omega) only [rd_hi, rd_mi, rd_hl, rd_ml, rd_hr, rd_mr, rd_si2, rd_sl1, rd_sl2, rd_sr1, rd_sr2], hb1, rfl, by simp (disch := omega) only [rd_hi, rd_mi, rd_hl, rd_ml, rd_hr, rd_mr, rd_si2, rd_sl1, rd_sl2, rd_sr1, rd_sr2]; exact h10⟩, (e4 hb1).1, by omega, by omega, (e4 hb1).2, rW_tk a1 e6, (e6.1 _ _ (by omega)).trans a2⟩
        exact (tk_kind hx.1 (i := i + 1) (by omega) (by omega)).2.2 (by omega)
      · exact .inr ⟨rfl, ⟨cB_si hb hB (by omega), by simp (disch := omega) only [rd_hi, rd_mi, rd_hl, rd_ml, rd_hr, rd_mr, rd_si2, rd_sl1, rd_sl2, rd_sr1, rd_sr2], by omega, by omega, hb1, by simp (disch := omega) only [rd_hi, rd_mi, rd_hl, rd_ml, rd_hr, rd_mr, rd_si2, rd_sl1, rd_sl2, rd_sr1, rd_sr2]; exact hm, hm2, by simp (disch := omega) only [rd_hi, rd_mi, rd_hl, rd_ml, rd_hr, rd_mr, rd_si2, rd_sl1, rd_sl2, rd_sr1, rd_sr2]; exact hnd, by omega, by simp (disch := omega) only [rd_hi, rd_mi, rd_hl, rd_ml, rd_hr, rd_mr, rd_si2, rd_sl1, rd_sl2, rd_sr1, rd_sr2]; exact h10⟩, ⟨rW_tk a1 e6, (e6.1 _ _ (by omega)).trans a2, (e6.1 _ _ (by omega)).trans a3, e2, e3, (e5 hb1).1⟩, e6⟩
  · have hi4 : i = 1000 := by omega
    obtain ⟨M', e1, e2⟩ := cO_stop (v := 6) hx.1 hc' (by omega) (by omega)
    obtain ⟨N', f1, f2⟩ := rA_stop (v := 6) hr' (by omega) (by omega)
    refine ⟨M', N', ?_, ?_, .inl ⟨_, _, e2, f2⟩⟩
    · unfold fX3_pass
      simp (disch := omega) only [h3, e1, k_iT, k_iF, Bool.false_eq_true, eq_self, Nat.add_zero, k_lt', k_bs, k_T, k_F, k_inb, k_ck, k_nz, ↓kN, kL, k_lt, k_le, k_eq, kn_le, kn_lt, kn_eq, kn_le', kn_lt', kn_eq', nI_clamp, nI_add, k_sub, k_mul, k_div, rd_hi, rd_mi, rd_hl, rd_ml, rd_hr, rd_mr, rd_si2, rd_sl1, rd_sl2, rd_sr1, rd_sr2]
    · unfold fX11_pass fX11_pass_27
      have g1 := f2.1
      simp (disch := omega) only [a6, a5, q1, f1, g1, k_iT, k_iF, Bool.false_eq_true, eq_self, Nat.add_zero, k_lt', k_bs, k_T, k_F, k_inb, k_ck, k_nz, ↓kN, kL, k_lt, k_le, k_eq, kn_le, kn_lt, kn_eq, kn_le', kn_lt', kn_eq', nI_clamp, nI_add, k_sub, k_mul, k_div, rd_hi, rd_mi, rd_hl, rd_ml, rd_hr, rd_mr, rd_si2, rd_sl1, rd_sl2, rd_sr1, rd_sr2]
theorem rA_tk (a : rA h N0 T n f i m xn an N) (e : r_tkf N N') (hc : rC h N0 T n f (i + 1) m N') : rA h N0 T n f (i + 1) m xn an N' := ⟨hc, (e.1 _ _ (by omega)).trans a.2.1, (e.1 _ _ (by omega)).trans a.2.2.1, (e.1 _ _ (by omega)).trans a.2.2.2⟩
/-- a token is wanted -/
theorem j_want {w : Nat} (hx : pX b h M0 N0 T n cnt f) (hc : cO b M0 T n cnt f i m nd M) (hr : rA h N0 T n f i m xn an N) (hw : w ≤ 22) (hw1 : 1 ≤ w) : ∃ M' N', fX3_take (nI (lx_kt w)) M = some ((), M') ∧ fX11_want (nI w) N = some ((), N') ∧ ((∃ nb pl, cR b M0 cnt f nb pl M' ∧ rFt h f N0 nb pl N') ∨ (∃ nb pl, cD b M0 T n cnt f nb pl M' ∧ rFt h f N0 nb pl N') ∨ (M' = mv_si M 3 3 (nI (i + 1)) ∧ cO b M0 T n cnt f (i + 1) m nd M' ∧ rA h N0 T n f (i + 1) m xn an N' ∧ r_tkf N N')) := by
  have ek := cO_kind hx.1 hc
  have hv := vk_k (T := T) (n := n) (s := lx_st T n i)
  have hv2 : lx_k T n (lx_st T n i) < 2 ^ 31 := by unfold vk at hv; omega
  have hwk : lx_kt w ≤ 308 ∧ lx_kt w ≠ 0 := by
    have : ∀ w, w ≤ 22 → lx_kt w ≤ 308 ∧ lx_kt w ≠ 0 := by decide
    exact this w hw
  have a6 := hr.1.2.2.2.2.2
  have et : N.1 62 4 = nI (lx_tk (lx_k T n (lx_st T n i))) := hr.1.2.2.2.1.2.1
  have et2 : N.1 62 5 = nI (lx_st T n i) := hr.1.2.2.2.1.1
  by_cases hq : lx_k T n (lx_st T n i) = lx_kt w
  · obtain ⟨M', N', e1, e2, e4⟩ := j_pass0 hx hc hr.1 (by omega)
    refine ⟨M', N', ?_, ?_, ?_⟩
    · unfold fX3_take
      rw [ek, k_bs, if_pos (by rw [hq]), e1, k_bs]
    · have eq : (nI (lx_tk (lx_k T n (lx_st T n i))) = nI w) = True := by rw [tkA hv (by omega)]; exact eq_true hq
      unfold fX11_want fX11_want_24
      simp (disch := omega) only [a6, et, eq, e2, k_iT, k_iF, Bool.false_eq_true, eq_self, Nat.add_zero, k_lt', k_bs, k_T, k_F, k_inb, k_ck, k_nz, ↓kN, kL, k_lt, k_le, k_eq, kn_le, kn_lt, kn_eq, kn_le', kn_lt', kn_eq', nI_clamp, nI_add, k_sub, k_mul, k_div, rd_hi, rd_mi, rd_hl, rd_ml, rd_hr, rd_mr, rd_si2, rd_sl1, rd_sl2, rd_sr1, rd_sr2]
    · rcases e4 with z | ⟨z1, z2, z3, z4⟩
      · exact .inr (.inl z)
      · exact .inr (.inr ⟨z1, z2, rA_tk hr z4 z3, z4⟩)
  · obtain ⟨M', e1, e2⟩ := cO_stop (v := 2) hx.1 hc (by omega) (by omega)
    obtain ⟨N', f1, f2⟩ := rA_stop (v := 2) hr.1 (by omega) (by omega)
    have f4 := rFt_pass f2
    refine ⟨M', N', ?_, ?_, .inr (.inl ⟨_, _, e2, f2⟩)⟩
    · unfold fX3_take
      rw [ek, k_bs, if_neg (by rw [k_eq hv2 (by omega)]; exact hq), show (2 : Int32) = nI 2 from rfl, e1, k_bs]
    · have eq : (nI (lx_tk (lx_k T n (lx_st T n i))) = nI w) = False := by rw [tkA hv (by omega)]; exact eq_false hq
      unfold fX11_want fX11_want_24
      simp (disch := omega) only [a6, et, et2, eq, f1, f4, k_iT, k_iF, Bool.false_eq_true, eq_self, Nat.add_zero, k_lt', k_bs, k_T, k_F, k_inb, k_ck, k_nz, ↓kN, kL, k_lt, k_le, k_eq, kn_le, kn_lt, kn_eq, kn_le', kn_lt', kn_eq', nI_clamp, nI_add, k_sub, k_mul, k_div, rd_hi, rd_mi, rd_hl, rd_ml, rd_hr, rd_mr, rd_si2, rd_sl1, rd_sl2, rd_sr1, rd_sr2]
/-- the reference's loop is over -/
theorem P_end (e : N.1 62 36 = nI 0) : fX11_parse_26 N = some ((), N) := by
  unfold fX11_parse_26
  refine lp_out (t := ()) ?_
  show gX11_parse_26 N = _
  unfold gX11_parse_26
  simp (disch := omega) only [e, k_iT, k_iF, Bool.false_eq_true, eq_self, Nat.add_zero, k_lt', k_bs, k_T, k_F, k_inb, k_ck, k_nz, ↓kN, kL, k_lt, k_le, k_eq, kn_le, kn_lt, kn_eq, kn_le', kn_lt', kn_eq', nI_clamp, nI_add, k_sub, k_mul, k_div, rd_hi, rd_mi, rd_hl, rd_ml, rd_hr, rd_mr, rd_si2, rd_sl1, rd_sl2, rd_sr1, rd_sr2]
theorem J_out {o : Option (α × mv_M)} {Q : α → mv_M → mv_M → Prop} (hj : J b h M0 N0 T n cnt f N o Q) (hq : ∀ r M' N', Q r M' N' → N'.1 62 36 = nI 0) : ∃ r M' N', o = some (r, M') ∧ fX11_parse_26 N = some ((), N') ∧ ((∃ nb pl, cD b M0 T n cnt f nb pl M' ∧ rFt h f N0 nb pl N') ∨ Q r M' N') := by
  unfold J at hj
  cases ho : o with
  | none => rw [ho] at hj; exact absurd hj id
  | some q =>
    rw [ho] at hj
    obtain ⟨r, M'⟩ := q
    rcases hj with ⟨nb, pl, z1, N', z2, z3⟩ | ⟨N', e, z⟩
    · exact ⟨r, M', N', rfl, z2, .inl ⟨nb, pl, z1, z3⟩⟩
    · exact ⟨r, M', N', rfl, e.trans (P_end (hq r M' N' z)), .inr z⟩
/-- the stacks are made empty -/
theorem r_parse {s : Nat} (hr : rA h N0 T n f i m xn an N) : ∃ N5, fX11_parse (nI s) N = fX11_parse_26 N5 ∧ rO h N0 T n f i m xn an [(s, nI 0)] [] [] [] 0 N5 ∧ rS N N5 := by
  obtain ⟨⟨r1, r2, r3, r4, r5, r6⟩, r7, r8, r9⟩ := hr
  have q : rO h N0 T n f i m xn an [] [] [] [] 0 (mv_si (mv_si (mv_si (mv_si N 62 36 (nI 0)) 62 38 (nI 0)) 62 40 (nI 0)) 62 41 (nI 0)) := by
    refine ⟨rW_si (rW_si (rW_si (rW_si r1 (by unfold rWa; omega)) (by unfold rWa; omega)) (by unfold rWa; omega)) (by unfold rWa; omega), by simp (disch := omega) only [rd_hi, rd_mi, rd_hl, rd_ml, rd_hr, rd_mr, rd_si2, rd_sl1, rd_sl2, rd_sr1, rd_sr2]; exact r2, by simp (disch := omega) only [rd_hi, rd_mi, rd_hl, rd_ml, rd_hr, rd_mr, rd_si2, rd_sl1, rd_sl2, rd_sr1, rd_sr2]; exact r3, r_at_congr r4 (fun j _ _ => by simp (disch := omega) only [rd_hi, rd_mi, rd_hl, rd_ml, rd_hr, rd_mr, rd_si2, rd_sl1, rd_sl2, rd_sr1, rd_sr2]) rfl, by simp (disch := omega) only [rd_hi, rd_mi, rd_hl, rd_ml, rd_hr, rd_mr, rd_si2, rd_sl1, rd_sl2, rd_sr1, rd_sr2]; exact r5, by simp (disch := omega) only [rd_hi, rd_mi, rd_hl, rd_ml, rd_hr, rd_mr, rd_si2, rd_sl1, rd_sl2, rd_sr1, rd_sr2]; exact r6, by simp (disch := omega) only [rd_hi, rd_mi, rd_hl, rd_ml, rd_hr, rd_mr, rd_si2, rd_sl1, rd_sl2, rd_sr1, rd_sr2]; exact r7, by simp (disch := omega) only [rd_hi, rd_mi, rd_hl, rd_ml, rd_hr, rd_mr, rd_si2, rd_sl1, rd_sl2, rd_sr1, rd_sr2]; exact r8, ⟨by simp (disch := omega) only [rd_hi, rd_mi, rd_hl, rd_ml, rd_hr, rd_mr, rd_si2, rd_sl1, rd_sl2, rd_sr1, rd_sr2]; rfl, trivial⟩, ⟨by simp (disch := omega) only [rd_hi, rd_mi, rd_hl, rd_ml, rd_hr, rd_mr, rd_si2, rd_sl1, rd_sl2, rd_sr1, rd_sr2]; rfl, trivial⟩, ⟨by simp (disch := omega) only [rd_hi, rd_mi, rd_hl, rd_ml, rd_hr, rd_mr, rd_si2, rd_sl1, rd_sl2, rd_sr1, rd_sr2]; exact r9, trivial⟩, ⟨by simp (disch := omega) only [rd_hi, rd_mi, rd_hl, rd_ml, rd_hr, rd_mr, rd_si2, rd_sl1, rd_sl2, rd_sr1, rd_sr2]; rfl, trivial⟩, by simp (disch := omega) only [rd_hi, rd_mi, rd_hl, rd_ml, rd_hr, rd_mr, rd_si2, rd_sl1, rd_sl2, rd_sr1, rd_sr2]⟩
  obtain ⟨N5, p5, q5, s5⟩ := r_push (s := s) (w := nI 0) q (by simp)
  refine ⟨N5, ?_, q5, rS_trans (rS_si (rS_si (rS_si (rS_si rS_refl (by omega)) (by omega)) (by omega)) (by omega)) s5⟩
  unfold fX11_parse
  simp (disch := omega) only [p5, k_iT, k_iF, Bool.false_eq_true, eq_self, Nat.add_zero, k_lt', k_bs, k_T, k_F, k_inb, k_ck, k_nz, ↓kN, kL, k_lt, k_le, k_eq, kn_le, kn_lt, kn_eq, kn_le', kn_lt', kn_eq', nI_clamp, nI_add, k_sub, k_mul, k_div, rd_hi, rd_mi, rd_hl, rd_ml, rd_hr, rd_mr, rd_si2, rd_sl1, rd_sl2, rd_sr1, rd_sr2]
theorem rO_A {D Y : List Int32} {L : List (Nat × Int32)} (a : rO h N0 T n f i m xn an L D [] Y ot N) : rA h N0 T n f i m xn an N := ⟨⟨a.1, a.2.1, a.2.2.1, a.2.2.2.1, a.2.2.2.2.1, a.2.2.2.2.2.1⟩, a.2.2.2.2.2.2.1, a.2.2.2.2.2.2.2.1, a.2.2.2.2.2.2.2.2.2.2.1.1⟩
theorem j_ty (hx : pX b h M0 N0 T n cnt f) (hc : cO b M0 T n cnt f i m nd M) (hr : rA h N0 T n f i m xn an N) : ∃ r M' s N', tX3_parseType 0 M = some (r, M') ∧ fX11_type N = some (s, N') ∧ ((∃ nb pl, cD b M0 T n cnt f nb pl M' ∧ rFt h f N0 nb pl N' ∧ s = nI 0) ∨ ∃ i' y, r = nI y ∧ s = nI y ∧ y ≤ 4 ∧ i < i' ∧ cO b M0 T n cnt f i' m nd M' ∧ rA h N0 T n f i' m xn an N' ∧ cE b f m nd M M' ∧ rS N N') := by
  obtain ⟨N5, p5, q5, s5⟩ := r_parse (s := 2) hr
  obtain ⟨r, M', N', e1, e2, e3⟩ := J_out (j_type hx 2 0 12 i [] [] M N5 (by omega) (by omega) (by simp) (by simp) hc q5) (fun r M' N' hq => by
    obtain ⟨i', y, _, _, _, _, _, _, q, _⟩ := hq
    exact q.2.2.2.2.2.2.2.2.1.1)
  have a6 := hr.1.2.2.2.2.2
  rcases e3 with ⟨nb, pl, d1, d2⟩ | ⟨i', y, rfl, h1, h2, h3, h4, h5, h6, h7, h8⟩
  · refine ⟨r, M', nI 0, N', e1, ?_, .inl ⟨nb, pl, d1, d2, rfl⟩⟩
    obtain ⟨g1, g2, g3, _⟩ := d2
    unfold fX11_type fX11_type_12
    simp (disch := omega) only [a6, p5, e2, g1, k_iT, k_iF, Bool.false_eq_true, eq_self, Nat.add_zero, k_lt', k_bs, k_T, k_F, k_inb, k_ck, k_nz, ↓kN, kL, k_lt, k_le, k_eq, kn_le, kn_lt, kn_eq, kn_le', kn_lt', kn_eq', nI_clamp, nI_add, k_sub, k_mul, k_div, rd_hi, rd_mi, rd_hl, rd_ml, rd_hr, rd_mr, rd_si2, rd_sl1, rd_sl2, rd_sr1, rd_sr2]
  · refine ⟨nI y, M', nI y, N', e1, ?_, .inr ⟨i', y, rfl, rfl, h1, h4, h5, rO_A h6, h7, rS_trans s5 h8⟩⟩
    have g1 := h6.2.2.2.2.2.1
    have g2 : N'.1 84 0 = nI y := h6.2.2.2.2.2.2.2.2.2.2.2.1.2.1
    unfold fX11_type fX11_type_12
    simp (disch := omega) only [a6, p5, e2, g1, g2, k_iT, k_iF, Bool.false_eq_true, eq_self, Nat.add_zero, k_lt', k_bs, k_T, k_F, k_inb, k_ck, k_nz, ↓kN, kL, k_lt, k_le, k_eq, kn_le, kn_lt, kn_eq, kn_le', kn_lt', kn_eq', nI_clamp, nI_add, k_sub, k_mul, k_div, rd_hi, rd_mi, rd_hl, rd_ml, rd_hr, rd_mr, rd_si2, rd_sl1, rd_sl2, rd_sr1, rd_sr2]
end TP
