/-! the functions of a program are read -/
def PF (b h : Nat) (T : Nat → Nat) (n F : Nat) (lo xl : Nat → Nat) (an : Nat) (G : Nat → Nat → Nat → Nat) (M N : mv_M) : Prop := ∀ f, f < F → lo f ≤ lo (f + 1) ∧ xl f ≤ xl (f + 1) ∧ ∃ p m, FR b h T n f (lo f) (lo (f + 1)) (xl f) (xl (f + 1)) an p m (G f) M N
def rLS (b h : Nat) (M0 N0 : mv_M) (T : Nat → Nat) (n cnt F i : Nat) (lo xl : Nat → Nat) (an : Nat) (G : Nat → Nat → Nat → Nat) (M N : mv_M) : Prop := cS b M0 T n cnt F i (lo F) M ∧ rSt h N0 T n F i (xl F) an N ∧ (∀ j, j < F → M.2.1 (b + 1) j = N.2.1 64 (12 * h + j)) ∧ (∀ j k, j < k → k < F → M.2.1 (b + 1) j ≠ M.2.1 (b + 1) k) ∧ PF b h T n F lo xl an G M N ∧ (1001 * h ≤ xl F ∧ xl F ≤ 1001 * h + i ∧ 1001 * h ≤ an ∧ an ≤ 1001 * h + i) ∧ lo 0 = 0 ∧ xl 0 = 1001 * h ∧ (∀ f, f ≤ F → lo f ≤ lo F ∧ xl f ≤ xl F ∧ 1001 * h ≤ xl f)
def PO (b h : Nat) (M0 N0 : mv_M) (T : Nat → Nat) (n cnt : Nat) (M' N' : mv_M) : Prop := (∃ nb pl, cZ b M0 cnt nb pl M' ∧ rZ h N0 nb pl N') ∨ ∃ F i lo xl an G, 0 < F ∧ rLS b h M0 N0 T n cnt F i lo xl an G M' N'
section FY
variable {α β : Type} {b h n cnt f i m nd nb pl xn an an' ot p F x : Nat} {M M' M0 M1 M2 N N' N0 N1 N2 : mv_M} {T : Nat → Nat} {lo xl : Nat → Nat} {G : Nat → Nat → Nat → Nat}
theorem FR_congr {nd' xn' : Nat} {g : Nat → Nat → Nat} (a : FR b h T n f nd nd' xn xn' an p m g M N) (hf : f < F) (han : an ≤ an') (h1 : cFf b F nd' M M') (h2 : rFg h F xn' an N N') : FR b h T n f nd nd' xn xn' an' p m g M' N' := by
  obtain ⟨⟨a1, a2, a3⟩, ⟨b1, b2, b3, b4⟩, ⟨y, c1, c2, c3⟩, ⟨c, d1, d2, d3, d4, d5⟩, e1, e2, e3, e4⟩ := a
  refine ⟨⟨(h1.1 _ _ (by omega)).trans a1, (h2.1 _ _ (by omega)).trans a2, a3⟩, ⟨(h1.1 _ _ (by omega)).trans b1, (h2.1 _ _ (by omega)).trans b2, b3, b4⟩, ⟨y, c1, (h1.1 _ _ (by omega)).trans c2, (h2.1 _ _ (by omega)).trans c3⟩, ⟨c, d1, d2, (h1.1 _ _ (by omega)).trans d3, (h2.1 _ _ (by omega)).trans d4, d5⟩, fun k hk => ?_, fun k u1 u2 => ?_, ?_, e4⟩
  · obtain ⟨y', y1, y2, y3⟩ := e1 k hk
    exact ⟨y', y1, (h1.1 _ _ (by omega)).trans y2, (h2.1 _ _ (by omega)).trans y3⟩
  · rw [h1.2 _ _ (by omega), h2.2 _ _ (by omega)]
    exact e2 k u1 u2
  · exact TI_mono (TI_congr e3 (fun c k u1 u2 u3 u4 _ => h1.1 c k (by omega)) (fun c k u1 u2 u3 u4 => h2.1 c k (by omega)) (fun k u1 u2 => h2.2 _ _ (by omega)) (fun k u => h2.1 _ _ (by omega)) (fun _ _ _ => ⟨rfl, rfl⟩) (fun _ _ _ => rfl)) (Nat.le_refl _) (Nat.le_refl _) han (Nat.le_refl _) (Nat.le_refl _)
/-- the class's loop is over -/
theorem cZ_out (hx : cX b M0 T n cnt) (z : cZ b M0 cnt nb pl M) (hx1 : x < 2 ^ 31) : fX3_parse_23 (nI x) M = some ((), M) := by
  obtain ⟨hW, z1, z2, z3, z4, z5⟩ := z
  obtain ⟨a1, a2, a3, a4, a5⟩ := cW_tok hx hW
  have hcnt := hx.2.2.1.2.1
  have k0 := hx.2.2.1.2.2.2.2.1
  unfold fX3_parse_23
  refine lp_out (t := ()) ?_
  show gX3_parse_23 (nI x) M = _
  unfold gX3_parse_23 fX3_kind fX8_kindOf
  by_cases h12 : 12 ≤ x
  · simp (disch := omega) only [k_iT, k_iF, Bool.false_eq_true, eq_self, Nat.add_zero, k_lt', k_bs, k_T, k_F, k_inb, k_ck, k_nz, ↓kN, kL, k_lt, k_le, k_eq, kn_le, kn_lt, kn_eq, kn_le', kn_lt', kn_eq', nI_clamp, nI_add, k_sub, k_mul, k_div, rd_hi, rd_mi, rd_hl, rd_ml, rd_hr, rd_mr, rd_si2, rd_sl1, rd_sl2, rd_sr1, rd_sr2]
  · simp (disch := omega) only [z5, a1, a2, k0, k_iT, k_iF, Bool.false_eq_true, eq_self, Nat.add_zero, k_lt', k_bs, k_T, k_F, k_inb, k_ck, k_nz, ↓kN, kL, k_lt, k_le, k_eq, kn_le, kn_lt, kn_eq, kn_le', kn_lt', kn_eq', nI_clamp, nI_add, k_sub, k_mul, k_div, rd_hi, rd_mi, rd_hl, rd_ml, rd_hr, rd_mr, rd_si2, rd_sl1, rd_sl2, rd_sr1, rd_sr2]
/-- where it stands at what is no token, one turn more -/
theorem cBd_fun (hx : cX b M0 T n cnt) (z : cBd b M0 T n cnt nb pl M) : ∃ M', fX3_parseFunction M = some ((), M') ∧ cZ b M0 cnt nb pl M' := by
  have z0 := z
  obtain ⟨hW, h10, hnb, ⟨F, hF, hF0⟩, i, hi, hi2, h3, hk, hpl⟩ := z
  obtain ⟨a1, a2, a3, a4, a5⟩ := cW_tok hx hW
  obtain ⟨b1, b2, b3⟩ := tk_kind hx (by omega) hi2
  have hcnt := hx.2.2.1.2.1
  obtain ⟨v, ev⟩ := c_txt hx hW hi2
  obtain ⟨r, er, _⟩ := c_fnOf (b := b) (v := v) hF hF0 F 0 (by omega)
  have er' : fX4_functionOf b v M = some (r, M) := er
  obtain ⟨M', e1, e2⟩ := cBd_stop hx z0 (v := 2)
  have ek : fX3_kind M = some (nI 1, M) := by
    rw [hk] at b1
    unfold fX3_kind fX8_kindOf
    simp (disch := omega) only [h3, a1, a2, b1, k_iT, k_iF, Bool.false_eq_true, eq_self, Nat.add_zero, k_lt', k_bs, k_T, k_F, k_inb, k_ck, k_nz, ↓kN, kL, k_lt, k_le, k_eq, kn_le, kn_lt, kn_eq, kn_le', kn_lt', kn_eq', nI_clamp, nI_add, k_sub, k_mul, k_div, rd_hi, rd_mi, rd_hl, rd_ml, rd_hr, rd_mr, rd_si2, rd_sl1, rd_sl2, rd_sr1, rd_sr2]
  have k47 : ∀ s0 s1, fX3_parseFunction_47 v s0 s1 M = some ((), M') := by
    intro s0 s1
    refine c_47z ?_ e2
    unfold fX3_takeNewName
    rw [ek, k_bs, if_neg (by decide), e1, k_bs]
  refine ⟨M', ?_, e2⟩
  unfold fX3_parseFunction fX3_parseFunction_30
  rw [h3, ev, k_bs, gq hx hW, er', k_bs, gq hx hW, gq hx hW]
  simp only [k47, ite_self]
theorem cBd_out (hx : cX b M0 T n cnt) (z : cBd b M0 T n cnt nb pl M) (h12 : x < 12) : ∃ M', fX3_parse_23 (nI x) M = some ((), M') ∧ cZ b M0 cnt nb pl M' := by
  obtain ⟨M', e1, e2⟩ := cBd_fun hx z
  refine ⟨M', ?_, e2⟩
  obtain ⟨hW, h10, hnb, ⟨F, hF, hF0⟩, i, hi, hi2, h3, hk, hpl⟩ := z
  obtain ⟨a1, a2, a3, a4, a5⟩ := cW_tok hx hW
  obtain ⟨b1, b2, b3⟩ := tk_kind hx (by omega) hi2
  have hcnt := hx.2.2.1.2.1
  have ek : fX3_kind M = some (nI 1, M) := by
    rw [hk] at b1
    unfold fX3_kind fX8_kindOf
    simp (disch := omega) only [h3, a1, a2, b1, k_iT, k_iF, Bool.false_eq_true, eq_self, Nat.add_zero, k_lt', k_bs, k_T, k_F, k_inb, k_ck, k_nz, ↓kN, kL, k_lt, k_le, k_eq, kn_le, kn_lt, kn_eq, kn_le', kn_lt', kn_eq', nI_clamp, nI_add, k_sub, k_mul, k_div, rd_hi, rd_mi, rd_hl, rd_ml, rd_hr, rd_mr, rd_si2, rd_sl1, rd_sl2, rd_sr1, rd_sr2]
  have go : fX3_parse_23 (nI x) M = fX3_parse_23 (nI (x + 1)) M' := by
    unfold fX3_parse_23
    refine lp_go (s' := nI (x + 1)) ?_
    show gX3_parse_23 (nI x) M = _
    unfold gX3_parse_23
    simp (disch := omega) only [ek, e1, k_iT, k_iF, Bool.false_eq_true, eq_self, Nat.add_zero, k_lt', k_bs, k_T, k_F, k_inb, k_ck, k_nz, ↓kN, kL, k_lt, k_le, k_eq, kn_le, kn_lt, kn_eq, kn_le', kn_lt', kn_eq', nI_clamp, nI_add, k_sub, k_mul, k_div, rd_hi, rd_mi, rd_hl, rd_ml, rd_hr, rd_mr, rd_si2, rd_sl1, rd_sl2, rd_sr1, rd_sr2]
  rw [go]
  exact cZ_out hx e2 (by omega)
theorem rZ_91 (z : rZ h N0 nb pl N) : fX11_read_91 N = fX11_read_114 N := by
  obtain ⟨z1, z2, z3, z4, z5⟩ := z
  unfold fX11_read_91
  refine lp_inr ?_
  show gX11_read_91 N = _
  unfold gX11_read_91
  simp (disch := omega) only [z2, k_iT, k_iF, Bool.false_eq_true, eq_self, Nat.add_zero, k_lt', k_bs, k_T, k_F, k_inb, k_ck, k_nz, ↓kN, kL, k_lt, k_le, k_eq, kn_le, kn_lt, kn_eq, kn_le', kn_lt', kn_eq', nI_clamp, nI_add, k_sub, k_mul, k_div, rd_hi, rd_mi, rd_hl, rd_ml, rd_hr, rd_mr, rd_si2, rd_sl1, rd_sl2, rd_sr1, rd_sr2]
/-- behind a function that was read -/
theorem j_after (hx : cX b M0 T n cnt) (hL : rLS b h M0 N0 T n cnt F i lo xl an G M N) (hF : FO b h M0 N0 T n cnt F i (lo F) (xl F) an M N M' N') (ih : ∀ i lo xl an G M N, F < 12 → rLS b h M0 N0 T n cnt (F + 1) i lo xl an G M N → ∃ M' N', fX3_parse_23 (nI F) M = some ((), M') ∧ fX11_read_91 N = fX11_read_114 N' ∧ PO b h M0 N0 T n cnt M' N') : ∃ M'' N'', fX3_parse_23 (nI F) M' = some ((), M'') ∧ fX11_read_91 N' = fX11_read_114 N'' ∧ PO b h M0 N0 T n cnt M'' N'' := by
  have hF12 := hL.1.2.2.2.2.2.2.1
  rcases hF with ⟨nb, pl, z1 | ⟨z0, z1⟩, z2⟩ | ⟨h12, i', nd', xn', an', p, m, g, q1, q2, q3, ⟨q4, q5⟩, q6, q7, q8, q9⟩
  · exact ⟨M', N', cZ_out hx z1 (by omega), rZ_91 z2, .inl ⟨nb, pl, z1, z2⟩⟩
  · obtain ⟨M'', e1, e2⟩ := cBd_out (x := F) hx z1 z0
    exact ⟨M'', N', e1, rZ_91 z2, .inl ⟨nb, pl, e2, z2⟩⟩
  · obtain ⟨l1, l2, l3, l4, l5, l6, l7, l8, l9⟩ := hL
    have U : ∀ (w : Nat → Nat) (v : Nat) (k : Nat), k ≤ F → (fun k => if k ≤ F then w k else v) k = w k := fun w v k hk => by show (if k ≤ F then _ else _) = _; rw [if_pos hk]
    have V : ∀ (w : Nat → Nat) (v : Nat), (fun k => if k ≤ F then w k else v) (F + 1) = v := fun w v => by show (if F + 1 ≤ F then _ else _) = _; rw [if_neg (by omega)]
    refine ih i' (fun k => if k ≤ F then lo k else nd') (fun k => if k ≤ F then xl k else xn') an' (fun k => if k < F then G k else g) M' N' h12 ⟨?_, ?_, fun j hj => ?_, fun j k hjk hk => ?_, fun f hf => ?_, ?_, ?_, ?_, fun f hf => ?_⟩
    · rw [V]; exact q2
    · rw [V]; exact q3
    · by_cases e : j = F
      · subst e; exact q4
      · rw [q8.2 _ _ (by omega), q9.2 _ _ (by omega)]; exact l3 j (by omega)
    · by_cases e : k = F
      · subst e
        rw [q8.2 (b + 1) j (by omega)]
        exact q5 j hjk
      · rw [q8.2 (b + 1) j (by omega), q8.2 (b + 1) k (by omega)]; exact l4 j k hjk (by omega)
    · by_cases e : f = F
      · subst e
        rw [U _ _ _ (Nat.le_refl _), V, U _ _ _ (Nat.le_refl _), V]
        refine ⟨by omega, by omega, p, m, ?_⟩
        show FR b h T n f (lo f) nd' (xl f) xn' an' p m (if f < f then G f else g) M' N'
        rw [if_neg (by omega)]
        exact q6
      · obtain ⟨r1, r2, p2, m2, r3⟩ := l5 f (by omega)
        rw [U _ _ f (by omega), U _ _ (f + 1) (by omega), U _ _ f (by omega), U _ _ (f + 1) (by omega)]
        refine ⟨r1, r2, p2, m2, ?_⟩
        show FR b h T n f (lo f) (lo (f + 1)) (xl f) (xl (f + 1)) an' p2 m2 (if f < F then G f else g) M' N'
        rw [if_pos (by omega)]
        have w := l9 (f + 1) (by omega)
        exact FR_congr r3 (show f < F by omega) (by omega) ⟨fun c k u => q8.1 c k (by omega), fun c k u => q8.2 c k (by omega)⟩ ⟨fun c k u => q9.1 c k (by omega), fun c k u => q9.2 c k (by omega)⟩
    · rw [V]; omega
    · rw [U _ _ _ (by omega)]; exact l7
    · rw [U _ _ _ (by omega)]; exact l8
    · rw [V, V]
      by_cases e : f = F + 1
      · subst e; rw [V, V]; omega
      · have w := l9 f (by omega)
        rw [U _ _ f (by omega), U _ _ f (by omega)]; omega
theorem j_prog (hx : cX b M0 T n cnt) (ht : r_tape N0 T n) (hh : h ≤ 1) : ∀ d F i lo xl an G M N, F + d = 12 → 0 < F → rLS b h M0 N0 T n cnt F i lo xl an G M N → ∃ M' N', fX3_parse_23 (nI (F - 1)) M = some ((), M') ∧ fX11_read_91 N = fX11_read_114 N' ∧ PO b h M0 N0 T n cnt M' N' := by
  intro d
  induction d with
  | zero =>
    intro F i lo xl an G M N hd h0 hL
    obtain rfl : F = 12 := by omega
    have hL' := hL
    obtain ⟨l1, l2, l3, l4, l5, l6, l7, l8, l9⟩ := hL
    have ek := cS_kind hx l1
    have hv := vk_k (T := T) (n := n) (s := lx_st T n i)
    have hv2 : lx_k T n (lx_st T n i) < 2 ^ 31 := by unfold vk at hv; omega
    have n4 : N.1 62 4 = nI (lx_tk (lx_k T n (lx_st T n i))) := l2.2.1.2.1
    have n9 := l2.2.2.2.1
    have t23 := tkA hv (r := 23) (by omega)
    rw [kt23] at t23
    by_cases hk : lx_k T n (lx_st T n i) = 0
    · refine ⟨M, N, ?_, ?_, .inr ⟨12, i, lo, xl, an, G, h0, hL'⟩⟩
      · unfold fX3_parse_23
        refine lp_out (t := ()) ?_
        show gX3_parse_23 (nI (12 - 1)) M = _
        rw [hk] at ek
        unfold gX3_parse_23
        simp (disch := omega) only [ek, k_iT, k_iF, Bool.false_eq_true, eq_self, Nat.add_zero, k_lt', k_bs, k_T, k_F, k_inb, k_ck, k_nz, ↓kN, kL, k_lt, k_le, k_eq, kn_le, kn_lt, kn_eq, kn_le', kn_lt', kn_eq', nI_clamp, nI_add, k_sub, k_mul, k_div, rd_hi, rd_mi, rd_hl, rd_ml, rd_hr, rd_mr, rd_si2, rd_sl1, rd_sl2, rd_sr1, rd_sr2]
      · unfold fX11_read_91
        refine lp_inr ?_
        show gX11_read_91 N = _
        unfold gX11_read_91
        rw [n9, if_pos (show nI 0 = 0 from rfl), n4, if_pos (by rw [show (23 : Int32) = nI 23 from rfl, t23]; exact hk)]
    · obtain ⟨M', N', e1, e2, e3⟩ := j_fun hx ht hh l1 l2 l3 l6
      obtain ⟨M'', N'', f1, f2, f3⟩ := j_after hx hL' e3 (fun _ _ _ _ _ _ _ z => by omega)
      refine ⟨M'', N'', ?_, ?_, f3⟩
      · rw [← f1]
        unfold fX3_parse_23
        refine lp_go (s' := nI 12) ?_
        show gX3_parse_23 (nI (12 - 1)) M = _
        unfold gX3_parse_23
        simp (disch := omega) only [ek, hk, e1, k_iT, k_iF, Bool.false_eq_true, eq_self, Nat.add_zero, k_lt', k_bs, k_T, k_F, k_inb, k_ck, k_nz, ↓kN, kL, k_lt, k_le, k_eq, kn_le, kn_lt, kn_eq, kn_le', kn_lt', kn_eq', nI_clamp, nI_add, k_sub, k_mul, k_div, rd_hi, rd_mi, rd_hl, rd_ml, rd_hr, rd_mr, rd_si2, rd_sl1, rd_sl2, rd_sr1, rd_sr2]
      · rw [← f2]
        unfold fX11_read_91
        refine lp_go (s' := ()) ?_
        show gX11_read_91 N = _
        unfold gX11_read_91
        rw [n9, if_pos (show nI 0 = 0 from rfl), n4, if_neg (by rw [show (23 : Int32) = nI 23 from rfl, t23]; exact hk), e2, k_bs]
  | succ d ihd =>
    intro F i lo xl an G M N hd h0 hL
    have hL' := hL
    obtain ⟨l1, l2, l3, l4, l5, l6, l7, l8, l9⟩ := hL
    have ek := cS_kind hx l1
    have hv := vk_k (T := T) (n := n) (s := lx_st T n i)
    have hv2 : lx_k T n (lx_st T n i) < 2 ^ 31 := by unfold vk at hv; omega
    have n4 : N.1 62 4 = nI (lx_tk (lx_k T n (lx_st T n i))) := l2.2.1.2.1
    have n9 := l2.2.2.2.1
    have t23 := tkA hv (r := 23) (by omega)
    rw [kt23] at t23
    by_cases hk : lx_k T n (lx_st T n i) = 0
    · refine ⟨M, N, ?_, ?_, .inr ⟨F, i, lo, xl, an, G, h0, hL'⟩⟩
      · unfold fX3_parse_23
        refine lp_out (t := ()) ?_
        show gX3_parse_23 (nI (F - 1)) M = _
        rw [hk] at ek
        unfold gX3_parse_23
        simp (disch := omega) only [ek, k_iT, k_iF, Bool.false_eq_true, eq_self, Nat.add_zero, k_lt', k_bs, k_T, k_F, k_inb, k_ck, k_nz, ↓kN, kL, k_lt, k_le, k_eq, kn_le, kn_lt, kn_eq, kn_le', kn_lt', kn_eq', nI_clamp, nI_add, k_sub, k_mul, k_div, rd_hi, rd_mi, rd_hl, rd_ml, rd_hr, rd_mr, rd_si2, rd_sl1, rd_sl2, rd_sr1, rd_sr2]
      · unfold fX11_read_91
        refine lp_inr ?_
        show gX11_read_91 N = _
        unfold gX11_read_91
        rw [n9, if_pos (show nI 0 = 0 from rfl), n4, if_pos (by rw [show (23 : Int32) = nI 23 from rfl, t23]; exact hk)]
    · obtain ⟨M', N', e1, e2, e3⟩ := j_fun hx ht hh l1 l2 l3 l6
      obtain ⟨M'', N'', f1, f2, f3⟩ := j_after hx hL' e3 (fun i lo xl an G M N _ z => ihd (F + 1) i lo xl an G M N (by omega) (by omega) z)
      refine ⟨M'', N'', ?_, ?_, f3⟩
      · rw [← f1]
        unfold fX3_parse_23
        refine lp_go (s' := nI F) ?_
        show gX3_parse_23 (nI (F - 1)) M = _
        have ee : F - 1 + 1 = F := by omega
        unfold gX3_parse_23
        simp (disch := omega) only [ek, hk, e1, ee, k_iT, k_iF, Bool.false_eq_true, eq_self, Nat.add_zero, k_lt', k_bs, k_T, k_F, k_inb, k_ck, k_nz, ↓kN, kL, k_lt, k_le, k_eq, kn_le, kn_lt, kn_eq, kn_le', kn_lt', kn_eq', nI_clamp, nI_add, k_sub, k_mul, k_div, rd_hi, rd_mi, rd_hl, rd_ml, rd_hr, rd_mr, rd_si2, rd_sl1, rd_sl2, rd_sr1, rd_sr2]
      · rw [← f2]
        unfold fX11_read_91
        refine lp_go (s' := ()) ?_
        show gX11_read_91 N = _
        unfold gX11_read_91
        rw [n9, if_pos (show nI 0 = 0 from rfl), n4, if_neg (by rw [show (23 : Int32) = nI 23 from rfl, t23]; exact hk), e2, k_bs]
end FY
