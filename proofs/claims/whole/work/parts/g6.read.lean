/-! read -/
section IR
variable {b b' h F ND n : Nat} {P : Nat → Nat → Nat} {M M' N M1 N' : mv_M} {v r : Int32}
/-- the reference's cells set for reading -/
def rd0 (N : mv_M) (h : Nat) : mv_M := mv_si (mv_si (mv_si (mv_si (mv_si (mv_si (mv_si (mv_si (mv_si (mv_si N 62 0 (nI 0)) 62 27 (nI h)) 62 28 (nI 0)) 62 29 (nI (1001 * h))) 62 30 (nI (1001 * h))) 62 32 (nI 0)) 62 3 (nI 0)) 62 6 (nI 0)) 62 9 (nI 0)) 62 10 nN
theorem r_26 (hh : h ≤ 1) : fX11_read_26 (nI h) (mv_si N 62 0 (nI 0)) = (mv_bind (fX11_next (rd0 N h)) fun _ M11 => mv_bind (fX11_definition M11) fun _ M12 => fX11_read_91 M12) := by
  unfold fX11_read_26 rd0
  simp (disch := omega) only [↓reduceIte, k_iT, k_iF, Bool.false_eq_true, eq_self, Nat.add_zero, k_lt', k_bs, k_T, k_F, k_inb, k_ck, k_nz, ↓kN, kL, k_lt, k_le, k_eq, kn_le, kn_lt, kn_eq, kn_le', kn_lt', kn_eq', nI_clamp, nI_add, k_sub, k_mul, k_div, rd_hi, rd_mi, rd_hl, rd_ml, rd_hr, rd_mr, rd_si2, rd_sl1, rd_sl2, rd_sr1, rd_sr2]
/-- what a read leaves, when it is refused -/
def rdNo (b' h : Nat) (M N Mf Nf : mv_M) : Prop := (∀ c k, ¬ (c = 1 ∨ c = 2 ∨ c = 3 ∨ c = 4 ∨ (40 ≤ c ∧ c ≤ 43) ∨ (b' ≤ c ∧ c ≤ b' + 14)) → Mf.1 c k = M.1 c k) ∧ (∀ c k, c = 0 ∨ c = 5 ∨ c = 7 → Mf.2.2 c k = M.2.2 c k) ∧ (∀ c k, ¬ rRd h c k → Nf.1 c k = N.1 c k)
def rdY (b b' h : Nat) (M N Mf Nf : mv_M) : Prop := (∃ P F ND, WFp P F ND ∧ (WSc P F ∧ Hf h P F) ∧ PR b' h P F ND Mf Nf) ∧ (Nf.1 62 45 = nI 1 ∧ Nf.1 62 47 = nI h) ∧ (Mf.1 5 0 = nI 0 ∧ Nf.1 62 46 = nI 0) ∧ (Mf.1 7 1 = nN ∧ Nf.1 62 75 = nN ∧ Mf.1 7 2 = nI 0 ∧ Mf.1 7 3 = nI 0 ∧ Mf.1 8 0 = nI 0 ∧ Mf.1 8 1 = nI 0 ∧ Mf.1 7 4 = nI 0 ∧ Mf.1 7 5 = nI 0) ∧ (Mf.2.2 0 7 = some b' ∧ Mf.2.2 0 8 = some b) ∧ (∀ c k, c = 6 ∨ c = 48 ∨ c = 49 → Mf.1 c k = M.1 c k) ∧ ∀ c k, (c = 62 ∧ k = 55) ∨ c = 92 ∨ c = 93 → Nf.1 c k = N.1 c k
theorem tp_T {n : Nat} {A B : Nat → Int32} (ht : ∀ k, k < n → pb_r (A k) (B k)) : ∃ T : Nat → Nat, ∀ k, k < n → T k < 256 ∧ B k = nI (T k) ∧ A k = sb_b (T k) := by
  have key : ∀ k, ∃ t : Nat, k < n → t < 256 ∧ B k = nI t ∧ A k = sb_b t := by
    intro k
    by_cases u : k < n
    · obtain ⟨t, h⟩ := ht k u
      exact ⟨t, fun _ => h⟩
    · exact ⟨0, fun z => absurd z u⟩
  obtain ⟨T, hT⟩ := Classical.skolem.mp key
  exact ⟨T, hT⟩
theorem j_read {hh : Nat} (hn : n ≤ 4000) (t2 : M.1 2 1 = nI n) (t3 : N.1 62 2 = nI n) (t4 : ∀ k, k < n → pb_r (M.1 39 k) (N.1 63 k)) (h4 : Pt b b' M) (h1 : hh ≤ 1) (e45 : N.1 62 45 = nI 0 ∨ N.1 62 45 = nI 1) (e47 : N.1 62 47 = nI hh) : ∃ r Mf Nf h, h ≤ 1 ∧ (N.1 62 45 = nI 1 → h = 1 - hh) ∧ fX10_read M = some (r, Mf) ∧ fX11_read N = some (r, Nf) ∧ Mf.1 1 1 = Nf.1 62 10 ∧ Mf.1 2 1 = nI 0 ∧ Nf.1 62 2 = nI 0 ∧ (rdNo b' h M N Mf Nf ∨ rdY b b' h M N Mf Nf) := by
  obtain ⟨hbb, h07, h08⟩ := h4
  have hb : b = 9 ∨ b = 24 := by omega
  have hb' : b' = 9 ∨ b' = 24 := by omega
  obtain ⟨T, hT⟩ := tp_T t4
  -- the half
  obtain ⟨h, hh1, hh2, hr0⟩ : ∃ h, h ≤ 1 ∧ (N.1 62 45 = nI 1 → h = 1 - hh) ∧ fX11_read N = fX11_read_26 (nI h) (mv_si N 62 0 (nI 0)) := by
    rcases e45 with z | z
    · refine ⟨hh, h1, fun y => by rw [z, k_eq (by omega) (by omega)] at y; omega, ?_⟩
      unfold fX11_read
      rw [k_lt', rd_mi (by omega), z, if_pos (by decide), rd_mi (by omega), e47]
      rfl
    · refine ⟨1 - hh, by omega, fun _ => rfl, ?_⟩
      unfold fX11_read
      rw [k_lt', rd_mi (by omega), z, if_neg (by decide), rd_mi (by omega), e47, show (1 : Int32) - nI hh = nI (1 - hh) from k_sub h1]
      rfl
  -- the class up to its tokens
  have cl : fX0_clear M = some ((), mv_si (mv_si M 1 0 (nI 0)) 1 1 nN) := rfl
  obtain ⟨M2, cnt, sc1, sc2, sc3, sc4, sc5⟩ := c_scan (M := mv_si (mv_si M 1 0 (nI 0)) 1 1 nN) (T := T) (n := n) ⟨by simp (disch := omega) only [rd_hi, rd_mi, rd_hl, rd_ml, rd_hr, rd_mr, rd_si2, rd_sl1, rd_sl2, rd_sr1, rd_sr2]; exact t2, hn, fun k hk => ⟨by simp (disch := omega) only [rd_hi, rd_mi, rd_hl, rd_ml, rd_hr, rd_mr, rd_si2, rd_sl1, rd_sl2, rd_sr1, rd_sr2]; exact (hT k hk).2.2, (hT k hk).1⟩⟩
  have rtp : r_tape (rd0 N h) T n := ⟨by unfold rd0; simp (disch := omega) only [rd_hi, rd_mi, rd_hl, rd_ml, rd_hr, rd_mr, rd_si2, rd_sl1, rd_sl2, rd_sr1, rd_sr2]; exact t3, hn, fun k hk => ⟨by unfold rd0; simp (disch := omega) only [rd_hi, rd_mi, rd_hl, rd_ml, rd_hr, rd_mr, rd_si2, rd_sl1, rd_sl2, rd_sr1, rd_sr2]; exact (hT k hk).2.1, (hT k hk).1⟩⟩
  obtain ⟨M4, M6, N6, p1, p2, p3, p4, p5, p6, p7, p8, p9, pA⟩ := j_both (b := b') (h := h) (N := rd0 N h) hb' sc2 hn (by rw [sc3 _ _ (by omega) (by omega) (by omega)]; simp (disch := omega) only [rd_hi, rd_mi, rd_hl, rd_ml, rd_hr, rd_mr, rd_si2, rd_sl1, rd_sl2, rd_sr1, rd_sr2]) rtp hh1 (by unfold rd0; simp (disch := omega) only [rd_hi, rd_mi, rd_hl, rd_ml, rd_hr, rd_mr, rd_si2, rd_sl1, rd_sl2, rd_sr1, rd_sr2]) (by unfold rd0; simp (disch := omega) only [rd_hi, rd_mi, rd_hl, rd_ml, rd_hr, rd_mr, rd_si2, rd_sl1, rd_sl2, rd_sr1, rd_sr2]) (by unfold rd0; simp (disch := omega) only [rd_hi, rd_mi, rd_hl, rd_ml, rd_hr, rd_mr, rd_si2, rd_sl1, rd_sl2, rd_sr1, rd_sr2]) (by unfold rd0; simp (disch := omega) only [rd_hi, rd_mi, rd_hl, rd_ml, rd_hr, rd_mr, rd_si2, rd_sl1, rd_sl2, rd_sr1, rd_sr2]) (by unfold rd0; simp (disch := omega) only [rd_hi, rd_mi, rd_hl, rd_ml, rd_hr, rd_mr, rd_si2, rd_sl1, rd_sl2, rd_sr1, rd_sr2]) (by unfold rd0; simp (disch := omega) only [rd_hi, rd_mi, rd_hl, rd_ml, rd_hr, rd_mr, rd_si2, rd_sl1, rd_sl2, rd_sr1, rd_sr2]) (by unfold rd0; simp (disch := omega) only [rd_hi, rd_mi, rd_hl, rd_ml, rd_hr, rd_mr, rd_si2, rd_sl1, rd_sl2, rd_sr1, rd_sr2]) (by unfold rd0; simp (disch := omega) only [rd_hi, rd_mi, rd_hl, rd_ml, rd_hr, rd_mr, rd_si2, rd_sl1, rd_sl2, rd_sr1, rd_sr2])
  have m2r : M2.2.2 = M.2.2 := sc5
  have m4r : M4.2.2 0 8 = some b' := by rw [p2]; simp (disch := omega) only [rd_hi, rd_mi, rd_hl, rd_ml, rd_hr, rd_mr, rd_si2, rd_sl1, rd_sl2, rd_sr1, rd_sr2]; rw [m2r]; exact h08
  have m6r : ∀ c k, c = 0 ∨ c = 5 ∨ c = 7 → M6.2.2 c k = M.2.2 c k := by
    intro c k u
    rw [p6]
    simp (disch := omega) only [rd_hi, rd_mi, rd_hl, rd_ml, rd_hr, rd_mr, rd_si2, rd_sl1, rd_sl2, rd_sr1, rd_sr2]
    rw [m2r]
  have gpb : ∀ {γ : Type} {x : Nat} (K : Nat → Option γ), (x = 9 ∨ x = 24) → mv_getp (some x) K = K x := fun K hx => gp_b hx
  have cr : fX10_read M = (if (mv_si M6 2 1 0).1 1 0 = 0 then mv_getp ((mv_si M6 2 1 0).2.2 0 7) fun b8 => mv_getp ((mv_si M6 2 1 0).2.2 0 8) fun b9 => mv_let (mv_sr (mv_si M6 2 1 0) 0 7 (some b9)) fun M10 => mv_let (mv_sr M10 0 8 (some b8)) fun M11 => mv_bind (fX5_forget M11) fun _ M12 => mv_bind (fX2_forget M12) fun _ M13 => mv_getp (M13.2.2 0 7) fun b14 => some (M13.1 b14 0, M13) else some (-((mv_si M6 2 1 0).1 1 0), mv_si M6 2 1 0)) := by
    unfold fX10_read
    rw [cl, k_bs, sc1, k_bs, show M2.2.2 0 8 = some b' by rw [m2r]; exact h08, gpb _ hb', p1, k_bs, m4r, gpb _ hb', p3, k_bs, k_lt']
  have m6 : ∀ c k, ¬ (c = 1 ∨ c = 2 ∨ c = 3 ∨ c = 4 ∨ (40 ≤ c ∧ c ≤ 43) ∨ (b' ≤ c ∧ c ≤ b' + 14)) → M6.1 c k = M.1 c k := by
    intro c k u
    rw [p5 c k (by unfold cRd; omega), sc3 c k (by omega) (by omega) (by omega), rd_mi (by omega), rd_mi (by omega)]
  have n6 : ∀ c k, ¬ rRd h c k → N6.1 c k = N.1 c k := by
    intro c k u
    rw [p7 c k u]
    unfold rRd at u
    unfold rd0
    simp (disch := omega) only [rd_hi, rd_mi, rd_hl, rd_ml, rd_hr, rd_mr, rd_si2, rd_sl1, rd_sl2, rd_sr1, rd_sr2]
  rw [r_26 hh1, p4] at hr0
  rcases pA with ⟨nb, pl, q1, q2, q3, q4, q5, q6⟩ | ⟨q1, q2, q3, q4, P, F, ND, q5, q6, ⟨q7, q8, q9⟩, qA⟩
  · -- refused
    rw [r_168z q5 q2 q3] at hr0
    rw [show (mv_si M6 2 1 0).1 1 0 = nI nb by rw [rd_mi (by omega)]; exact q1, if_neg (by rw [kM, k_eq (by omega) (by omega)]; omega)] at cr
    refine ⟨_, _, _, h, hh1, hh2, cr, hr0, by simp (disch := omega) only [rd_hi, rd_mi, rd_hl, rd_ml, rd_hr, rd_mr, rd_si2, rd_sl1, rd_sl2, rd_sr1, rd_sr2]; rw [q4, q6], by simp (disch := omega) only [rd_hi, rd_mi, rd_hl, rd_ml, rd_hr, rd_mr, rd_si2, rd_sl1, rd_sl2, rd_sr1, rd_sr2]; rfl, by simp (disch := omega) only [rd_hi, rd_mi, rd_hl, rd_ml, rd_hr, rd_mr, rd_si2, rd_sl1, rd_sl2, rd_sr1, rd_sr2], .inl ⟨fun c k u => by rw [rd_mi (by omega)]; exact m6 c k u, fun c k u => m6r c k u, fun c k u => ?_⟩⟩
    have := n6 c k u
    unfold rRd at u
    rw [rd_mi (by omega)]
    exact this
  · -- read
    have hF0 := q7.1
    have hF := q7.2.1
    rw [r_168 hh1 q2 p9 q5] at hr0
    rw [show (mv_si M6 2 1 0).1 1 0 = nI 0 by rw [rd_mi (by omega)]; exact q1, if_pos (by decide), show (mv_si M6 2 1 0).2.2 0 7 = some b from (m6r 0 7 (by omega)).trans h07, gpb _ hb, show (mv_si M6 2 1 0).2.2 0 8 = some b' from (m6r 0 8 (by omega)).trans h08, gpb _ hb', k_lt', k_lt'] at cr
    generalize hMf : mv_si (mv_si (mv_si (mv_si (mv_si (mv_si (mv_si (mv_si (mv_si (mv_sr (mv_sr (mv_si M6 2 1 0) 0 7 (some b')) 0 8 (some b)) 5 0 (nI 0)) 8 0 (nI 0)) 8 1 (nI 0)) 7 1 nN) 7 2 (nI 0)) 7 3 (nI 0)) 7 4 (nI 0)) 7 5 (nI 0)) 7 8 (nI 0) = Mf
    have cr' : fX10_read M = mv_getp (Mf.2.2 0 7) fun b14 => some (Mf.1 b14 0, Mf) := by
      rw [cr, ← hMf]
      rfl
    have mf07 : Mf.2.2 0 7 = some b' := by rw [← hMf]; simp (disch := omega) only [rd_hi, rd_mi, rd_hl, rd_ml, rd_hr, rd_mr, rd_si2, rd_sl1, rd_sl2, rd_sr1, rd_sr2]
    have mf08 : Mf.2.2 0 8 = some b := by rw [← hMf]; simp (disch := omega) only [rd_hi, rd_mi, rd_hl, rd_ml, rd_hr, rd_mr, rd_si2, rd_sl1, rd_sl2, rd_sr1, rd_sr2]
    have mf : ∀ c k, ¬ (c = 2 ∨ c = 5 ∨ c = 7 ∨ c = 8) → Mf.1 c k = M6.1 c k := by
      intro c k u
      rw [← hMf]; simp (disch := omega) only [rd_hi, rd_mi, rd_hl, rd_ml, rd_hr, rd_mr, rd_si2, rd_sl1, rd_sl2, rd_sr1, rd_sr2]
    rw [mf07, gpb _ hb', mf _ _ (by omega), q6] at cr'
    generalize hNf : mv_si (mv_si (mv_si (mv_si (mv_si (mv_si N6 62 2 (nI 0)) 62 47 (nI h)) 79 h (nI F)) 62 45 (nI 1)) 62 46 (nI 0)) 62 75 nN = Nf at hr0
    have nf : ∀ c k, c ≠ 79 → c ≠ 62 → Nf.1 c k = N6.1 c k := by
      intro c k u1 u2
      rw [← hNf]; simp (disch := omega) only [rd_hi, rd_mi, rd_hl, rd_ml, rd_hr, rd_mr, rd_si2, rd_sl1, rd_sl2, rd_sr1, rd_sr2]
    have hp := qA Nf nf (by rw [← hNf]; simp (disch := omega) only [rd_hi, rd_mi, rd_hl, rd_ml, rd_hr, rd_mr, rd_si2, rd_sl1, rd_sl2, rd_sr1, rd_sr2])
    refine ⟨_, Mf, Nf, h, hh1, hh2, cr', hr0, ?_, by rw [← hMf]; simp (disch := omega) only [rd_hi, rd_mi, rd_hl, rd_ml, rd_hr, rd_mr, rd_si2, rd_sl1, rd_sl2, rd_sr1, rd_sr2]; rfl, by rw [← hNf]; simp (disch := omega) only [rd_hi, rd_mi, rd_hl, rd_ml, rd_hr, rd_mr, rd_si2, rd_sl1, rd_sl2, rd_sr1, rd_sr2], .inr ⟨⟨P, F, ND, q7, ⟨q8, q9⟩, PR_F hp (fun c k u1 u2 => mf c k (by omega)) (fun _ _ _ _ => rfl)⟩, ⟨by rw [← hNf]; simp (disch := omega) only [rd_hi, rd_mi, rd_hl, rd_ml, rd_hr, rd_mr, rd_si2, rd_sl1, rd_sl2, rd_sr1, rd_sr2], by rw [← hNf]; simp (disch := omega) only [rd_hi, rd_mi, rd_hl, rd_ml, rd_hr, rd_mr, rd_si2, rd_sl1, rd_sl2, rd_sr1, rd_sr2]⟩, ⟨by rw [← hMf]; simp (disch := omega) only [rd_hi, rd_mi, rd_hl, rd_ml, rd_hr, rd_mr, rd_si2, rd_sl1, rd_sl2, rd_sr1, rd_sr2], by rw [← hNf]; simp (disch := omega) only [rd_hi, rd_mi, rd_hl, rd_ml, rd_hr, rd_mr, rd_si2, rd_sl1, rd_sl2, rd_sr1, rd_sr2]⟩, ⟨by rw [← hMf]; simp (disch := omega) only [rd_hi, rd_mi, rd_hl, rd_ml, rd_hr, rd_mr, rd_si2, rd_sl1, rd_sl2, rd_sr1, rd_sr2], by rw [← hNf]; simp (disch := omega) only [rd_hi, rd_mi, rd_hl, rd_ml, rd_hr, rd_mr, rd_si2, rd_sl1, rd_sl2, rd_sr1, rd_sr2], by rw [← hMf]; simp (disch := omega) only [rd_hi, rd_mi, rd_hl, rd_ml, rd_hr, rd_mr, rd_si2, rd_sl1, rd_sl2, rd_sr1, rd_sr2], by rw [← hMf]; simp (disch := omega) only [rd_hi, rd_mi, rd_hl, rd_ml, rd_hr, rd_mr, rd_si2, rd_sl1, rd_sl2, rd_sr1, rd_sr2], by rw [← hMf]; simp (disch := omega) only [rd_hi, rd_mi, rd_hl, rd_ml, rd_hr, rd_mr, rd_si2, rd_sl1, rd_sl2, rd_sr1, rd_sr2], by rw [← hMf]; simp (disch := omega) only [rd_hi, rd_mi, rd_hl, rd_ml, rd_hr, rd_mr, rd_si2, rd_sl1, rd_sl2, rd_sr1, rd_sr2], by rw [← hMf]; simp (disch := omega) only [rd_hi, rd_mi, rd_hl, rd_ml, rd_hr, rd_mr, rd_si2, rd_sl1, rd_sl2, rd_sr1, rd_sr2], by rw [← hMf]; simp (disch := omega) only [rd_hi, rd_mi, rd_hl, rd_ml, rd_hr, rd_mr, rd_si2, rd_sl1, rd_sl2, rd_sr1, rd_sr2]⟩, ⟨mf07, mf08⟩, fun c k u => ?_, fun c k u => ?_⟩⟩
    · rw [mf _ _ (by omega), q3, show Nf.1 62 10 = N6.1 62 10 by rw [← hNf]; simp (disch := omega) only [rd_hi, rd_mi, rd_hl, rd_ml, rd_hr, rd_mr, rd_si2, rd_sl1, rd_sl2, rd_sr1, rd_sr2], q4, sc3 _ _ (by omega) (by omega) (by omega)]
      unfold rd0
      simp (disch := omega) only [rd_hi, rd_mi, rd_hl, rd_ml, rd_hr, rd_mr, rd_si2, rd_sl1, rd_sl2, rd_sr1, rd_sr2]
    · rw [mf _ _ (by omega)]; exact m6 c k (by omega)
    · rw [show Nf.1 c k = N6.1 c k by rw [← hNf]; simp (disch := omega) only [rd_hi, rd_mi, rd_hl, rd_ml, rd_hr, rd_mr, rd_si2, rd_sl1, rd_sl2, rd_sr1, rd_sr2]]
      exact n6 c k (by unfold rRd; omega)
theorem fm_read {r : Int32} (e : fX10_read M = some (r, M')) : ∀ c k, ¬ (c ≤ 43 ∧ c ≠ 6 ∧ c ≠ 39) → M'.1 c k = M.1 c k ∧ M'.2.1 c k = M.2.1 c k ∧ M'.2.2 c k = M.2.2 c k := fun c k u => qX10_read M r M' e c k (by simp [mv_S]; omega)
theorem fr_read (e : fX11_read N = some (v, N')) : ∀ c k, ¬ ((64 ≤ c ∧ c ≤ 86) ∨ (c = 62 ∧ (k ≤ 47 ∨ k = 75))) → N'.1 c k = N.1 c k ∧ N'.2.1 c k = N.2.1 c k ∧ N'.2.2 c k = N.2.2 c k := fun c k u => qX11_read N v N' e c k (by simp [mv_S]; omega)
/-- the program stands in its half -/
theorem PR_half {h' : Nat} {N : mv_M} (hW : WFp P F ND) (hp : PR b h P F ND M N) (hH : Hf h P F) (hh : h' = 1 - h) (eM : ∀ c k, b ≤ c → c ≤ b + 13 → M'.1 c k = M.1 c k) (eN : ∀ c k, 65 ≤ c ∧ c ≤ 79 → ¬ rRd h' c k → N'.1 c k = N.1 c k) : PR b h P F ND M' N' := by
  have h1 := hp.2.1
  have hF := hW.2.1
  obtain ⟨p1, p2, p3, p4, p5, p6⟩ := hp
  refine ⟨p1, p2, (eM _ _ (by omega) (by omega)).trans p3, (eM _ _ (by omega) (by omega)).trans p4, (eN _ _ (by omega) (by unfold rRd; omega)).trans p5, fun f hf => ?_⟩
  obtain ⟨⟨a1, a2, a3, a4⟩, ⟨c1, c2, c3, c4⟩, d1, d2⟩ := p6 f hf
  have w := hW.2.2.2 f hf
  refine ⟨⟨(eM _ _ (by omega) (by omega)).trans a1, (eM _ _ (by omega) (by omega)).trans a2, (eM _ _ (by omega) (by omega)).trans a3, (eM _ _ (by omega) (by omega)).trans a4⟩, ⟨(eN _ _ (by omega) (by unfold rRd; omega)).trans c1, (eN _ _ (by omega) (by unfold rRd; omega)).trans c2, (eN _ _ (by omega) (by unfold rRd; omega)).trans c3, (eN _ _ (by omega) (by unfold rRd; omega)).trans c4⟩, fun k hk h4 => ?_, fun c x1 x2 => ?_⟩
  · have h16 := w.2.2.1
    exact ⟨(eM _ _ (by omega) (by omega)).trans (d1 k hk h4).1, (eN _ _ (by omega) (by unfold rRd; omega)).trans (d1 k hk h4).2⟩
  · obtain ⟨⟨x3, x4⟩, x5⟩ := hH f hf c x1 x2
    obtain ⟨n1, n2, n3, n4, n5, n6, n7, n8, n9, nA, nB, nC⟩ := d2 c x1 x2
    have e7 : ∀ i, 71 ≤ i → i ≤ 77 → N'.1 i (P 6 c) = N.1 i (P 6 c) := fun i u1 u2 => eN _ _ (by omega) (by unfold rRd; omega)
    have e9 : ∀ i, i ≤ 13 → ∀ k, M'.1 (b + i) k = M.1 (b + i) k := fun i u k => eM _ _ (by omega) (by omega)
    refine ⟨(e9 8 (by omega) _).trans n1, (e9 13 (by omega) _).trans n2, n3, (e7 _ (by omega) (by omega)).trans n4, (e7 _ (by omega) (by omega)).trans n5, fun z => ?_, fun z => ?_, fun z => ?_, fun z => ?_, fun z => ?_, fun z => ?_, fun z => ?_⟩
    · rw [e9 9 (by omega), e7 _ (by omega) (by omega)]; exact n6 z
    · rw [e9 9 (by omega), e7 _ (by omega) (by omega)]; exact n7 z
    · obtain ⟨y1, y2⟩ := x5 z
      obtain ⟨m1, m2, m3, m4, m5, m6, m7, m8, m9⟩ := n8 z
      refine ⟨(e9 9 (by omega) _).trans m1, (e7 _ (by omega) (by omega)).trans m2, (e9 11 (by omega) _).trans m3, (e7 _ (by omega) (by omega)).trans m4, (e7 _ (by omega) (by omega)).trans m5, m6, fun u => (e9 10 (by omega) _).trans (m7 u), fun k u => (e9 12 (by omega) _).trans (m8 k u), fun k u => (eN _ _ (by omega) (by unfold rRd; omega)).trans (m9 k u)⟩
    · rw [e9 9 (by omega), e9 10 (by omega), e7 _ (by omega) (by omega), e7 _ (by omega) (by omega)]; exact n9 z
    · rw [e7 _ (by omega) (by omega)]; exact nA z
    · rw [e9 11 (by omega), e7 _ (by omega) (by omega)]; exact nB z
    · rw [e9 11 (by omega), e7 _ (by omega) (by omega)]; exact nC z
theorem H2 : pm_N Iv fX10_read fX11_read := by
  intro M hI
  obtain ⟨⟨n, t1, t2, t3, t4⟩, h2, h3, b, b', h4, h5⟩ := hI
  have hb : b = 9 ∨ b = 24 := by have := h4.1; omega
  have e45 : M.1 62 45 = nI 0 ∨ M.1 62 45 = nI 1 := by
    rcases h5 with ⟨_, a2, _⟩ | ⟨h, P, F, ND, ⟨_, _, _, a4, _⟩, _⟩
    · exact .inl a2
    · exact .inr a4
  obtain ⟨hh, hh1, e47⟩ : ∃ hh, hh ≤ 1 ∧ M.1 62 47 = nI hh := by
    rcases h5 with ⟨_, _, ⟨h, a3, a4⟩, _⟩ | ⟨h, P, F, ND, ⟨_, _, a3, _, a5⟩, _⟩
    · exact ⟨h, a3, a4⟩
    · exact ⟨h, a3.2.1, a5⟩
  obtain ⟨r, M1, N1, hx, _, _, c1, _⟩ := j_read (N := M) t1 t2 t3 t4 h4 hh1 e45 e47
  have f1 := fm_read c1
  have e45N : M1.1 62 45 = nI 0 ∨ M1.1 62 45 = nI 1 := by rw [(f1 62 45 (by omega)).1]; exact e45
  obtain ⟨r', M1', N2, h, hh2, hh3, d1, d2, d3, d4, d5, d6⟩ := j_read (N := M1) t1 t2 ((f1 62 2 (by omega)).1.trans t3) (fun k hk => by rw [(f1 63 k (by omega)).1]; exact t4 k hk) h4 hh1 e45N ((f1 62 47 (by omega)).1.trans e47)
  rw [c1] at d1
  injection d1 with d1
  injection d1 with d1 d1'
  subst d1
  subst d1'
  have f2 := fr_read d2
  rw [c1]
  show mv_ok (fX11_read M1) (fun r2 M2 => r = r2 ∧ Iv M2)
  rw [d2]
  refine ⟨rfl, ⟨0, by omega, ((f2 _ _ (by omega)).1).trans d4, d5, fun k hk => by omega⟩, by rw [(f2 1 1 (by omega)).1]; exact d3, ?_, ?_⟩
  · obtain ⟨n', K, V, i1, i2, i3, i4⟩ := h3
    rcases d6 with ⟨g1, g2, g3⟩ | ⟨_, _, _, _, _, g6, g7⟩
    · refine iN_s ⟨n', K, V, i1, i2, i3, i4⟩ (fun c k u => ?_)
      rw [(f2 c k (by omega)).1]
      exact (f1 c k (by omega)).1
    · refine iN_s ⟨n', K, V, i1, i2, i3, i4⟩ (fun c k u => ?_)
      rw [(f2 c k (by omega)).1]
      exact (f1 c k (by omega)).1
  · rcases d6 with ⟨g1, g2, g3⟩ | ⟨⟨P, F, ND, g0, g1, g2⟩, ⟨g3, g4⟩, ⟨g5, g6⟩, ⟨j1, j2, j3, j4, j5, j6, j7, j8⟩, ⟨g7, g8⟩, _, _⟩
    · -- refused
      have eR : ∀ c k, 62 ≤ c → ¬ rRd h c k → N2.1 c k = M.1 c k := fun c k u1 u2 => by
        rw [g3 c k u2]
        exact (f1 c k (by omega)).1
      have e62 : ∀ k, 45 ≤ k → N2.1 62 k = M.1 62 k := fun k hk => eR 62 k (by omega) (by unfold rRd; omega)
      have eP : ∀ c k, c = 0 ∨ c = 5 ∨ c = 7 → N2.2.2 c k = M.2.2 c k := fun c k u => ((f2 c k (by omega)).2.2).trans (g2 c k u)
      have eC : ∀ c k, c < 62 → ¬ (c = 1 ∨ c = 2 ∨ c = 3 ∨ c = 4 ∨ (40 ≤ c ∧ c ≤ 43) ∨ (b' ≤ c ∧ c ≤ b' + 14)) → N2.1 c k = M.1 c k := fun c k u1 u2 => by
        rw [(f2 c k (by omega)).1]
        exact g1 c k u2
      have hbb := h4.1
      refine ⟨b, b', ⟨h4.1, (eP _ _ (by omega)).trans h4.2.1, (eP _ _ (by omega)).trans h4.2.2⟩, ?_⟩
      rcases h5 with ⟨a1, a2, ⟨h0, a3, a4⟩, ⟨a5, a6⟩, a7⟩ | ⟨h0, P, F, ND, ⟨a1, a2, a3, a4, a5⟩, a6, a7⟩
      · refine .inl ⟨(eC _ _ (by omega) (by omega)).trans a1, (e62 _ (by omega)).trans a2, ⟨h0, a3, (e62 _ (by omega)).trans a4⟩, ⟨(eC _ _ (by omega) (by omega)).trans a5, (e62 _ (by omega)).trans a6⟩, Nr_s a7 (fun c k u => ?_)⟩
        rcases u with u | u | ⟨u1, u2⟩
        · exact eC _ _ (by omega) (by omega)
        · exact eC _ _ (by omega) (by omega)
        · rw [u1]; exact e62 _ (by omega)
      · obtain rfl : hh = h0 := by
          rw [e47, k_eq (by have := a3.2.1; omega) (by have := a3.2.1; omega)] at a5
          exact a5
        have hx := hh3 (by rw [(f1 62 45 (by omega)).1]; exact a4)
        have hp2 : PR b hh P F ND N2 N2 := PR_half (M := M) (N := M) a1 a3 a2.2 hx (fun c k u1 u2 => eC c k (by omega) (by omega)) (fun c k u1 u => eR c k (by omega) u)
        refine .inr ⟨hh, P, F, ND, ⟨a1, a2, hp2, (e62 _ (by omega)).trans a4, (e62 _ (by omega)).trans a5⟩, ?_, RU_s a7 (fun c k u => ?_) (eP _ _ (by omega))⟩
        · rcases a6 with ⟨z1, z2⟩ | ⟨z1, z2, R, ⟨q1, q2, q3, q4, q5⟩, ⟨s1, s2, s3, s4, s5⟩⟩
          · exact .inl ⟨(eC _ _ (by omega) (by omega)).trans z1, (e62 _ (by omega)).trans z2⟩
          · exact .inr ⟨(eC _ _ (by omega) (by omega)).trans z1, (e62 _ (by omega)).trans z2, R, ⟨q1, q2, hp2, (eP _ _ (by omega)).trans q4, rowC_F q5 (fun a p u => eC _ _ (by omega) (by omega))⟩, ⟨s1, s2, hp2, (e62 _ (by omega)).trans s4, rowR_F s5 (fun a p u => eR _ _ (by omega) (by unfold rRd; omega))⟩⟩
        · by_cases u2 : c < 62
          · exact eC _ _ u2 (by omega)
          · by_cases u3 : c = 62
            · subst u3
              exact e62 _ (by omega)
            · exact eR _ _ (by omega) (by unfold rRd; omega)
    · -- read
      have hbb := h4.1
      refine ⟨b', b, ⟨by omega, ((f2 _ _ (by omega)).2.2).trans g7, ((f2 _ _ (by omega)).2.2).trans g8⟩, .inr ⟨h, P, F, ND, ⟨g0, g1, PR_F g2 (fun c k u1 u2 => (f2 c k (by omega)).1) (fun _ _ _ _ => rfl), g3, g4⟩, .inl ⟨((f2 _ _ (by omega)).1).trans g5, g6⟩, .inl ⟨((f2 _ _ (by omega)).1).trans j1, j2, ((f2 _ _ (by omega)).1).trans j3, ((f2 _ _ (by omega)).1).trans j4, ((f2 _ _ (by omega)).1).trans j5, ((f2 _ _ (by omega)).1).trans j6, ((f2 _ _ (by omega)).1).trans j7, ((f2 _ _ (by omega)).1).trans j8⟩⟩⟩
end IR
