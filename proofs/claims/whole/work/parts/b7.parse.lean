/-! READING: from the tape to a program -/
section RDP
variable {b h n cnt F : Nat} {M M' M0 N N' N0 : mv_M} {T : Nat → Nat}
theorem j_parse (hb : b = 9 ∨ b = 24) (ht : c_toks M T n cnt) (hn : n ≤ 4000) (h10 : M.1 1 0 = nI 0) (hr : r_tape N T n) (hh : h ≤ 1) (n27 : N.1 62 27 = nI h) (n28 : N.1 62 28 = nI 0) (n29 : N.1 62 29 = nI (1001 * h)) (n30 : N.1 62 30 = nI (1001 * h)) (n32 : N.1 62 32 = nI 0) (n3 : N.1 62 3 = nI 0) (n6 : N.1 62 6 = nI 0) (n9 : N.1 62 9 = nI 0) : ∃ M' N', fX3_parse b M = some ((), M') ∧ (mv_bind (fX11_next N) fun _ M11 => mv_bind (fX11_definition M11) fun _ M12 => fX11_read_91 M12) = fX11_read_114 N' ∧ PO b h (mv_sr M 3 2 (some b)) N T n cnt M' N' := by
  have hx : cX b (mv_sr M 3 2 (some b)) T n cnt := ⟨hb, by simp (disch := omega) only [rd_hi, rd_mi, rd_hl, rd_ml, rd_hr, rd_mr, rd_si2, rd_sl1, rd_sl2, rd_sr1, rd_sr2], ht, hn⟩
  have hcnt := ht.2.1
  have hb2 : (decide (b = 9) || decide (b = 24)) = true := by simpa using hb
  have W4 : cW b (mv_sr M 3 2 (some b)) (mv_si (mv_si (mv_si (mv_sr M 3 2 (some b)) b 0 (nI 0)) b 8 (nI 0)) 3 3 (nI 0)) := ⟨fun c k z1 z2 z3 => by simp (disch := omega) only [rd_hi, rd_mi, rd_hl, rd_ml, rd_hr, rd_mr, rd_si2, rd_sl1, rd_sl2, rd_sr1, rd_sr2], fun _ _ _ => rfl, rfl⟩
  have cl : fX3_parse b M = mv_bind (fX3_parseFunction (mv_si (mv_si (mv_si (mv_sr M 3 2 (some b)) b 0 (nI 0)) b 8 (nI 0)) 3 3 (nI 0))) fun _ M5 => fX3_parse_23 (nI 0) M5 := by
    unfold fX3_parse fX4_clear
    rw [k_lt', show (mv_sr M 3 2 (some b)).2.2 3 2 = some b by simp (disch := omega) only [rd_hi, rd_mi, rd_hl, rd_ml, rd_hr, rd_mr, rd_si2, rd_sl1, rd_sl2, rd_sr1, rd_sr2]]
    show mv_chk (decide (b = 9) || decide (b = 24)) _ = _
    rw [hb2, k_ck]
    rfl
  obtain ⟨N1, e1, e2, e3, e4, e5, e6⟩ := r_next hr (Nat.zero_le _) n3 n6 n9
  have est : lx_sk T n 0 = lx_st T n 0 := rfl
  rw [est] at e2 e3 e4 e5
  have hW1 : rW h N N1 := rW_tk ⟨fun _ _ _ => rfl, fun _ _ _ => rfl, rfl⟩ e6
  rw [cl, e1, k_bs]
  generalize hM4 : mv_si (mv_si (mv_si (mv_sr M 3 2 (some b)) b 0 (nI 0)) b 8 (nI 0)) 3 3 (nI 0) = M4 at W4
  have c33 : M4.1 3 3 = nI 0 := by rw [← hM4]; simp (disch := omega) only [rd_hi, rd_mi, rd_hl, rd_ml, rd_hr, rd_mr, rd_si2, rd_sl1, rd_sl2, rd_sr1, rd_sr2]
  have cb0 : M4.1 b 0 = nI 0 := by rw [← hM4]; simp (disch := omega) only [rd_hi, rd_mi, rd_hl, rd_ml, rd_hr, rd_mr, rd_si2, rd_sl1, rd_sl2, rd_sr1, rd_sr2]
  have cb8 : M4.1 b 8 = nI 0 := by rw [← hM4]; simp (disch := omega) only [rd_hi, rd_mi, rd_hl, rd_ml, rd_hr, rd_mr, rd_si2, rd_sl1, rd_sl2, rd_sr1, rd_sr2]
  have c10 : M4.1 1 0 = nI 0 := by rw [← hM4]; simp (disch := omega) only [rd_hi, rd_mi, rd_hl, rd_ml, rd_hr, rd_mr, rd_si2, rd_sl1, rd_sl2, rd_sr1, rd_sr2]; exact h10
  by_cases hb1 : lx_k T n (lx_st T n 0) = 1
  · have hc0 := (tk_kind hx (i := 0) (Nat.zero_le _) (Nat.zero_le _)).2.2 (by omega)
    have zb : cBd b (mv_sr M 3 2 (some b)) T n cnt 1 (lx_st T n 0) M4 := ⟨W4, c10, rfl, ⟨0, by omega, cb0⟩, 0, hc0, by omega, c33, hb1, rfl⟩
    obtain ⟨M5, u1, u2⟩ := cBd_fun hx zb
    have rz : rZ h N 1 (lx_st T n 0) N1 := ⟨hW1, (e4 hb1).1, by omega, by omega, (e4 hb1).2⟩
    have r25 := rZ_25 (F := 0) rz ((e6.1 _ _ (by omega)).trans n27) ((e6.1 _ _ (by omega)).trans n28) hh (by omega)
    have rd : fX11_definition N1 = some ((), N1) := by
      have z2 := rz.2.1
      unfold fX11_definition
      rw [z2, if_neg (by decide)]
      exact r25
    refine ⟨M5, N1, ?_, ?_, .inl ⟨1, _, u2, rz⟩⟩
    · rw [u1, k_bs]
      exact cZ_out hx u2 (by omega)
    · rw [rd, k_bs]
      exact rZ_91 rz
  · have hc : cS b (mv_sr M 3 2 (some b)) T n cnt 0 0 0 M4 := ⟨W4, c33, Nat.zero_le _, by omega, hb1, cb0, by omega, cb8, by omega, c10⟩
    have hrs : rSt h N T n 0 0 (1001 * h) (1001 * h) N1 := ⟨hW1, e2, e3, (e5 hb1).1, (e6.1 _ _ (by omega)).trans n27, (e6.1 _ _ (by omega)).trans n28, (e6.1 _ _ (by omega)).trans n29, (e6.1 _ _ (by omega)).trans n30, (e6.1 _ _ (by omega)).trans n32⟩
    have hL : rLS b h (mv_sr M 3 2 (some b)) N T n cnt 0 0 (fun _ => 0) (fun _ => 1001 * h) (1001 * h) (fun _ _ _ => 0) M4 N1 := ⟨hc, hrs, fun j hj => by omega, fun j k _ hk => by omega, fun f hf => by omega, ⟨Nat.le_refl _, Nat.le_refl _, Nat.le_refl _, Nat.le_refl _⟩, rfl, rfl, fun f hf => ⟨Nat.le_refl _, Nat.le_refl _, Nat.le_refl _⟩⟩
    obtain ⟨M5, N5, u1, u2, u3⟩ := j_fun hx hr hh hc hrs (fun j hj => by omega) (by omega)
    obtain ⟨M6, N6, w1, w2, w3⟩ := j_after hx hL u3 (fun i lo xl an G M N _ z => j_prog hx hr hh 11 1 i lo xl an G M N (by omega) (by omega) z)
    refine ⟨M6, N6, ?_, ?_, w3⟩
    · rw [u1, k_bs]; exact w1
    · rw [u2, k_bs]; exact w2
/-! what was read, made ready for the typing -/
/-- the ghost with a fourth row: names that a node binds -/
noncomputable def gX (b : Nat) (M0 : mv_M) (G : Nat → Nat → Nat → Nat) : Nat → Nat → Nat → Nat
  | f, 3, k => @ite Nat (BD b M0 (G f) k) (Classical.propDecidable _) 1 0
  | f, r, k => G f r k
theorem x_ready {cnt0 i an : Nat} {lo xl : Nat → Nat} {G : Nat → Nat → Nat → Nat} (hx : cX b M0 T n cnt) (hh : h ≤ 1) (hF : 0 < F) (hL : rLS b h M0 N0 T n cnt F i lo xl an G M N) : ∃ pf mf lab, yG b h (mv_si (mv_sr M 4 2 (some b)) 4 3 (nI 0)) (mv_si N 62 33 (nI (12 * h))) T n cnt F (lo F) ∧ yE b h (mv_si (mv_sr M 4 2 (some b)) 4 3 (nI 0)) (mv_si N 62 33 (nI (12 * h))) T n F (lo F) lo xl an pf mf (gX b (mv_si (mv_sr M 4 2 (some b)) 4 3 (nI 0)) G) lab ∧ (∀ f, f < F → lo f ≤ lo (f + 1)) ∧ (∀ f, f < F → xl f ≤ xl (f + 1)) ∧ ∀ f, f < F → (mv_si N 62 33 (nI (12 * h))).1 67 (12 * h + f) = nI (mf f) := by
  have hb := hx.1
  obtain ⟨l1, l2, l3, l4, l5, l6, l7, l8, l9⟩ := hL
  obtain ⟨c1, c2, c3, c4, c5, c6, c7, c8, c9, cA⟩ := l1
  obtain ⟨r1, r2, r3, r4, r5, r6, r7, r8, r9⟩ := l2
  obtain ⟨t1, t2, t3, t4, t5, t6⟩ := hx.2.2.1
  have key : ∀ f, ∃ z : Nat × Nat × (Nat → Nat), f < F → (FR b h T n f (lo f) (lo (f + 1)) (xl f) (xl (f + 1)) an z.1 z.2.1 (G f) (mv_si (mv_sr M 4 2 (some b)) 4 3 (nI 0)) (mv_si N 62 33 (nI (12 * h))) ∧ (∀ k, lo f ≤ k → k < lo (f + 1) → z.2.2 k ≤ 80) ∧ ∀ a k, lo f ≤ k → k < a → a < lo (f + 1) → G f 1 a ≤ k → z.2.2 k < z.2.2 a) := by
    intro f
    by_cases hf : f < F
    · obtain ⟨_, _, p, m, w⟩ := l5 f hf
      have w2 := FR_congr (F := F) (M' := mv_si (mv_sr M 4 2 (some b)) 4 3 (nI 0)) (N' := mv_si N 62 33 (nI (12 * h))) w hf (Nat.le_refl an) ⟨fun c k u => by simp (disch := omega) only [rd_hi, rd_mi, rd_hl, rd_ml, rd_hr, rd_mr, rd_si2, rd_sl1, rd_sl2, rd_sr1, rd_sr2], fun c k u => by simp (disch := omega) only [rd_hi, rd_mi, rd_hl, rd_ml, rd_hr, rd_mr, rd_si2, rd_sl1, rd_sl2, rd_sr1, rd_sr2]⟩ ⟨fun c k u => by simp (disch := omega) only [rd_hi, rd_mi, rd_hl, rd_ml, rd_hr, rd_mr, rd_si2, rd_sl1, rd_sl2, rd_sr1, rd_sr2], fun c k u => by simp (disch := omega) only [rd_hi, rd_mi, rd_hl, rd_ml, rd_hr, rd_mr, rd_si2, rd_sl1, rd_sl2, rd_sr1, rd_sr2]⟩
      obtain ⟨lab, a1, a2⟩ := w.2.2.2.2.2.2.2
      exact ⟨(p, m, lab), fun _ => ⟨w2, a1, a2⟩⟩
    · exact ⟨(0, 0, fun _ => 0), fun z => absurd z hf⟩
  obtain ⟨Z, hZ⟩ := Classical.skolem.mp key
  refine ⟨fun f => (Z f).1, fun f => (Z f).2.1, fun f => (Z f).2.2, ?_, ?_, fun f hf => (l5 f hf).1, fun f hf => (l5 f hf).2.1, fun f hf => (hZ f hf).1.2.1.2.1⟩
  · refine ⟨⟨hb, by simp (disch := omega) only [rd_hi, rd_mi, rd_hl, rd_ml, rd_hr, rd_mr, rd_si2, rd_sl1, rd_sl2, rd_sr1, rd_sr2], ?_, ⟨by simp (disch := omega) only [rd_hi, rd_mi, rd_hl, rd_ml, rd_hr, rd_mr, rd_si2, rd_sl1, rd_sl2, rd_sr1, rd_sr2]; exact c6, c7⟩, ⟨by simp (disch := omega) only [rd_hi, rd_mi, rd_hl, rd_ml, rd_hr, rd_mr, rd_si2, rd_sl1, rd_sl2, rd_sr1, rd_sr2]; exact c8, by omega⟩, fun q hq => ?_⟩, hh, fun q hq => ?_, fun j hj => by simp (disch := omega) only [rd_hi, rd_mi, rd_hl, rd_ml, rd_hr, rd_mr, rd_si2, rd_sl1, rd_sl2, rd_sr1, rd_sr2]; exact l3 j hj, fun j k hj hk => by simp (disch := omega) only [rd_hi, rd_mi, rd_hl, rd_ml, rd_hr, rd_mr, rd_si2, rd_sl1, rd_sl2, rd_sr1, rd_sr2]; exact l4 j k hj hk, by simp (disch := omega) only [rd_hi, rd_mi, rd_hl, rd_ml, rd_hr, rd_mr, rd_si2, rd_sl1, rd_sl2, rd_sr1, rd_sr2]; exact r5, by simp (disch := omega) only [rd_hi, rd_mi, rd_hl, rd_ml, rd_hr, rd_mr, rd_si2, rd_sl1, rd_sl2, rd_sr1, rd_sr2]; exact r6⟩
    · refine ⟨?_, t2, fun i hi => ?_, t4, ?_, ?_⟩
      · simp (disch := omega) only [rd_hi, rd_mi, rd_hl, rd_ml, rd_hr, rd_mr, rd_si2, rd_sl1, rd_sl2, rd_sr1, rd_sr2]; rw [c1.1 _ _ (by omega) (by omega) (by omega)]; exact t1
      · obtain ⟨a1, a2, a3, a4⟩ := t3 i hi
        refine ⟨a1, ?_, ?_, fun z => ?_⟩
        · simp (disch := omega) only [rd_hi, rd_mi, rd_hl, rd_ml, rd_hr, rd_mr, rd_si2, rd_sl1, rd_sl2, rd_sr1, rd_sr2]; rw [c1.1 _ _ (by omega) (by omega) (by omega)]; exact a2
        · simp (disch := omega) only [rd_hi, rd_mi, rd_hl, rd_ml, rd_hr, rd_mr, rd_si2, rd_sl1, rd_sl2, rd_sr1, rd_sr2]; rw [c1.1 _ _ (by omega) (by omega) (by omega)]; exact a3
        · simp (disch := omega) only [rd_hi, rd_mi, rd_hl, rd_ml, rd_hr, rd_mr, rd_si2, rd_sl1, rd_sl2, rd_sr1, rd_sr2]; rw [c1.2.1 _ _ (by omega)]; exact a4 z
      · simp (disch := omega) only [rd_hi, rd_mi, rd_hl, rd_ml, rd_hr, rd_mr, rd_si2, rd_sl1, rd_sl2, rd_sr1, rd_sr2]; rw [c1.1 _ _ (by omega) (by omega) (by omega)]; exact t5
      · simp (disch := omega) only [rd_hi, rd_mi, rd_hl, rd_ml, rd_hr, rd_mr, rd_si2, rd_sl1, rd_sl2, rd_sr1, rd_sr2]; rw [c1.1 _ _ (by omega) (by omega) (by omega)]; exact t6
    · obtain ⟨w, _⟩ := hZ q hq
      exact ⟨_, w.2.1.2.2.2, w.2.1.1⟩
    · obtain ⟨w, _⟩ := hZ q hq
      exact ⟨_, _, w.1.1, w.1.2.1, w.1.2.2, w.2.1.2.2.1, w.2.1.1, w.2.1.2.2.2, w.2.2.1, w.2.2.2.2.1⟩
  · intro f hf
    obtain ⟨w, lab1, lab2⟩ := hZ f hf
    obtain ⟨⟨a1, a2, a3⟩, ⟨b1, b2, b3, b4⟩, e1, ⟨cc, d1, d2, d3, d4, d5⟩, e2, e3, e4, e5⟩ := w
    have w9 := l9 (f + 1) (by omega)
    have w8 := l9 f (by omega)
    have hgx : ∀ nm, BD b (mv_si (mv_sr M 4 2 (some b)) 4 3 (nI 0)) (gX b (mv_si (mv_sr M 4 2 (some b)) 4 3 (nI 0)) G f) nm ↔ gX b (mv_si (mv_sr M 4 2 (some b)) 4 3 (nI 0)) G f 3 nm = 1 := by
      intro nm
      show BD b (mv_si (mv_sr M 4 2 (some b)) 4 3 (nI 0)) (G f) nm ↔ @ite Nat (BD b (mv_si (mv_sr M 4 2 (some b)) 4 3 (nI 0)) (G f) nm) (Classical.propDecidable _) 1 0 = 1
      by_cases hB : BD b (mv_si (mv_sr M 4 2 (some b)) 4 3 (nI 0)) (G f) nm
      · rw [if_pos hB]; exact ⟨fun _ => rfl, fun _ => hB⟩
      · rw [if_neg hB]; exact ⟨fun z => absurd z hB, fun z => absurd z (by decide)⟩
    refine ⟨⟨hf, w9.1, ⟨w8.2.2, by omega, by omega⟩, a1, b1, a3, b3, b4, e3, e4, lab1, lab2, hgx⟩, a2, by omega, ?_, ?_, ?_, e1, e2⟩
    · rw [d3]; congr 1; omega
    · rw [d4]; congr 2; omega
    · rw [show lo (f + 1) - 1 = cc by omega]; exact d5
end RDP
