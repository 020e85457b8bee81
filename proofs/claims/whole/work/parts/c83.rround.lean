/-! ROUNDS of the reference -/
def rT (b h : Nat) (P : Nat → Nat → Nat) (F ND : Nat) (R : Nat → Nat → Option (Nat → Nat)) (M N : mv_M) : Prop := WFp P F ND ∧ rOK P F R ∧ PR b h P F ND M N ∧ N.1 62 47 = nI h ∧ rowR P F R N
section RR
variable {b h F ND f a q n i k c d g : Nat} {M N N' N1 : mv_M} {P : Nat → Nat → Nat} {R : Nat → Nat → Option (Nat → Nat)} {ty w u y : Nat → Nat} {X : Option (Nat → Nat)}
theorem rT_si {v : Int32} {p : Nat} (hs : rT b h P F ND R M N) (hp : p ≠ 47) : rT b h P F ND R M (mv_si N 62 p v) := by
  obtain ⟨s1, s2, s3, s4, s5⟩ := hs
  refine ⟨s1, s2, PR_F s3 (fun _ _ _ _ => rfl) (fun c k u1 u2 => by simp (disch := omega) only [rd_hi, rd_mi, rd_hl, rd_ml, rd_hr, rd_mr, rd_si2, rd_sl1, rd_sl2, rd_sr1, rd_sr2]), by simp (disch := omega) only [rd_hi, rd_mi, rd_hl, rd_ml, rd_hr, rd_mr, rd_si2, rd_sl1, rd_sl2, rd_sr1, rd_sr2]; exact s4, fun q hq d h0 hd => ?_⟩
  obtain ⟨r1, r2⟩ := s5 q hq d h0 hd
  exact ⟨fun z => by simp (disch := omega) only [rd_hi, rd_mi, rd_hl, rd_ml, rd_hr, rd_mr, rd_si2, rd_sl1, rd_sl2, rd_sr1, rd_sr2]; exact r1 z, fun r z => ⟨by simp (disch := omega) only [rd_hi, rd_mi, rd_hl, rd_ml, rd_hr, rd_mr, rd_si2, rd_sl1, rd_sl2, rd_sr1, rd_sr2]; exact (r2 r z).1, fun k hk => by simp (disch := omega) only [rd_hi, rd_mi, rd_hl, rd_ml, rd_hr, rd_mr, rd_si2, rd_sl1, rd_sl2, rd_sr1, rd_sr2]; exact (r2 r z).2 k hk⟩⟩
theorem rT_aS (hs : rT b h P F ND R M N) (hf : f < F) (e : N.1 62 33 = nI (12 * h + f)) : aS b h P F ND f R M N := ⟨hs.1, hs.2.1, hf, hs.2.2.1, e, hs.2.2.2.2⟩
theorem r_asks (hs : aS b h P F ND f R M N) (h0 : 0 < d) (hd : d < dem (P 11 f)) : ∃ N' fl, fX11_asks (nI (P 6 (P 12 f))) (nI d) N = some (nI fl, N') ∧ fl ≤ 1 ∧ aF N N' ∧ (bE P R f d = none → fl = 1) ∧ ∀ x, bE P R f d = some x → fl = 0 ∧ ∀ k, k < P 10 f → N'.1 88 k = nI (x k) := by
  have wf := hs.1.2.2.2 f hs.2.2.1
  have hl := (wf.2.2.2.2.2.2.2.2.2 (P 12 f) wf.2.2.2.2.1 (Nat.le_refl _)).2.1
  have L1 : kL2 0 0 N (mv_si N 62 36 (nI 0)) := kL2_si (by omega)
  have hs1 := aS_F hs L1.1
  obtain ⟨Na, A1, t1, T1, L2, hs2, _⟩ := a_push hs1 (t := 0) (by simp (disch := omega) only [rd_hi, rd_mi, rd_hl, rd_ml, rd_hr, rd_mr, rd_si2, rd_sl1, rd_sl2, rd_sr1, rd_sr2]) (by omega) (show 0 ≤ 490 by omega) (nI 1) (nI (P 6 (P 12 f))) (nI d)
  obtain ⟨N4, E4, t4, L4, K4⟩ := a_main 81 Na hs2 0 (P 12 f) d 0 wf.2.2.2.2.1 (Nat.le_refl _) (by omega) h0 (by rw [wf.2.2.2.2.2.2.1]; exact hd) (by omega) (by omega) t1 T1
  have LL := kc L1 (kc (L2 0) L4)
  have out : ∀ fl, fl ≤ 1 → N4.1 89 0 = nI fl → fX11_asks (nI (P 6 (P 12 f))) (nI d) N = some (nI fl, N4) := by
    intro fl hfl e
    have o1 : fX11_asks_13 N4 = some (nI fl, N4) := by
      unfold fX11_asks_13
      refine lp_out ?_
      unfold gX11_asks_13
      rcases (show fl = 0 ∨ fl = 1 by omega) with rfl | rfl
      · simp (disch := omega) only [t4, e, bt0, k_iT, k_iF, Bool.false_eq_true, eq_self, Nat.add_zero, k_lt', k_bs, k_T, k_F, k_inb, k_ck, k_nz, ↓kN, kL, k_lt, k_le, k_eq, kn_le, kn_lt, kn_eq, kn_le', kn_lt', kn_eq', nI_clamp, nI_add, k_sub, k_mul, k_div, rd_hi, rd_mi, rd_hl, rd_ml, rd_hr, rd_mr, rd_si2, rd_sl1, rd_sl2, rd_sr1, rd_sr2]
      · simp (disch := omega) only [t4, e, bt1, k_iT, k_iF, Bool.false_eq_true, eq_self, Nat.add_zero, k_lt', k_bs, k_T, k_F, k_inb, k_ck, k_nz, ↓kN, kL, k_lt, k_le, k_eq, kn_le, kn_lt, kn_eq, kn_le', kn_lt', kn_eq', nI_clamp, nI_add, k_sub, k_mul, k_div, rd_hi, rd_mi, rd_hl, rd_ml, rd_hr, rd_mr, rd_si2, rd_sl1, rd_sl2, rd_sr1, rd_sr2]
    rw [show (16 * 0 : Nat) = 0 from rfl] at A1
    unfold fX11_asks
    simp (disch := omega) only [A1, k_iT, k_iF, Bool.false_eq_true, eq_self, Nat.add_zero, k_lt', k_bs, k_T, k_F, k_inb, k_ck, k_nz, ↓kN, kL, k_lt, k_le, k_eq, kn_le, kn_lt, kn_eq, kn_le', kn_lt', kn_eq', nI_clamp, nI_add, k_sub, k_mul, k_div, rd_hi, rd_mi, rd_hl, rd_ml, rd_hr, rd_mr, rd_si2, rd_sl1, rd_sl2, rd_sr1, rd_sr2]
    rw [E4, o1]
  change (bE P R f d = none ∧ _) ∨ (∃ x, bE P R f d = some x ∧ _) at K4
  rcases K4 with ⟨hB, e⟩ | ⟨x, hB, e, ex⟩
  · exact ⟨N4, 1, out 1 (by omega) e, by omega, LL.1, fun _ => rfl, fun x z => by rw [hB] at z; cases z⟩
  · refine ⟨N4, 0, out 0 (by omega) e, by omega, LL.1, fun z => (by rw [hB] at z; cases z), fun x' z => ?_⟩
    rw [hB] at z
    cases z
    exact ⟨rfl, fun k hk => by have := ex k hk; rw [show 16 * 0 + k = k by omega] at this; exact this⟩
theorem r_65 {fl : Nat} (hW : WFp P F ND) (hf : f < F) (hp : PR b h P F ND M N) (e33 : N.1 62 33 = nI (12 * h + f)) (hfl : fl ≤ 1) (hd : d < 26) (hw : ∀ k, k < P 9 f → (fl = 0 → N.1 88 k = nI (w k)) ∧ (fl = 1 → w k = 0)) : ∀ j i c, i + j = P 9 f → c ≤ 1 → ∃ c', c' ≤ 1 ∧ (c' = 0 ↔ c = 0 ∧ (fl = 1 ∨ ∀ m, i ≤ m → m < P 9 f → N.1 90 (4 * (26 * f + d) + m) = nI (w m))) ∧ fX11_renewed_65 (nI (26 * f + d)) (nI fl) (nI c) (nI i) (pB 90 N (4 * (26 * f + d)) i w) = some (nI c', pB 90 N (4 * (26 * f + d)) (P 9 f) w) := by
  have hp4 := (hW.2.2.2 f hf).1
  have hF := hW.2.1
  have hh := hp.2.1
  intro j
  induction j with
  | zero =>
    intro i c hi hc
    have e3 : (pB 90 N (4 * (26 * f + d)) i w).1 62 33 = nI (12 * h + f) := by rw [pB_out (by omega), e33]
    have e66 : (pB 90 N (4 * (26 * f + d)) i w).1 66 (12 * h + f) = nI (P 9 f) := by rw [pB_out (by omega)]; exact (hp.2.2.2.2.2 f hf).2.1.1
    obtain rfl : i = P 9 f := by omega
    refine ⟨c, hc, ⟨fun z => ⟨z, .inr (fun m h1 h2 => by omega)⟩, fun z => z.1⟩, ?_⟩
    unfold fX11_renewed_65
    refine lp_out ?_
    unfold gX11_renewed_65
    rcases (show c = 0 ∨ c = 1 by omega) with rfl | rfl
    · simp (disch := omega) only [e3, e66, bt0, k_iT, k_iF, Bool.false_eq_true, eq_self, Nat.add_zero, k_lt', k_bs, k_T, k_F, k_inb, k_ck, k_nz, ↓kN, kL, k_lt, k_le, k_eq, kn_le, kn_lt, kn_eq, kn_le', kn_lt', kn_eq', nI_clamp, nI_add, k_sub, k_mul, k_div, rd_hi, rd_mi, rd_hl, rd_ml, rd_hr, rd_mr, rd_si2, rd_sl1, rd_sl2, rd_sr1, rd_sr2]
    · simp (disch := omega) only [e3, e66, bt1, k_iT, k_iF, Bool.false_eq_true, eq_self, Nat.add_zero, k_lt', k_bs, k_T, k_F, k_inb, k_ck, k_nz, ↓kN, kL, k_lt, k_le, k_eq, kn_le, kn_lt, kn_eq, kn_le', kn_lt', kn_eq', nI_clamp, nI_add, k_sub, k_mul, k_div, rd_hi, rd_mi, rd_hl, rd_ml, rd_hr, rd_mr, rd_si2, rd_sl1, rd_sl2, rd_sr1, rd_sr2]
  | succ j ih =>
    intro i c hi hc
    have e3 : (pB 90 N (4 * (26 * f + d)) i w).1 62 33 = nI (12 * h + f) := by rw [pB_out (by omega), e33]
    have e66 : (pB 90 N (4 * (26 * f + d)) i w).1 66 (12 * h + f) = nI (P 9 f) := by rw [pB_out (by omega)]; exact (hp.2.2.2.2.2 f hf).2.1.1
    have e88 : (pB 90 N (4 * (26 * f + d)) i w).1 88 i = N.1 88 i := by rw [pB_out (by omega)]
    have e90 : (pB 90 N (4 * (26 * f + d)) i w).1 90 (4 * (26 * f + d) + i) = N.1 90 (4 * (26 * f + d) + i) := by rw [pB_out (by omega)]
    obtain ⟨w0, w1⟩ := hw i (by omega)
    have step : ∃ c1, c1 ≤ 1 ∧ (c1 = 0 ↔ c = 0 ∧ (fl = 1 ∨ N.1 90 (4 * (26 * f + d) + i) = nI (w i))) ∧ gX11_renewed_65 (nI (26 * f + d)) (nI fl) (nI c) (nI i) (pB 90 N (4 * (26 * f + d)) i w) = some (.inl (nI (26 * f + d), nI fl, nI c1, nI (i + 1)), pB 90 N (4 * (26 * f + d)) (i + 1) w) := by
      rw [← pB_s]
      rcases (show fl = 0 ∨ fl = 1 by omega) with rfl | rfl
      · have ew := w0 rfl
        by_cases c0 : c = 0
        · by_cases eq : N.1 90 (4 * (26 * f + d) + i) = nI (w i)
          · have eq' : (N.1 90 (4 * (26 * f + d) + i) = nI (w i)) = True := eq_true eq
            refine ⟨0, by omega, ⟨fun _ => ⟨c0, .inr eq⟩, fun _ => rfl⟩, ?_⟩
            unfold gX11_renewed_65 fX11_renewed_95 fX11_renewed_127 fX11_renewed_128
            simp (disch := omega) only [e3, e66, e88, ew, c0, e90, eq', k_iT, k_iF, Bool.false_eq_true, eq_self, Nat.add_zero, k_lt', k_bs, k_T, k_F, k_inb, k_ck, k_nz, ↓kN, kL, k_lt, k_le, k_eq, kn_le, kn_lt, kn_eq, kn_le', kn_lt', kn_eq', nI_clamp, nI_add, k_sub, k_mul, k_div, rd_hi, rd_mi, rd_hl, rd_ml, rd_hr, rd_mr, rd_si2, rd_sl1, rd_sl2, rd_sr1, rd_sr2]
          · have eq' : (N.1 90 (4 * (26 * f + d) + i) = nI (w i)) = False := eq_false eq
            refine ⟨1, by omega, ⟨fun z => by omega, fun z => ?_⟩, ?_⟩
            · rcases z.2 with z | z
              · omega
              · exact absurd z eq
            unfold gX11_renewed_65 fX11_renewed_95 fX11_renewed_123 fX11_renewed_128
            simp (disch := omega) only [e3, e66, e88, ew, c0, e90, eq', k_iT, k_iF, Bool.false_eq_true, eq_self, Nat.add_zero, k_lt', k_bs, k_T, k_F, k_inb, k_ck, k_nz, ↓kN, kL, k_lt, k_le, k_eq, kn_le, kn_lt, kn_eq, kn_le', kn_lt', kn_eq', nI_clamp, nI_add, k_sub, k_mul, k_div, rd_hi, rd_mi, rd_hl, rd_ml, rd_hr, rd_mr, rd_si2, rd_sl1, rd_sl2, rd_sr1, rd_sr2]
        · refine ⟨1, by omega, ⟨fun z => by omega, fun z => absurd z.1 c0⟩, ?_⟩
          unfold gX11_renewed_65 fX11_renewed_95 fX11_renewed_123 fX11_renewed_128
          simp (disch := omega) only [e3, e66, e88, ew, k_iT, k_iF, Bool.false_eq_true, eq_self, Nat.add_zero, k_lt', k_bs, k_T, k_F, k_inb, k_ck, k_nz, ↓kN, kL, k_lt, k_le, k_eq, kn_le, kn_lt, kn_eq, kn_le', kn_lt', kn_eq', nI_clamp, nI_add, k_sub, k_mul, k_div, rd_hi, rd_mi, rd_hl, rd_ml, rd_hr, rd_mr, rd_si2, rd_sl1, rd_sl2, rd_sr1, rd_sr2]
      · have ew := w1 rfl
        by_cases c0 : c = 0
        · refine ⟨0, by omega, ⟨fun _ => ⟨c0, .inl rfl⟩, fun _ => rfl⟩, ?_⟩
          unfold gX11_renewed_65 fX11_renewed_95 fX11_renewed_127 fX11_renewed_128
          simp (disch := omega) only [e3, e66, ew, c0, k_iT, k_iF, Bool.false_eq_true, eq_self, Nat.add_zero, k_lt', k_bs, k_T, k_F, k_inb, k_ck, k_nz, ↓kN, kL, k_lt, k_le, k_eq, kn_le, kn_lt, kn_eq, kn_le', kn_lt', kn_eq', nI_clamp, nI_add, k_sub, k_mul, k_div, rd_hi, rd_mi, rd_hl, rd_ml, rd_hr, rd_mr, rd_si2, rd_sl1, rd_sl2, rd_sr1, rd_sr2]
        · refine ⟨1, by omega, ⟨fun z => by omega, fun z => absurd z.1 c0⟩, ?_⟩
          unfold gX11_renewed_65 fX11_renewed_95 fX11_renewed_123 fX11_renewed_128
          simp (disch := omega) only [e3, e66, ew, k_iT, k_iF, Bool.false_eq_true, eq_self, Nat.add_zero, k_lt', k_bs, k_T, k_F, k_inb, k_ck, k_nz, ↓kN, kL, k_lt, k_le, k_eq, kn_le, kn_lt, kn_eq, kn_le', kn_lt', kn_eq', nI_clamp, nI_add, k_sub, k_mul, k_div, rd_hi, rd_mi, rd_hl, rd_ml, rd_hr, rd_mr, rd_si2, rd_sl1, rd_sl2, rd_sr1, rd_sr2]
    obtain ⟨c1, hc1, ic1, E1⟩ := step
    obtain ⟨c2, hc2, ic2, E2⟩ := ih (i + 1) c1 (by omega) hc1
    refine ⟨c2, hc2, ?_, ?_⟩
    · rw [ic2, ic1]
      refine ⟨fun z => ⟨z.1.1, ?_⟩, fun z => ⟨⟨z.1, ?_⟩, ?_⟩⟩
      · rcases z.1.2 with y | y
        · exact .inl y
        · rcases z.2 with x | x
          · exact .inl x
          · refine .inr (fun m h1 h2 => ?_)
            by_cases e : m = i
            · rw [e]; exact y
            · exact x m (by omega) h2
      · rcases z.2 with x | x
        · exact .inl x
        · exact .inr (x i (Nat.le_refl _) (by omega))
      · rcases z.2 with x | x
        · exact .inl x
        · exact .inr (fun m h1 h2 => x m (by omega) h2)
    · unfold fX11_renewed_65 at E2 ⊢
      exact Eq.trans (lp_go E1) E2
theorem r_new (hs : rT b h P F ND R M N) (hf : f < F) (h0 : 0 < d) (hd : d < dem (P 11 f)) : ∃ N' ch, fX11_renewed (nI f) (nI d) N = some (nI ch, N') ∧ ch ≤ 1 ∧ (ch = 0 ↔ rsame (P 9 f) (R f d) (bE P R f d)) ∧ rT b h P F ND (upR R f d (bE P R f d)) M N' := by
  have wf := hs.1.2.2.2 f hf
  have hF := hs.1.2.1
  have hh := hs.2.2.1.2.1
  have hdm := dem_le (t := P 11 f)
  have hp := wf.1
  have e47 := hs.2.2.2.1
  have hs1 := rT_si (p := 33) (v := nI (12 * h + f)) hs (by omega)
  have a1 := rT_aS hs1 hf (by simp (disch := omega) only [rd_hi, rd_mi, rd_hl, rd_ml, rd_hr, rd_mr, rd_si2, rd_sl1, rd_sl2, rd_sr1, rd_sr2])
  have e68 := (a1.2.2.2.1.2.2.2.2.2 f hf).2.1.2.2.2
  obtain ⟨N5, fl, E5, hfl, F5, hn, hsm⟩ := r_asks a1 h0 hd
  have a5 := aS_F a1 F5
  have e91 : N5.1 91 (26 * f + d) = N.1 91 (26 * f + d) := (F5.2 91 _ (by unfold aC; omega)).trans (by simp (disch := omega) only [rd_hi, rd_mi, rd_hl, rd_ml, rd_hr, rd_mr, rd_si2, rd_sl1, rd_sl2, rd_sr1, rd_sr2])
  have e5_47 : N5.1 62 47 = nI h := (F5.2 62 47 (by unfold aC; omega)).trans (by simp (disch := omega) only [rd_hi, rd_mi, rd_hl, rd_ml, rd_hr, rd_mr, rd_si2, rd_sl1, rd_sl2, rd_sr1, rd_sr2]; exact e47)
  have bok := bE_ok hs.1 hs.2.1 hf h0 hd
  have ev : vp_nar .boolean (nI fl) = nI fl := by
    rcases (show fl = 0 ∨ fl = 1 by omega) with rfl | rfl
    · exact vp0
    · exact vp1
  -- what is written
  have hwx : ∃ w : Nat → Nat, (∀ k, k < P 9 f → w k < 26 ∧ (fl = 0 → N5.1 88 k = nI (w k)) ∧ (fl = 1 → w k = 0)) ∧ ∀ x, bE P R f d = some x → ∀ k, k < P 9 f → w k = x k := by
    cases hB : bE P R f d with
    | none =>
      have := hn hB
      exact ⟨fun _ => 0, fun k hk => ⟨show (0 : Nat) < 26 by omega, fun z => (by omega), fun _ => rfl⟩, fun x z => by cases z⟩
    | some x =>
      obtain ⟨e0, e1⟩ := hsm x hB
      refine ⟨x, fun k hk => ⟨?_, fun _ => e1 k (by omega), fun z => by omega⟩, fun x' z k _ => by cases z; rfl⟩
      have : x k < dem (P 13 (16 * f + k)) := bok x hB k hk
      have := dem_le (t := P 13 (16 * f + k))
      omega
  obtain ⟨w, hw, hwx⟩ := hwx
  have p8 : PR b h P F ND M (mv_si N5 91 (26 * f + d) (nI fl)) := PR_F a5.2.2.2.1 (fun _ _ _ _ => rfl) (fun c k u1 u2 => by simp (disch := omega) only [rd_hi, rd_mi, rd_hl, rd_ml, rd_hr, rd_mr, rd_si2, rd_sl1, rd_sl2, rd_sr1, rd_sr2])
  have K := r_65 hs.1 hf p8 (by simp (disch := omega) only [rd_hi, rd_mi, rd_hl, rd_ml, rd_hr, rd_mr, rd_si2, rd_sl1, rd_sl2, rd_sr1, rd_sr2]; exact a5.2.2.2.2.1) hfl (show d < 26 by omega) (fun k hk => ⟨fun z => by simp (disch := omega) only [rd_hi, rd_mi, rd_hl, rd_ml, rd_hr, rd_mr, rd_si2, rd_sl1, rd_sl2, rd_sr1, rd_sr2]; exact (hw k hk).2.1 z, (hw k hk).2.2⟩) (P 9 f) 0
  have fin : ∃ ch, fX11_renewed (nI f) (nI d) N = some (nI ch, pB 90 (mv_si N5 91 (26 * f + d) (nI fl)) (4 * (26 * f + d)) (P 9 f) w) ∧ ch ≤ 1 ∧ (ch = 0 ↔ N5.1 91 (26 * f + d) = nI fl ∧ (fl = 1 ∨ ∀ m, m < P 9 f → N5.1 90 (4 * (26 * f + d) + m) = nI (w m))) := by
    have r90 : ∀ m, (mv_si N5 91 (26 * f + d) (nI fl)).1 90 (4 * (26 * f + d) + m) = N5.1 90 (4 * (26 * f + d) + m) := fun m => by simp (disch := omega) only [rd_hi, rd_mi, rd_hl, rd_ml, rd_hr, rd_mr, rd_si2, rd_sl1, rd_sl2, rd_sr1, rd_sr2]
    by_cases eq : N5.1 91 (26 * f + d) = nI fl
    · obtain ⟨c', c1, c2, c3⟩ := K 0 (by omega) (by omega)
      rw [pB_0] at c3
      have eq' : (nI fl = N5.1 91 (26 * f + d)) = True := eq_true eq.symm
      refine ⟨c', ?_, c1, ?_⟩
      · unfold fX11_renewed fX11_renewed_52
        simp (disch := omega) only [e47, e68, E5, eq', ev, k_iT, k_iF, Bool.false_eq_true, eq_self, Nat.add_zero, k_lt', k_bs, k_T, k_F, k_inb, k_ck, k_nz, ↓kN, kL, k_lt, k_le, k_eq, kn_le, kn_lt, kn_eq, kn_le', kn_lt', kn_eq', nI_clamp, nI_add, k_sub, k_mul, k_div, rd_hi, rd_mi, rd_hl, rd_ml, rd_hr, rd_mr, rd_si2, rd_sl1, rd_sl2, rd_sr1, rd_sr2]
        exact c3
      · rw [c2]
        refine ⟨fun z => ⟨eq, z.2.elim .inl (fun y => .inr (fun m hm => (r90 m).symm.trans (y m (by omega) hm)))⟩, fun z => ⟨rfl, z.2.elim .inl (fun y => .inr (fun m _ hm => (r90 m).trans (y m hm)))⟩⟩
    · obtain ⟨c', c1, c2, c3⟩ := K 1 (by omega) (by omega)
      rw [pB_0] at c3
      have eq' : (nI fl = N5.1 91 (26 * f + d)) = False := eq_false (fun z => eq z.symm)
      refine ⟨c', ?_, c1, ?_⟩
      · unfold fX11_renewed fX11_renewed_52
        simp (disch := omega) only [e47, e68, E5, eq', ev, k_iT, k_iF, Bool.false_eq_true, eq_self, Nat.add_zero, k_lt', k_bs, k_T, k_F, k_inb, k_ck, k_nz, ↓kN, kL, k_lt, k_le, k_eq, kn_le, kn_lt, kn_eq, kn_le', kn_lt', kn_eq', nI_clamp, nI_add, k_sub, k_mul, k_div, rd_hi, rd_mi, rd_hl, rd_ml, rd_hr, rd_mr, rd_si2, rd_sl1, rd_sl2, rd_sr1, rd_sr2]
        exact c3
      · rw [c2]
        exact ⟨fun z => by omega, fun z => absurd z.1 eq⟩
  obtain ⟨ch, E, c1, c2⟩ := fin
  have rr := a5.2.2.2.2.2 f hf d h0 hd
  refine ⟨_, ch, E, c1, ?_, hs.1, rOK_up hs.1 hs.2.1 hf h0 hd, PR_F p8 (fun _ _ _ _ => rfl) (fun c k u1 u2 => pB_out (by omega)), ?_, ?_⟩
  · rw [c2]
    cases hR : R f d with
    | none =>
      have q1 := rr.1 hR
      cases hB : bE P R f d with
      | none =>
        have := hn hB
        subst this
        exact ⟨fun _ => .inl ⟨rfl, rfl⟩, fun _ => ⟨q1, .inl rfl⟩⟩
      | some x =>
        have := (hsm x hB).1
        subst this
        refine ⟨fun z => ?_, fun z => ?_⟩
        · rw [q1, nI_inj26 (by omega) (by omega)] at z; omega
        · rcases z with ⟨_, z⟩ | ⟨_, _, z, _⟩ <;> cases z
    | some r =>
      obtain ⟨q1, q2⟩ := rr.2 r hR
      cases hB : bE P R f d with
      | none =>
        have := hn hB
        subst this
        refine ⟨fun z => ?_, fun z => ?_⟩
        · rw [q1, nI_inj26 (by omega) (by omega)] at z; omega
        · rcases z with ⟨z, _⟩ | ⟨_, _, _, z, _⟩ <;> cases z
      | some x =>
        have e0 := (hsm x hB).1
        have e1 := hwx x hB
        subst e0
        have b26 : ∀ m, m < P 9 f → r m < 26 := fun m hm => by
          have := hs.2.1 f hf d h0 hd r hR m hm
          have := dem_le (t := P 13 (16 * f + m))
          omega
        refine ⟨fun z => .inr ⟨r, x, rfl, rfl, fun m hm => ?_⟩, fun z => ⟨q1, .inr (fun m hm => ?_)⟩⟩
        · rcases z.2 with y | y
          · omega
          · have := y m hm
            rw [q2 m hm, nI_inj26 (b26 m hm) (hw m hm).1] at this
            rw [this, e1 m hm]
        · rcases z with ⟨z, _⟩ | ⟨r', x', z1, z2, z3⟩
          · cases z
          · cases z1; cases z2
            rw [q2 m hm, z3 m hm, e1 m hm]
  · rw [pB_out (by omega)]
    simp (disch := omega) only [rd_hi, rd_mi, rd_hl, rd_ml, rd_hr, rd_mr, rd_si2, rd_sl1, rd_sl2, rd_sr1, rd_sr2]
    exact e5_47
  · intro q hq e h0' he
    have he' := dem_le (t := P 11 q)
    have hpq := (hs.1.2.2.2 q hq).1
    by_cases eq : q = f ∧ e = d
    · obtain ⟨rfl, rfl⟩ := eq
      unfold upR
      rw [if_pos ⟨rfl, rfl⟩]
      refine ⟨fun z => ?_, fun x z => ?_⟩
      · have := hn z
        subst this
        rw [pB_out (by omega)]; simp (disch := omega) only [rd_hi, rd_mi, rd_hl, rd_ml, rd_hr, rd_mr, rd_si2, rd_sl1, rd_sl2, rd_sr1, rd_sr2]
      · have e0 := (hsm x z).1
        subst e0
        refine ⟨by rw [pB_out (by omega)]; simp (disch := omega) only [rd_hi, rd_mi, rd_hl, rd_ml, rd_hr, rd_mr, rd_si2, rd_sl1, rd_sl2, rd_sr1, rd_sr2], fun m hm => ?_⟩
        rw [pB_in hm, hwx x z m hm]
    · unfold upR
      rw [if_neg eq]
      obtain ⟨r1, r2⟩ := a5.2.2.2.2.2 q hq e h0' he
      have g91 : (pB 90 (mv_si N5 91 (26 * f + d) (nI fl)) (4 * (26 * f + d)) (P 9 f) w).1 91 (26 * q + e) = N5.1 91 (26 * q + e) := by
        rw [pB_out (by omega), rd_mi (by omega)]
      have g90 : ∀ k, k < P 9 q → (pB 90 (mv_si N5 91 (26 * f + d) (nI fl)) (4 * (26 * f + d)) (P 9 f) w).1 90 (4 * (26 * q + e) + k) = N5.1 90 (4 * (26 * q + e) + k) := fun k hk => by
        rw [pB_out (by omega), rd_mi (by omega)]
      exact ⟨fun z => g91.trans (r1 z), fun r z => ⟨g91.trans (r2 r z).1, fun k hk => (g90 k hk).trans ((r2 r z).2 k hk)⟩⟩
end RR
