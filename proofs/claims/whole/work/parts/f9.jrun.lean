/-! run, on both sides -/
def iN (n : Nat) (K : Nat → Nat) (V : Nat → Int32) (M N : mv_M) : Prop := n ≤ 40 ∧ M.1 6 0 = nI n ∧ N.1 62 55 = nI n ∧ ∀ i, i < n → K i ≤ 2 ∧ (M.1 48 i = nI (K i) ∧ M.1 49 i = V i) ∧ N.1 92 i = nI (K i) ∧ N.1 93 i = V i
section RN1
variable {b h F ND n m pr cl q t st mx dp dd kp d e i k x g A : Nat} {P : Nat → Nat → Nat} {it sc sp ff K ty : Nat → Nat} {V : Nat → Int32} {M N M' N' : mv_M} {Z : Nat → Nat → Prop} {v w a a1 a2 x5 : Int32}
theorem jr_bind {α σ τ : Type} {o : Option (α × mv_M)} {f : α → mv_M → Option (τ × mv_M)} : mv_bind o (fun r M => (mv_inr (f r M) : Option ((σ ⊕ τ) × mv_M))) = mv_inr (mv_bind o f) := by
  cases o with
  | none => rfl
  | some r => rfl
theorem jr_if {σ τ : Type} {c : Prop} [Decidable c] {x y : Option (τ × mv_M)} : (if c then (mv_inr x : Option ((σ ⊕ τ) × mv_M)) else mv_inr y) = mv_inr (if c then x else y) := by
  split <;> rfl
theorem jr_chk {σ τ : Type} {c : Bool} {x : Option (τ × mv_M)} : mv_chk c (mv_inr x : Option ((σ ⊕ τ) × mv_M)) = mv_inr (mv_chk c x) := by
  cases c <;> rfl
/-- the reference's counters set anew -/
def rS0 (N : mv_M) (mx q : Nat) : mv_M := mv_si (mv_si (mv_si (mv_si (mv_si (mv_si (mv_si (mv_si (mv_si (mv_si (mv_si (mv_si N 62 55 (nI 0)) 62 67 (nI 0)) 62 68 (nI 0)) 62 69 (nI 0)) 62 70 (nI 0)) 62 71 (nI mx)) 62 72 (nI 0)) 62 73 (nI 0)) 62 74 (nI 0)) 62 75 (nI q)) 62 82 (nI 0)) 62 36 (nI 0)
theorem r_144 (hg : g < 24) (e66 : N.1 66 g = nI A) : fX11_run_144 (nI q) a1 (nI mx) (nI g) x5 (nI A) N = rT2 (nI g) a1 (pT (rS0 N mx q) 0 (nI 1) (N.1 68 g) (nI 0)) := by
  unfold fX11_run_144
  refine lp_inr ?_
  show gX11_run_144 (nI q) a1 (nI mx) (nI g) x5 (nI A) N = _
  unfold gX11_run_144
  rw [k_inb hg (by omega), k_ck, nI_clamp (by omega), e66, if_pos (Int32.le_refl _), k_lt', k_lt', k_lt', k_lt', k_lt', k_lt', k_lt', k_lt', k_lt', k_lt', k_lt', k_lt', k_ck]
  have e : (mv_si (mv_si (mv_si (mv_si (mv_si (mv_si (mv_si (mv_si (mv_si (mv_si (mv_si (mv_si N 62 55 0) 62 67 0) 62 68 0) 62 69 0) 62 70 0) 62 71 (nI mx)) 62 72 0) 62 73 0) 62 74 0) 62 75 (nI q)) 62 82 0) 62 36 0) = rS0 N mx q := rfl
  rw [e, r_task (t := 0) (by unfold rS0; simp (disch := omega) only [rd_hi, rd_mi, rd_hl, rd_ml, rd_hr, rd_mr, rd_si2, rd_sl1, rd_sl2, rd_sr1, rd_sr2]) (by omega), k_bs, show (rS0 N mx q).1 68 g = N.1 68 g by unfold rS0; simp (disch := omega) only [rd_hi, rd_mi, rd_hl, rd_ml, rd_hr, rd_mr, rd_si2, rd_sl1, rd_sl2, rd_sr1, rd_sr2]]
  show _ = mv_inr (rT2 (nI g) a1 (pT (rS0 N mx q) 0 1 (N.1 68 g) 0))
  generalize pT (rS0 N mx q) 0 1 (N.1 68 g) 0 = X
  unfold rT2
  rw [k_inb hg (by omega), ← jr_bind]
  congr 1
  funext _ M29
  rw [k_lt', k_lt', k_lt', k_lt', nI_clamp (by omega), ← jr_if, k_ck, k_ck, ← jr_bind]
  congr 2
  funext _ M33
  exact jr_bind
theorem c_start (M : mv_M) : ∃ Mc, fX2_start b (nI q) (nI mx) M = fX2_start_25 (nI q) (nI 0) (nI 0) Mc ∧ (∀ a p, a ≠ 7 → a ≠ 8 → Mc.1 a p = M.1 a p) ∧ Mc.2.2 7 6 = some b ∧ (Mc.1 8 0 = nI 0 ∧ Mc.1 8 1 = nI 0 ∧ Mc.1 7 1 = nI q ∧ Mc.1 7 2 = nI 0 ∧ Mc.1 7 3 = nI 0 ∧ Mc.1 7 4 = nI 0 ∧ Mc.1 7 5 = nI 0 ∧ Mc.1 7 7 = nI mx ∧ Mc.1 7 8 = nI 0) := by
  refine ⟨mv_si (mv_si (mv_sr (mv_si (mv_si (mv_si (mv_si (mv_si (mv_si (mv_si (mv_si M 8 0 (nI 0)) 8 1 (nI 0)) 7 1 nN) 7 2 (nI 0)) 7 3 (nI 0)) 7 4 (nI 0)) 7 5 (nI 0)) 7 8 (nI 0)) 7 6 (some b)) 7 1 (nI q)) 7 7 (nI mx), rfl, fun a p u1 u2 => by simp (disch := omega) only [rd_hi, rd_mi, rd_hl, rd_ml, rd_hr, rd_mr, rd_si2, rd_sl1, rd_sl2, rd_sr1, rd_sr2], by simp (disch := omega) only [rd_hi, rd_mi, rd_hl, rd_ml, rd_hr, rd_mr, rd_si2, rd_sl1, rd_sl2, rd_sr1, rd_sr2], ⟨by simp (disch := omega) only [rd_hi, rd_mi, rd_hl, rd_ml, rd_hr, rd_mr, rd_si2, rd_sl1, rd_sl2, rd_sr1, rd_sr2], by simp (disch := omega) only [rd_hi, rd_mi, rd_hl, rd_ml, rd_hr, rd_mr, rd_si2, rd_sl1, rd_sl2, rd_sr1, rd_sr2], by simp (disch := omega) only [rd_hi, rd_mi, rd_hl, rd_ml, rd_hr, rd_mr, rd_si2, rd_sl1, rd_sl2, rd_sr1, rd_sr2], by simp (disch := omega) only [rd_hi, rd_mi, rd_hl, rd_ml, rd_hr, rd_mr, rd_si2, rd_sl1, rd_sl2, rd_sr1, rd_sr2], by simp (disch := omega) only [rd_hi, rd_mi, rd_hl, rd_ml, rd_hr, rd_mr, rd_si2, rd_sl1, rd_sl2, rd_sr1, rd_sr2], by simp (disch := omega) only [rd_hi, rd_mi, rd_hl, rd_ml, rd_hr, rd_mr, rd_si2, rd_sl1, rd_sl2, rd_sr1, rd_sr2], by simp (disch := omega) only [rd_hi, rd_mi, rd_hl, rd_ml, rd_hr, rd_mr, rd_si2, rd_sl1, rd_sl2, rd_sr1, rd_sr2], by simp (disch := omega) only [rd_hi, rd_mi, rd_hl, rd_ml, rd_hr, rd_mr, rd_si2, rd_sl1, rd_sl2, rd_sr1, rd_sr2], by simp (disch := omega) only [rd_hi, rd_mi, rd_hl, rd_ml, rd_hr, rd_mr, rd_si2, rd_sl1, rd_sl2, rd_sr1, rd_sr2]⟩⟩
theorem pI_s (hI : pI K V ty it sc sp n k M N) (e : ∀ a p, 97 ≤ a ∧ a ≤ 104 → N'.1 a p = N.1 a p) : pI K V ty it sc sp n k M N' := by
  obtain ⟨g1, g2, g3, g4, g5⟩ := hI
  refine ⟨g1, g2, fun x x1 x2 => ?_, fun x x1 x2 x3 => ?_, fun u hu => ?_⟩
  · obtain ⟨c1, c2, c3, c4⟩ := g3 x x1 x2
    exact ⟨(e _ _ (by omega)).trans c1, (e _ _ (by omega)).trans c2, (e _ _ (by omega)).trans c3, (e _ _ (by omega)).trans c4⟩
  · obtain ⟨c1, c2⟩ := g4 x x1 x2 x3
    exact ⟨(e _ _ (by omega)).trans c1, (e _ _ (by omega)).trans c2⟩
  · obtain ⟨c1, c2, c3, c4, c5⟩ := g5 u hu
    exact ⟨c1, c2, c3, (e _ _ (by omega)).trans c4, (e _ _ (by omega)).trans c5⟩
/-- a run's traces are kept by what does not touch them -/
theorem RN_s (hR : RN P F b q M N) (eM : ∀ a p, a = 7 ∨ a = 8 ∨ (50 ≤ a ∧ a ≤ 61) → M'.1 a p = M.1 a p) (e2 : M'.2.2 7 6 = M.2.2 7 6) (eN : ∀ a p, (a = 62 ∧ ((67 ≤ p ∧ p ≤ 70) ∨ p = 73 ∨ p = 75 ∨ p = 76 ∨ p = 79 ∨ p = 80)) ∨ (95 ≤ a ∧ a ≤ 104) → N'.1 a p = N.1 a p) : RN P F b q M' N' := by
  obtain ⟨e, m, ⟨h1, h2, h3, h4⟩, ⟨h5, h6, h7, h8⟩, h9, ⟨hA, hB, hC⟩, hD, hE, hF, hG, hH, hI⟩ := hR
  refine ⟨e, m, ⟨h1, (eM _ _ (by omega)).trans h2, (eN _ _ (by omega)).trans h3, e2.trans h4⟩, ⟨(eM _ _ (by omega)).trans h5, (eN _ _ (by omega)).trans h6, h7, h8⟩, ?_, ⟨(eM _ _ (by omega)).trans hA, (eN _ _ (by omega)).trans hB, hC⟩, ?_, ?_, ?_, fun k hk => ?_, fun u hu => ?_, fun z => ?_⟩
  · rw [eM _ _ (by omega), eN _ _ (by omega)]; exact h9
  · rw [eM _ _ (by omega), eN _ _ (by omega)]; exact hD
  · rw [eM _ _ (by omega), eN _ _ (by omega)]; exact hE
  · rw [eM _ _ (by omega), eN _ _ (by omega)]; exact hF
  · rw [eM _ _ (by omega), eN _ _ (by omega)]; exact hG k hk
  · obtain ⟨s, s1, s2, s3, s4⟩ := hH u hu
    exact ⟨s, s1, (eM _ _ (by omega)).trans s2, (eN _ _ (by omega)).trans s3, by rw [eM _ _ (by omega), eN _ _ (by omega)]; exact s4⟩
  · obtain ⟨it, n, m, pr, cl, ff, c1, c2, c3, c4⟩ := hI z
    have q1 : sM pr cl M M' := fun a p u => eM a p (by omega)
    have q2 : sN pr cl N N' := fun a p u => eN a p (by omega)
    refine ⟨it, n, m, pr, cl, ff, Cr_s q1 q2 c1, ?_, ?_, (eN _ _ (by omega)).trans c4⟩
    · rw [eM _ _ (by omega)]
      exact Ex_v (Ex_s (Z := fun _ _ => True) (ff := ff) (cl := cl) q1 q2) c2
    · rw [eM _ _ (by omega), eN _ _ (by omega)]; exact c3
theorem j_run (hW : WFp P F ND) (hs : WSc P F) (hp : PR b h P F ND M N) (e45 : N.1 62 45 ≠ 0) (e47 : N.1 62 47 = nI h) (e07 : M.2.2 0 7 = some b) (hi : iN n K V M N) (a a1 a2 : Int32) :
    (∃ q e M' N', q < F ∧ fX10_run a a1 a2 M = some (.inl (nI e), M') ∧ fX11_run a a1 a2 N = some (nI e, N') ∧ N'.1 62 0 = nI 0 ∧ RN P F b q M' N' ∧ M'.1 6 0 = nI 0 ∧ N'.1 62 55 = nI 0)
    ∨ (∃ N', fX10_run a a1 a2 M = some (.inr mv_e3, M) ∧ fX11_run a a1 a2 N = some (nI 0, N') ∧ N'.1 62 0 = nI 2 ∧ N'.2 = N.2 ∧ ∀ c k, c ≠ 94 → ¬ (c = 62 ∧ k = 0) → N'.1 c k = N.1 c k)
    ∨ (∃ N', fX10_run a a1 a2 M = some (.inr mv_e2, M) ∧ fX11_run a a1 a2 N = some (nI 0, N') ∧ N'.1 62 0 = nI 3 ∧ N'.2 = N.2 ∧ ∀ c k, c ≠ 94 → ¬ (c = 62 ∧ k = 0) → N'.1 c k = N.1 c k) := by
  have hF := hW.2.1
  have hF0 := hW.1
  have hb := hp.1
  have hh := hp.2.1
  obtain ⟨hn, e6, e55, hK⟩ := hi
  have gp := fun {γ : Type} (G : Nat → Option γ) => g07 (γ := γ) hb e07 G
  have hKc : ∀ i, i < n → K i ≤ 2 ∧ M.1 48 i = nI (K i) := fun i hi => ⟨(hK i hi).1, (hK i hi).2.1.1⟩
  have hKr : ∀ i, i < n → K i ≤ 2 ∧ N.1 92 i = nI (K i) := fun i hi => ⟨(hK i hi).1, (hK i hi).2.2.1⟩
  -- the reference up to its decision
  obtain ⟨q0, hq0, N1, R1, R2, R3, hq0a⟩ : ∃ q0, q0 < F ∧ ∃ N1, fX11_run a a1 a2 N = fX11_run_75 a a1 a2 (nI (12 * h + q0)) (bi (ft K n (fun k => P 13 (16 * q0 + k)) (P 9 q0) 0 (some 0))) N1 ∧ N1.2 = N.2 ∧ (∀ c k, c ≠ 94 → N1.1 c k = N.1 c k) ∧ ∀ q, q < F → a = nI q → q0 = q := by
    rcases i_fn hp hF0 hF e45 e47 a with ⟨q, h1, rfl, h3, _⟩ | ⟨h1, h2⟩
    · obtain ⟨N1, u1, u2, u3⟩ := r_fit (K := K) (a := nI q) (a1 := a1) (a2 := a2) hW h1 hn (P 9 q) 0 (some 0) N (by omega) (fun j hj => by cases hj; omega) hp e45 e55 hKr
      refine ⟨q, h1, N1, ?_, u2, u3, fun q' hq' e => by rw [k_eq (by omega) (by omega)] at e; exact e⟩
      unfold fX11_run fX11_run_20
      rw [h3, k_bs, if_neg (by decide), k_lt', e47, show (12 : Int32) * nI h + nI q = nI (12 * h + q) by rw [show (12 : Int32) = nI 12 from rfl, k_mul, nI_add]]
      exact u1
    · obtain ⟨N1, u1, u2, u3⟩ := r_fit (K := K) (a := a) (a1 := a1) (a2 := a2) hW hF0 hn (P 9 0) 0 (some 0) N (by omega) (fun j hj => by cases hj; omega) hp e45 e55 hKr
      refine ⟨0, hF0, N1, ?_, u2, u3, fun q' hq' e => ?_⟩
      · unfold fX11_run fX11_run_20
        rw [h1, k_bs, if_pos (by decide), k_lt', e47, show (12 : Int32) * nI h + 0 = nI (12 * h + 0) by rw [show (12 : Int32) = nI 12 from rfl, k_mul, show (0 : Int32) = nI 0 from rfl, nI_add]]
        exact u1
      · subst e
        exfalso
        have z : fX4_hasFunction b (nI q') M = some (1, M) := by
          unfold fX4_hasFunction
          simp (disch := omega) only [↓reduceIte, hp.2.2.1, k_iT, k_iF, Bool.false_eq_true, eq_self, Nat.add_zero, k_lt', k_bs, k_T, k_F, k_inb, k_ck, k_nz, ↓kN, kL, k_lt, k_le, k_eq, kn_le, kn_lt, kn_eq, kn_le', kn_lt', kn_eq', nI_clamp, nI_add, k_sub, k_mul, k_div, rd_hi, rd_mi, rd_hl, rd_ml, rd_hr, rd_mr, rd_si2, rd_sl1, rd_sl2, rd_sr1, rd_sr2]
        rw [h2] at z
        injection z with z
        injection z with z
        exact absurd z (by decide)
  have e45' : ¬ N1.1 62 45 = 0 := by rw [R3 _ _ (by omega)]; exact e45
  have hp1 : PR b h P F ND M N1 := PR_F hp (fun _ _ _ _ => rfl) (fun c k u1 u2 => R3 c k (by omega))
  have e47' : N1.1 62 47 = nI h := (R3 _ _ (by omega)).trans e47
  have hFn : ¬ M.1 b 0 = 0 := by rw [hp.2.2.1, kM, k_eq (by omega) (by omega)]; omega
  have c0 : fX10_run a a1 a2 M = mv_bindx (fX10_requireRow a a1 M) fun _ M2 => if a2 < 0 then fX10_run_37 M2 else if a2 ≤ 20000 then mv_getp (M2.2.2 0 7) fun b3 => mv_bind (fX1_fit b3 a M2) fun r4 M5 => if r4 = 0 then some (.inr "java/lang/IllegalArgumentException", M5) else mv_getp (M5.2.2 0 7) fun b6 => mv_bind (fX2_start b6 a a2 M5) fun _ M7 => mv_bind (fX2_perform a1 M7) fun _ M8 => mv_let (mv_si M8 6 0 0) fun M9 => some (.inl (M9.1 7 2), M9) else fX10_run_37 M2 := by
    unfold fX10_run
    rw [gp, if_neg hFn]
  rcases i_row hW hp1 e45' e47' e07 a a1 with ⟨q, d, h1, h2, h3, rfl, rfl, h6, h7⟩ | ⟨h6, h7⟩
  · obtain rfl := hq0a q h1 rfl
    rw [h7, bx_l] at c0
    have r0 : fX11_run (nI q0) (nI d) a2 N = mv_bind (fX11_within (a2.toInt64) 0 20000 N1) fun r11 M12 => if r11 = 0 then fX11_run_121 (nI q0) (nI d) a2 (nI (12 * h + q0)) M12 else if (bi (ft K n (fun k => P 13 (16 * q0 + k)) (P 9 q0) 0 (some 0))) = (M12.1 62 55) then fX11_run_126 (nI q0) (nI d) a2 (nI (12 * h + q0)) 0 M12 else fX11_run_121 (nI q0) (nI d) a2 (nI (12 * h + q0)) M12 := by
      rw [R1]
      unfold fX11_run_75
      rw [if_neg e45', h6, k_bs, if_neg (by decide)]
    have bad : ∀ X : mv_M, (∀ c k, c ≠ 94 → X.1 c k = N.1 c k) → X.2 = N.2 → ∃ N', fX11_run_121 (nI q0) (nI d) a2 (nI (12 * h + q0)) X = some (nI 0, N') ∧ N'.1 62 0 = nI 3 ∧ N'.2 = N.2 ∧ ∀ c k, c ≠ 94 → ¬ (c = 62 ∧ k = 0) → N'.1 c k = N.1 c k := by
      intro X u1 u2
      refine ⟨mv_si X 62 0 (nI 3), ?_, by simp (disch := omega) only [rd_hi, rd_mi, rd_hl, rd_ml, rd_hr, rd_mr, rd_si2, rd_sl1, rd_sl2, rd_sr1, rd_sr2], u2, fun c k z1 z2 => by rw [rd_mi (by omega)]; exact u1 c k z1⟩
      unfold fX11_run_121 fX11_run_126
      simp (disch := omega) only [↓reduceIte, k_iT, k_iF, Bool.false_eq_true, eq_self, Nat.add_zero, k_lt', k_bs, k_T, k_F, k_inb, k_ck, k_nz, ↓kN, kL, k_lt, k_le, k_eq, kn_le, kn_lt, kn_eq, kn_le', kn_lt', kn_eq', nI_clamp, nI_add, k_sub, k_mul, k_div, rd_hi, rd_mi, rd_hl, rd_ml, rd_hr, rd_mr, rd_si2, rd_sl1, rd_sl2, rd_sr1, rd_sr2]
    have wi := i_wi (M := N1) a2 0 20000
    have wT : (0 : Int32) ≤ a2 ∧ a2 ≤ 20000 → fX11_within (a2.toInt64) 0 20000 N1 = some (1, N1) := wi.1
    have wF : ¬ ((0 : Int32) ≤ a2 ∧ a2 ≤ 20000) → fX11_within (a2.toInt64) 0 20000 N1 = some (0, N1) := wi.2
    rcases i_cs a2 (n := 20001) (by omega) with ⟨mx, m1, rfl⟩ | z | ⟨z1, z2⟩
    · -- so many steps
      rw [if_neg (by rw [kM, k_lt (by omega) (by omega)]; omega), if_pos (by rw [kM, k_le (by omega) (by omega)]; omega), gp] at c0
      rw [wT ⟨by rw [kM, k_le (by omega) (by omega)]; omega, by rw [kM, k_le (by omega) (by omega)]; omega⟩, k_bs, if_neg (by decide), R3 _ _ (by omega), e55] at r0
      obtain ⟨v, v1, v2, v3⟩ := c_fit hW hp h1 hn e6 hKc
      rw [v2, k_bs] at c0
      by_cases hv : v = 1
      · -- they fit
        have hft := v3.1 hv
        subst hv
        rw [if_neg (by decide), gp] at c0
        rw [hft, if_pos (show bi (some n) = nI n from rfl)] at r0
        obtain ⟨Mc, s1, s2, s3, sA, sB, sC, sD, sE, sF, sG, sH, sI⟩ := c_start (b := b) (q := q0) (mx := mx) M
        have hpc : PR b h P F ND Mc (mv_si N1 62 0 0) := PR_F hp1 (fun c k u1 u2 => s2 c k (by omega) (by omega)) (fun c k u1 u2 => by simp (disch := omega) only [rd_hi, rd_mi, rd_hl, rd_ml, rd_hr, rd_mr, rd_si2, rd_sl1, rd_sl2, rd_sr1, rd_sr2])
        obtain ⟨M', N', it, sc, sp, o1, o2, ⟨⟨o3, o4⟩, o5, o6⟩, o7⟩ := j_start (a := nI q0) (a1 := nI d) (a2 := nI mx) (V := V) hW h1 hn (fun x hx => (hK x hx).1) (P 9 q0) 0 0 (fun _ => 0) (fun _ => 0) (fun _ => 0) Mc (mv_si N1 62 0 0) (by omega) (by omega) hft hpc s3 ((s2 _ _ (by omega) (by omega)).trans e6) (by simp (disch := omega) only [rd_hi, rd_mi, rd_hl, rd_ml, rd_hr, rd_mr, rd_si2, rd_sl1, rd_sl2, rd_sr1, rd_sr2]; exact (R3 _ _ (by omega)).trans e55) (fun x hx => ⟨(s2 _ _ (by omega) (by omega)).trans (hK x hx).2.1.1, (s2 _ _ (by omega) (by omega)).trans (hK x hx).2.1.2⟩) (fun x hx => ⟨by simp (disch := omega) only [rd_hi, rd_mi, rd_hl, rd_ml, rd_hr, rd_mr, rd_si2, rd_sl1, rd_sl2, rd_sr1, rd_sr2]; exact (R3 _ _ (by omega)).trans (hK x hx).2.2.1, by simp (disch := omega) only [rd_hi, rd_mi, rd_hl, rd_ml, rd_hr, rd_mr, rd_si2, rd_sl1, rd_sl2, rd_sr1, rd_sr2]; exact (R3 _ _ (by omega)).trans (hK x hx).2.2.2⟩) ⟨fun x hx => by omega, fun x _ hx => by omega, fun x _ hx => by omega, fun x _ hx => by omega, fun u hu => by omega⟩
        have hp' : PR b h P F ND M' N' := PR_F hpc (fun c k u1 u2 => o4 c k (by omega)) (fun c k u1 u2 => o6 c k (by omega))
        have wq := hW.2.2.2 q0 h1
        have e66 := (hp'.2.2.2.2.2 q0 h1).2.1.1
        have e68 := (hp'.2.2.2.2.2 q0 h1).2.1.2.2.2
        have rr : fX11_run_126 (nI q0) (nI d) (nI mx) (nI (12 * h + q0)) 0 N1 = rT2 (nI (12 * h + q0)) (nI d) (pT (rS0 N' mx q0) 0 (nI 1) (N'.1 68 (12 * h + q0)) (nI 0)) := by
          unfold fX11_run_126
          rw [k_lt', rd_hi ⟨rfl, rfl⟩, if_pos (by decide), show (0 : Int32) = nI 0 from rfl]
          exact o2.trans (r_144 (by omega) e66)
        rw [e68] at rr
        generalize hNs : pT (rS0 N' mx q0) 0 (nI 1) (nI (P 6 (P 12 q0))) (nI 0) = Ns at rr
        have eS : ∀ c k, ¬ (c = 62 ∨ c = 81 ∨ c = 82 ∨ c = 85) → Ns.1 c k = N'.1 c k := fun c k u => by rw [← hNs]; unfold pT rS0; simp (disch := omega) only [rd_hi, rd_mi, rd_hl, rd_ml, rd_hr, rd_mr, rd_si2, rd_sl1, rd_sl2, rd_sr1, rd_sr2]
        have hI := pI_s o7 (N' := Ns) (fun a p u => eS a p (by omega))
        obtain ⟨C1, X1⟩ := SS_init hW h1 hn hI
        have hp4 := wq.1
        have SSi : SS b h P F ND it n 0 0 0 (fun _ => q0) 0 mx 0 0 1 0 M' Ns := by
          refine ⟨⟨hW, hs, PR_F hp' (fun _ _ _ _ => rfl) (fun c k u1 u2 => eS c k (by omega)), by rw [o3]; exact s3⟩, C1, ⟨⟨(o4 _ _ (by omega)).trans sA, ?_⟩, ⟨(o4 _ _ (by omega)).trans sB, ?_⟩, (o4 _ _ (by omega)).trans sF, ?_⟩, by omega, ⟨(o4 _ _ (by omega)).trans sE, ?_⟩, ⟨(o4 _ _ (by omega)).trans sH, ?_⟩, ⟨(o4 _ _ (by omega)).trans sI, ?_⟩, ⟨(o4 _ _ (by omega)).trans sG, ?_⟩, ⟨(o4 _ _ (by omega)).trans sD, ?_⟩, ?_, ?_⟩
          all_goals (rw [← hNs]; unfold pT rS0; simp (disch := omega) only [rd_hi, rd_mi, rd_hl, rd_ml, rd_hr, rd_mr, rd_si2, rd_sl1, rd_sl2, rd_sr1, rd_sr2])
        have hRK : RK P F b q0 n sp M' Ns := by
          refine ⟨⟨h1, (o4 _ _ (by omega)).trans sC, by rw [← hNs]; unfold pT rS0; simp (disch := omega) only [rd_hi, rd_mi, rd_hl, rd_ml, rd_hr, rd_mr, rd_si2, rd_sl1, rd_sl2, rd_sr1, rd_sr2], by rw [o3]; exact s3, hn, hp4⟩, fun u hu => ?_⟩
          obtain ⟨g1, g2, g3, g4, g5⟩ := hI.2.2.2.2 u hu
          exact ⟨g1, g3, g5⟩
        obtain ⟨e, M2, N2, p1, p2, p3, p4, p5, p6⟩ := j_perform (d := d) hRK SSi (by rw [← hNs]; exact pT_top) X1 rfl (fun c z => by obtain ⟨k, x, z1, _⟩ := z; omega) h2 h3
        refine .inl ⟨q0, e, mv_si M2 6 0 0, N2, h1, ?_, ?_, ?_, RN_s p4 (fun a p u => by simp (disch := omega) only [rd_hi, rd_mi, rd_hl, rd_ml, rd_hr, rd_mr, rd_si2, rd_sl1, rd_sl2, rd_sr1, rd_sr2]) rfl (fun _ _ _ => rfl), by simp (disch := omega) only [rd_hi, rd_mi, rd_hl, rd_ml, rd_hr, rd_mr, rd_si2, rd_sl1, rd_sl2, rd_sr1, rd_sr2]; rfl, ?_⟩
        · rw [c0, s1, o1, k_bs, p1, k_bs, k_lt', rd_mi (by omega), p2]
        · rw [r0, rr, p3]
        · rw [p6 _ _ (by unfold rAr; omega), ← hNs]
          unfold pT rS0
          simp (disch := omega) only [rd_hi, rd_mi, rd_hl, rd_ml, rd_hr, rd_mr, rd_si2, rd_sl1, rd_sl2, rd_sr1, rd_sr2]
          rw [o6 _ _ (by omega)]
          simp (disch := omega) only [rd_hi, rd_mi, rd_hl, rd_ml, rd_hr, rd_mr, rd_si2, rd_sl1, rd_sl2, rd_sr1, rd_sr2]
          rfl
        · rw [p6 _ _ (by unfold rAr; omega), ← hNs]
          unfold pT rS0
          simp (disch := omega) only [rd_hi, rd_mi, rd_hl, rd_ml, rd_hr, rd_mr, rd_si2, rd_sl1, rd_sl2, rd_sr1, rd_sr2]
      · obtain rfl : v = 0 := by omega
        rw [if_pos (by decide)] at c0
        have hne : ¬ bi (ft K n (fun k => P 13 (16 * q0 + k)) (P 9 q0) 0 (some 0)) = nI n := by
          intro z
          cases hf : ft K n (fun k => P 13 (16 * q0 + k)) (P 9 q0) 0 (some 0) with
          | none =>
            rw [hf] at z
            have z' : nN = nI n := z
            rw [kn_eq' (by omega)] at z'
            exact z'
          | some j =>
            rw [hf] at z
            have z' : nI j = nI n := z
            have hj := ft_N (K := K) (n := n) (ty := fun k => P 13 (16 * q0 + k)) (P 9 q0) 0 (some 0) (fun j hj => by cases hj; omega) j hf
            rw [k_eq (by omega) (by omega)] at z'
            subst z'
            exact hv (v3.2 hf)
        rw [if_neg hne] at r0
        obtain ⟨N', b1, b2, b3, b4⟩ := bad N1 R3 R2
        exact .inr (.inr ⟨N', c0, r0.trans b1, b2, b3, b4⟩)
    · rw [if_pos z] at c0
      rw [wF (fun y => absurd z (Int32.not_lt.mpr y.1)), k_bs, if_pos rfl] at r0
      obtain ⟨N', b1, b2, b3, b4⟩ := bad N1 R3 R2
      exact .inr (.inr ⟨N', c0, r0.trans b1, b2, b3, b4⟩)
    · have z3 : ¬ a2 ≤ 20000 := by
        intro y
        have : nI 20001 ≤ (nI 20000 : Int32) := Int32.le_trans z2 y
        rw [k_le (by omega) (by omega)] at this
        omega
      rw [if_neg z1, if_neg z3] at c0
      rw [wF (fun y => z3 y.2), k_bs, if_pos rfl] at r0
      obtain ⟨N', b1, b2, b3, b4⟩ := bad N1 R3 R2
      exact .inr (.inr ⟨N', c0, r0.trans b1, b2, b3, b4⟩)
  · refine .inr (.inl ⟨mv_si N1 62 0 (nI 2), ?_, ?_, by simp (disch := omega) only [rd_hi, rd_mi, rd_hl, rd_ml, rd_hr, rd_mr, rd_si2, rd_sl1, rd_sl2, rd_sr1, rd_sr2], R2, fun c k z1 z2 => by rw [rd_mi (by omega)]; exact R3 c k z1⟩)
    · rw [c0, h7]
      rfl
    · rw [R1]
      unfold fX11_run_75 fX11_run_126
      rw [if_neg e45', h6, k_bs, if_pos (by decide)]
      simp (disch := omega) only [↓reduceIte, k_iT, k_iF, Bool.false_eq_true, eq_self, Nat.add_zero, k_lt', k_bs, k_T, k_F, k_inb, k_ck, k_nz, ↓kN, kL, k_lt, k_le, k_eq, kn_le, kn_lt, kn_eq, kn_le', kn_lt', kn_eq', nI_clamp, nI_add, k_sub, k_mul, k_div, rd_hi, rd_mi, rd_hl, rd_ml, rd_hr, rd_mr, rd_si2, rd_sl1, rd_sl2, rd_sr1, rd_sr2]
end RN1
