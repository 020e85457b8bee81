/-! TYPES: all functions -/
def yE (b h : Nat) (M0 N0 : mv_M) (T : Nat → Nat) (n F ND : Nat) (lo xl : Nat → Nat) (an : Nat) (pf mf : Nat → Nat) (G : Nat → Nat → Nat → Nat) (lab : Nat → Nat → Nat) : Prop := ∀ f, f < F → yU b h M0 N0 T n F ND f (lo f) (lo (f + 1)) (xl f) (xl (f + 1)) an (pf f) (mf f) (G f) (lab f) ∧ N0.1 66 (12 * h + f) = nI (pf f) ∧ lo f < lo (f + 1) ∧ M0.1 (b + 5) f = nI (lo (f + 1) - 1) ∧ N0.1 68 (12 * h + f) = nI (G f 0 (lo (f + 1) - 1)) ∧ G f 1 (lo (f + 1) - 1) = lo f ∧ (∃ y, y ≤ 4 ∧ M0.1 (b + 4) f = nI y ∧ N0.1 65 (12 * h + f) = nI y) ∧ ∀ k, k < pf f → ∃ y, y ≤ 4 ∧ M0.1 (b + 7) (f * 16 + k) = nI y ∧ N0.1 70 (16 * (12 * h + f) + k) = nI y
def yV (b h : Nat) (M0 : mv_M) (F : Nat) (lo : Nat → Nat) (pf mf : Nat → Nat) (G : Nat → Nat → Nat → Nat) (M N : mv_M) (f : Nat) : Prop := ∀ f', f' < f → yT b h f' (pf f') (mf f') (lo (f' + 1)) F (G f') M0 M N (lo f') (lo (f' + 1)) ∧ M.1 (b + 13) (lo (f' + 1) - 1) = M0.1 (b + 4) f'
section TA
variable {b h n cnt f F ND an nb pl : Nat} {M M' M0 N N' N0 : mv_M} {T lo xl pf mf : Nat → Nat} {G : Nat → Nat → Nat → Nat} {lab : Nat → Nat → Nat}
theorem mono_lo {u : Nat → Nat} (h1 : ∀ f, f < F → u f ≤ u (f + 1)) : ∀ d f, f + d ≤ F → u f ≤ u (f + d) := by
  intro d
  induction d with
  | zero => intro f _; exact Nat.le_refl _
  | succ d ih =>
    intro f hf
    have := ih f (by omega)
    have := h1 (f + d) (by omega)
    show u f ≤ u (f + d + 1)
    omega
/-- what is typed in a function stays so while a later one is typed -/
theorem yV_frame (hm1 : ∀ f, f < F → lo f ≤ lo (f + 1)) (hm2 : ∀ f, f < F → xl f ≤ xl (f + 1)) (hE : yE b h M0 N0 T n F ND lo xl an pf mf G lab) (hf : f < F) (hv : yV b h M0 F lo pf mf G M N f) (hF : yF b h f (pf f) (G f) (lo f) (lo (f + 1)) M N M' N') : yV b h M0 F lo pf mf G M' N' f := by
  intro f' hf'
  obtain ⟨hT, hr⟩ := hv f' hf'
  obtain ⟨hU', e66, hlt, _⟩ := hE f' (by omega)
  obtain ⟨hU, _⟩ := hE f hf
  have l1 := mono_lo hm1 (f - (f' + 1)) (f' + 1) (by omega)
  have l2 := mono_lo hm2 (f - (f' + 1)) (f' + 1) (by omega)
  rw [show f' + 1 + (f - (f' + 1)) = f by omega] at l1 l2
  have hTI' := hU'.2.2.2.2.2.2.2.2.2.1
  have hTI := hU.2.2.2.2.2.2.2.2.2.1
  have hm16 := hU'.2.2.2.2.2.2.2.1
  refine ⟨fun a a1 a2 => ?_, ?_⟩
  · obtain ⟨y, y1, y2, y3, y4⟩ := hT a a1 a2
    have ga := hTI' a a1 a2
    obtain ⟨x1, x2, x3⟩ := hF.2.2.2 (G f' 0 a) (fun k k1 k2 => by have := hTI k k1 k2; omega)
    have hk := hF.1 a (by omega)
    exact ⟨y, y1, hk.1.trans y2, x1.trans y3, nt_congr y4 (fun k _ k2 => (hF.1 k (by omega)).1) hk.2 (fun nm _ hnm => ⟨hF.2.1 _ (fun nm' _ _ _ _ => by omega), hF.2.2.1 _ (fun nm' _ _ _ _ => by omega)⟩) x2 x3⟩
  · rw [(hF.1 _ (by omega)).1]; exact hr
theorem j_judges (hG : yG b h M0 N0 T n cnt F ND) (hm1 : ∀ f, f < F → lo f ≤ lo (f + 1)) (hm2 : ∀ f, f < F → xl f ≤ xl (f + 1)) (hE : yE b h M0 N0 T n F ND lo xl an pf mf G lab) : ∀ d f, f + d = F → ∀ M N, yW b M0 M → M.1 1 0 = nI 0 → zW h N0 N → N.1 62 9 = nI 0 → N.1 62 33 = nI (12 * h + f) → yP b h F M0 N0 M N → yV b h M0 F lo pf mf G M N f → ∃ M' N', fX9_judge_7 (nI f) M = some ((), M') ∧ fX11_read_125 N = fX11_read_168 N' ∧ yW b M0 M' ∧ zW h N0 N' ∧ ((∃ nb pl, M'.1 1 0 = nI nb ∧ 0 < nb ∧ nb ≤ 6 ∧ M'.1 1 1 = nI pl ∧ N'.1 62 9 = nI nb ∧ N'.1 62 10 = nI pl) ∨ (M'.1 1 0 = nI 0 ∧ N'.1 62 9 = nI 0 ∧ yP b h F M0 N0 M' N' ∧ yV b h M0 F lo pf mf G M' N' F)) := by
  have hx := hG.1
  have hb := hx.1
  have hh := hG.2.1
  have hFF := hx.2.2.2.1.2
  intro d
  induction d with
  | zero =>
    intro f hf M N hW h10 hZ h9 h33 hP hV
    obtain rfl : f = F := by omega
    have e0 : M.1 b 0 = nI f := (hW.1 b 0 (yA_ne hb).1).trans hx.2.2.2.1.1
    have f27 : N.1 62 27 = nI h := (hZ.1 _ _ (by unfold zA; omega)).trans hG.2.2.2.2.2.1
    have f28 : N.1 62 28 = nI f := (hZ.1 _ _ (by unfold zA; omega)).trans hG.2.2.2.2.2.2
    refine ⟨M, N, ?_, ?_, hW, hZ, .inr ⟨h10, h9, hP, hV⟩⟩
    · unfold fX9_judge_7
      refine lp_out (t := ()) ?_
      show gX9_judge_7 (nI f) M = _
      unfold gX9_judge_7
      rw [y_get hx hW, e0, if_pos (by rw [k_le (by omega) (by omega)]; exact Nat.le_refl _)]
    · unfold fX11_read_125
      refine lp_inr ?_
      show gX11_read_125 N = _
      unfold gX11_read_125
      rw [f27, f28, h33, show (12 : Int32) = nI 12 from rfl, k_mul, nI_add, if_pos (by rw [k_le (by omega) (by omega)]; exact Nat.le_refl _)]
  | succ d ih =>
    intro f hf M N hW h10 hZ h9 h33 hP hV
    obtain ⟨hU, e66, hlt, e5, e68, eg, ⟨y, y4, e4, e65⟩, ept⟩ := hE f (by omega)
    have e0 : M.1 b 0 = nI F := (hW.1 b 0 (yA_ne hb).1).trans hx.2.2.2.1.1
    have f27 : N.1 62 27 = nI h := (hZ.1 _ _ (by unfold zA; omega)).trans hG.2.2.2.2.2.1
    have f28 : N.1 62 28 = nI F := (hZ.1 _ _ (by unfold zA; omega)).trans hG.2.2.2.2.2.2
    have hWf : yW b M0 (mv_si M 4 3 (nI f)) := yW_si hW (by unfold yA; omega)
    have h10f : (mv_si M 4 3 (nI f)).1 1 0 = nI 0 := by simp (disch := omega) only [rd_hi, rd_mi, rd_hl, rd_ml, rd_hr, rd_mr, rd_si2, rd_sl1, rd_sl2, rd_sr1, rd_sr2]; exact h10
    have hPf : yP b h F M0 N0 (mv_si M 4 3 (nI f)) N := by
      obtain ⟨p1, p2, p3, p4, p5⟩ := hP
      exact ⟨fun k z1 z2 => by simp (disch := omega) only [rd_hi, rd_mi, rd_hl, rd_ml, rd_hr, rd_mr, rd_si2, rd_sl1, rd_sl2, rd_sr1, rd_sr2]; exact p1 k z1 z2, fun k z => by simp (disch := omega) only [rd_hi, rd_mi, rd_hl, rd_ml, rd_hr, rd_mr, rd_si2, rd_sl1, rd_sl2, rd_sr1, rd_sr2]; exact p2 k z, p3, p4, fun q k pq z1 z2 z3 z4 => ⟨by simp (disch := omega) only [rd_hi, rd_mi, rd_hl, rd_ml, rd_hr, rd_mr, rd_si2, rd_sl1, rd_sl2, rd_sr1, rd_sr2]; exact (p5 q k pq z1 z2 z3 z4).1, (p5 q k pq z1 z2 z3 z4).2⟩⟩
    have hVf : yV b h M0 F lo pf mf G (mv_si M 4 3 (nI f)) N f := by
      intro f' hf'
      obtain ⟨z1, z2⟩ := hV f' hf'
      refine ⟨fun a a1 a2 => ?_, by simp (disch := omega) only [rd_hi, rd_mi, rd_hl, rd_ml, rd_hr, rd_mr, rd_si2, rd_sl1, rd_sl2, rd_sr1, rd_sr2]; exact z2⟩
      obtain ⟨y', b1, b2, b3, b4⟩ := z1 a a1 a2
      exact ⟨y', b1, by simp (disch := omega) only [rd_hi, rd_mi, rd_hl, rd_ml, rd_hr, rd_mr, rd_si2, rd_sl1, rd_sl2, rd_sr1, rd_sr2]; exact b2, b3, nt_congr b4 (fun k _ _ => by simp (disch := omega) only [rd_hi, rd_mi, rd_hl, rd_ml, rd_hr, rd_mr, rd_si2, rd_sl1, rd_sl2, rd_sr1, rd_sr2]) (by simp (disch := omega) only [rd_hi, rd_mi, rd_hl, rd_ml, rd_hr, rd_mr, rd_si2, rd_sl1, rd_sl2, rd_sr1, rd_sr2]) (fun nm _ _ => ⟨by simp (disch := omega) only [rd_hi, rd_mi, rd_hl, rd_ml, rd_hr, rd_mr, rd_si2, rd_sl1, rd_sl2, rd_sr1, rd_sr2], rfl⟩) rfl rfl⟩
    obtain ⟨M1, N1, u1, u2, u3⟩ := j_judge hG hU e66 hlt e5 e68 eg y4 e4 e65 ept hWf h10f (by simp (disch := omega) only [rd_hi, rd_mi, rd_hl, rd_ml, rd_hr, rd_mr, rd_si2, rd_sl1, rd_sl2, rd_sr1, rd_sr2]) hZ h9 h33 hPf
    have cl : fX9_judge_7 (nI f) M = fX9_judge_7 (nI (f + 1)) M1 := by
      unfold fX9_judge_7
      refine lp_go (s' := nI (f + 1)) ?_
      show gX9_judge_7 (nI f) M = _
      unfold gX9_judge_7
      rw [y_get hx hW, e0, if_neg (by rw [k_le (by omega) (by omega)]; omega), h10, if_pos (show nI 0 = 0 from rfl), k_lt', k_lt']
      exact u1
    have rf : fX11_read_125 N = fX11_read_125 (mv_si N1 62 33 ((N1.1 62 33) + 1)) := by
      unfold fX11_read_125
      refine lp_go (s' := ()) ?_
      show gX11_read_125 N = _
      unfold gX11_read_125
      rw [f27, f28, h33, show (12 : Int32) = nI 12 from rfl, k_mul, nI_add, if_neg (by rw [k_le (by omega) (by omega)]; omega), h9, if_pos (show nI 0 = 0 from rfl), u2, k_bs, k_lt']
    rw [cl, rf]
    rcases u3 with ⟨nb, pl, w1, w2⟩ | ⟨w1, w2, w3, w4, w5, w6, w7, w8, w9, wA⟩
    · obtain ⟨a1, a2, a3, a4, a5, a6, _⟩ := w1
      obtain ⟨b1, b2, b3, b4, b5, b6⟩ := w2
      have g27 : N1.1 62 27 = nI h := (b1.1 _ _ (by unfold zA; omega)).trans hG.2.2.2.2.2.1
      have g28 : N1.1 62 28 = nI F := (b1.1 _ _ (by unfold zA; omega)).trans hG.2.2.2.2.2.2
      have e0' : M1.1 b 0 = nI F := (a1.1 b 0 (yA_ne hb).1).trans hx.2.2.2.1.1
      refine ⟨M1, mv_si N1 62 33 (nI (12 * h + f + 1)), ?_, ?_, a1, zW_si b1 (by unfold zA; omega), .inl ⟨nb, pl, a2, a3, a4, a5, by simp (disch := omega) only [rd_hi, rd_mi, rd_hl, rd_ml, rd_hr, rd_mr, rd_si2, rd_sl1, rd_sl2, rd_sr1, rd_sr2]; exact b2, by simp (disch := omega) only [rd_hi, rd_mi, rd_hl, rd_ml, rd_hr, rd_mr, rd_si2, rd_sl1, rd_sl2, rd_sr1, rd_sr2]; exact b5⟩⟩
      · unfold fX9_judge_7
        refine lp_out (t := ()) ?_
        show gX9_judge_7 (nI (f + 1)) M1 = _
        unfold gX9_judge_7
        rw [y_get hx a1]
        by_cases hle : (M1.1 b 0) ≤ (nI (f + 1))
        · rw [if_pos hle]
        · rw [if_neg hle, a2, if_neg (by rw [kM, k_eq (by omega) (by omega)]; omega)]
      · rw [b6, nI_1]
        unfold fX11_read_125
        refine lp_inr ?_
        show gX11_read_125 (mv_si N1 62 33 (nI (12 * h + f + 1))) = _
        have r9 : (mv_si N1 62 33 (nI (12 * h + f + 1))).1 62 9 = nI nb := by simp (disch := omega) only [rd_hi, rd_mi, rd_hl, rd_ml, rd_hr, rd_mr, rd_si2, rd_sl1, rd_sl2, rd_sr1, rd_sr2]; exact b2
        generalize mv_si N1 62 33 (nI (12 * h + f + 1)) = NZ at r9 ⊢
        unfold gX11_read_125
        by_cases hle : ((12 * (NZ.1 62 27)) + (NZ.1 62 28)) ≤ (NZ.1 62 33)
        · rw [if_pos hle]
        · rw [if_neg hle, r9, if_neg (by rw [kM, k_eq (by omega) (by omega)]; omega)]
    · rw [w6, nI_1]
      have hV1 := yV_frame hm1 hm2 hE (show f < F by omega) hVf w9
      have P1 : yP b h F M0 N0 M1 (mv_si N1 62 33 (nI (12 * h + f + 1))) := by
        obtain ⟨p1, p2, p3, p4, p5⟩ := w7
        exact ⟨p1, p2, fun x z => by simp (disch := omega) only [rd_hi, rd_mi, rd_hl, rd_ml, rd_hr, rd_mr, rd_si2, rd_sl1, rd_sl2, rd_sr1, rd_sr2]; exact p3 x z, fun x z => by simp (disch := omega) only [rd_hi, rd_mi, rd_hl, rd_ml, rd_hr, rd_mr, rd_si2, rd_sl1, rd_sl2, rd_sr1, rd_sr2]; exact p4 x z, fun q k pq z1 z2 z3 z4 => ⟨(p5 q k pq z1 z2 z3 z4).1, by simp (disch := omega) only [rd_hi, rd_mi, rd_hl, rd_ml, rd_hr, rd_mr, rd_si2, rd_sl1, rd_sl2, rd_sr1, rd_sr2]; exact (p5 q k pq z1 z2 z3 z4).2⟩⟩
      have cg : ∀ {f' a : Nat}, NTy b h f' (pf f') (mf f') (lo (f' + 1)) F (G f') M0 M1 N1 a → NTy b h f' (pf f') (mf f') (lo (f' + 1)) F (G f') M0 M1 (mv_si N1 62 33 (nI (12 * h + f + 1))) a := by
        intro f' a z
        obtain ⟨y', b1, b2, b3, b4⟩ := z
        exact ⟨y', b1, b2, by simp (disch := omega) only [rd_hi, rd_mi, rd_hl, rd_ml, rd_hr, rd_mr, rd_si2, rd_sl1, rd_sl2, rd_sr1, rd_sr2]; exact b3, nt_congr b4 (fun k _ _ => rfl) rfl (fun nm _ _ => ⟨rfl, by simp (disch := omega) only [rd_hi, rd_mi, rd_hl, rd_ml, rd_hr, rd_mr, rd_si2, rd_sl1, rd_sl2, rd_sr1, rd_sr2]⟩) (by simp (disch := omega) only [rd_hi, rd_mi, rd_hl, rd_ml, rd_hr, rd_mr, rd_si2, rd_sl1, rd_sl2, rd_sr1, rd_sr2]) (by simp (disch := omega) only [rd_hi, rd_mi, rd_hl, rd_ml, rd_hr, rd_mr, rd_si2, rd_sl1, rd_sl2, rd_sr1, rd_sr2])⟩
      exact ih (f + 1) (by omega) M1 (mv_si N1 62 33 (nI (12 * h + f + 1))) w1 w2 (zW_si w4 (by unfold zA; omega)) (by simp (disch := omega) only [rd_hi, rd_mi, rd_hl, rd_ml, rd_hr, rd_mr, rd_si2, rd_sl1, rd_sl2, rd_sr1, rd_sr2]; exact w5) (by simp (disch := omega) only [rd_hi, rd_mi, rd_hl, rd_ml, rd_hr, rd_mr, rd_si2, rd_sl1, rd_sl2, rd_sr1, rd_sr2]; rfl) P1 (fun f' hf' => by
        by_cases ef : f' = f
        · subst ef
          exact ⟨fun a a1 a2 => cg (w8 a a1 a2), by rw [wA, e4]⟩
        · obtain ⟨z1, z2⟩ := hV1 f' (by omega)
          exact ⟨fun a a1 a2 => cg (z1 a a1 a2), z2⟩)
end TA
