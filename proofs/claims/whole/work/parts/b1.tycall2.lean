/-! TYPES: calls, both sides -/
section TK2
variable {b h n cnt f m nd F ND sc lo hi xl xh an p c k nb pl t k0 B q pq a : Nat} {M M' M0 M1 N N' N0 N1 N2 : mv_M} {T S : Nat → Nat} {g : Nat → Nat → Nat} {lab : Nat → Nat} {L : List (Nat × Int32 × Int32)} {w : Int32}
/-- where the typing of argument k begins -/
def aB (g : Nat → Nat → Nat) (c : Nat) (e : Nat → Nat) (k : Nat) : Nat := if k = 0 then g 1 c else e (k - 1) + 1
set_option maxHeartbeats 2000000 in
theorem t_args {e tt : Nat → Nat} {y : Nat} (hG : yG b h M0 N0 T n cnt F ND) (hU : yU b h M0 N0 T n F ND f lo hi xl xh an p m g lab) (hc : lo ≤ c) (hc2 : c < hi) (hl : L.length + 5 < 2999) (hB : L.length + 5 ≤ B) (hk0 : k0 ≤ k) (hk00 : 0 < k0) (hq : q < F) (hpq : M0.1 (b + 2) q = nI pq) (hpq4 : pq ≤ 4) (hmq : ∃ mq, pq ≤ mq ∧ mq ≤ 16 ∧ M0.1 (b + 3) q = nI mq) (hans : M0.1 (b + 4) q = nI y) (htt : ∀ i, i < pq → tt i ≤ 4 ∧ M0.1 (b + 7) (q * 16 + i) = nI (tt i)) (hp0 : pq = 0 → g 1 c = c) (hp1 : 0 < pq → g 1 c = g 1 (e 0) ∧ e (pq - 1) + 1 = c) (hp2 : ∀ i, i + 1 < pq → e i + 1 < c ∧ g 1 (e (i + 1)) = e i + 1 ∧ M0.1 (b + 12) (e i) = nI (e (i + 1))) (hp3 : ∀ i, i < pq → e i < c ∧ g 1 c ≤ e i) (H : ∀ i, i < pq → ySp b h M0 N0 f p m hi F g lo (e i) k0 B) : ∀ d i, i + d = pq → ∀ (x : Int32) (M N : mv_M), (i < pq → x = nI (e i)) → yO b M0 f sc S M → zO h N0 f (aL g e tt ((4, nI (g 0 c), w) :: L) i d) sc S N → yP b h F M0 N0 M N → ySc b h f p m hi g M N sc S c → yT b h f p m hi F g M0 M N lo (aB g c e i) → (∀ j, j < i → M.1 (b + 13) (e j) = nI (tt j)) → JT b h M0 N0 f N (fX9_typeOfCall_89 (fun a0 a1 M => RX9_typeOf k 0 a0 a1 M) (nI q) x (nI i) M) (fun r M' N' => r = nI y ∧ yO b M0 f sc S M' ∧ zO h N0 f ((4, nI (g 0 c), w) :: L) sc S N' ∧ yP b h F M0 N0 M' N' ∧ yT b h f p m hi F g M0 M' N' lo c ∧ yF b h f p g (aB g c e i) c M N M' N' ∧ ∀ j, j < pq → M'.1 (b + 13) (e j) = nI (tt j)) := by
  have hx := hG.1
  have hb := hx.1
  have hTI := hU.2.2.2.2.2.2.2.2.2.1
  have hND := hx.2.2.2.2.1.2
  have hhi := hU.2.1
  have hF := hx.2.2.2.1.2
  have hm2 := hU.2.2.2.2.2.2.2.1
  have hlo := (hTI c hc hc2).2.2.2.1
  obtain ⟨kk, rfl⟩ : ∃ kk, k = kk + 1 := ⟨k - 1, by omega⟩
  intro d
  induction d with
  | zero =>
    intro i hi x M N _ hy hz hP hSc hT hj
    have ei : i = pq := by omega
    have e2 : M.1 (b + 2) q = nI pq := (hy.1.1 _ _ ((yA_ne hb).2.2.2.1 _)).trans hpq
    have eB : aB g c e i = c := by
      unfold aB
      by_cases h0 : i = 0
      · rw [if_pos h0]; exact hp0 (by omega)
      · rw [if_neg h0, ei]; exact (hp1 (by omega)).2
    unfold fX9_typeOfCall_89
    rw [lpK_loop]
    show JT b h M0 N0 f N (lpK _ (gX9_typeOfCall_89 _ (nI q) x (nI i) M)) _
    unfold gX9_typeOfCall_89
    rw [y_get hx hy.1, k_inb (by omega) (by omega), k_ck, nI_clamp (by omega), e2, if_pos (by rw [k_le (by omega) (by omega)]; omega), lpK_inr, y_146 hx hy.1 hq, hans]
    rw [eB] at hT
    exact JT_some ⟨rfl, hy, hz, hP, hT, yF_refl, fun j hj' => hj j (by omega)⟩
  | succ d ih =>
    intro i hi x M N hxi hy hz hP hSc hT hj
    obtain rfl := hxi (by omega)
    have e2 : M.1 (b + 2) q = nI pq := (hy.1.1 _ _ ((yA_ne hb).2.2.2.1 _)).trans hpq
    obtain ⟨mq, hmq1, hmq2, hmq3⟩ := hmq
    obtain ⟨t1, t2⟩ := htt i (by omega)
    have h3 := hp3 i (by omega)
    have eN := y_nameType (k := i) hx hy.1 hq hmq3 hmq2 (by omega)
    have e7 : M.1 (b + 7) (q * 16 + i) = nI (tt i) := ((hP.2.2.2.2 q i pq hq hpq hpq4 (by omega)).1).trans t2
    rw [e7] at eN
    have eB : aB g c e i = g 1 (e i) := by
      unfold aB
      by_cases h0 : i = 0
      · rw [if_pos h0, h0]; exact (hp1 (by omega)).1
      · rw [if_neg h0]
        have := (hp2 (i - 1) (by omega)).2.1
        rw [show i - 1 + 1 = i by omega] at this
        omega
    have hei := (hTI (e i) (by omega) (by omega))
    have eB1 : aB g c e (i + 1) = e i + 1 := by
      unfold aB
      rw [if_neg (by omega), show i + 1 - 1 = i by omega]
    unfold fX9_typeOfCall_89
    rw [lpK_loop]
    show JT b h M0 N0 f N (lpK _ (gX9_typeOfCall_89 _ (nI q) (nI (e i)) (nI i) M)) _
    unfold gX9_typeOfCall_89
    rw [y_get hx hy.1, k_inb (by omega) (by omega), k_ck, nI_clamp (by omega), e2, if_neg (by rw [k_le (by omega) (by omega)]; omega), y_get hx hy.1, y_node hx hy.1 (show e i < ND by omega), k_bs, if_neg (by decide), y_get hx hy.1, eN, k_bs, lpK_bind]
    refine JT_bind (H i (by omega) (kk + 1) hk0 (nI (tt i)) (.inr (.inr ⟨tt i, t1, rfl⟩)) _ sc S M N (by rw [aL_len, List.length_cons]; omega) hy hz hP (ySc_in hTI hc h3.2 (by omega) hSc) (by rw [← eB]; exact hT)) (fun nb pl r M' hd => ?_) ?_
    · rw [y_get hx hd.1, k_inb (by omega) (by omega), k_ck, k_lt', k_lt', nI_1]
      exact yD_89 hx hq hpq hpq4 d (i + 1) (by omega) _ M' hd
    rintro r M5 N5 ⟨y1, rfl, u1, u2, u3, u4, u5, u6, u7, u8⟩
    have hy1 : y1 = tt i := by
      rcases u2 with z | z | z
      · exact absurd z (nI_ne_nN (by omega))
      · rw [k_eq (by omega) (by omega)] at z; omega
      · exact absurd z.1 (nI_ne_nM (by omega))
    subst hy1
    rw [y_get hx u3.1, k_inb (by omega) (by omega), k_ck, k_lt', k_lt', nI_1, nI_clamp (by omega)]
    have e12 : M5.1 (b + 12) (e i) = M0.1 (b + 12) (e i) := u3.1.1 _ _ ((yA_ne hb).2.2.2.2.2.2.2.2.1 _)
    rw [e12]
    refine JT_mono (ih (i + 1) (by omega) (M0.1 (b + 12) (e i)) M5 N5 (fun hi' => (hp2 i hi').2.2) u3 u4 u5 (ySc_frame hm2 hSc u7 (by omega)) (by rw [eB1]; exact u6) (fun j hj' => ?_)) (fun r M' N' hq' => ?_)
    · by_cases ej : j = i
      · subst ej; exact u8
      · have hej : e j < g 1 (e i) := by
          have key : ∀ j, j < i → e j < aB g c e i := by
            intro j
            intro hji
            have mono : ∀ l, j + l < i → e j ≤ e (j + l) := by
              intro l
              induction l with
              | zero => intro _; exact Nat.le_refl _
              | succ l ihl =>
                intro hl'
                have a1 := ihl (by omega)
                have a2 := (hp2 (j + l) (by omega)).2.1
                have a3 := (hTI (e (j + l + 1)) (by have := hp3 (j + l + 1) (by omega); omega) (by have := hp3 (j + l + 1) (by omega); omega)).2.2.2.2.1
                show e j ≤ e (j + l + 1)
                omega
            have a1 := mono (i - 1 - j) (by omega)
            rw [show j + (i - 1 - j) = i - 1 by omega] at a1
            unfold aB
            rw [if_neg (by omega)]
            omega
          have := key j (by omega)
          omega
        rw [(u7.1 (e j) (by omega)).1]
        exact hj j (by omega)
    · obtain ⟨w1, w2, w3, w4, w5, w6, w7⟩ := hq'
      rw [eB1] at w6
      refine ⟨w1, w2, w3, w4, w5, ?_, w7⟩
      rw [eB]
      exact yF_trans (yF_mono u7 (Nat.le_refl _) (by omega)) (yF_mono w6 (by omega) (Nat.le_refl _))
set_option maxHeartbeats 4000000 in
theorem o_call {e : Nat → Nat} (hG : yG b h M0 N0 T n cnt F ND) (hU : yU b h M0 N0 T n F ND f lo hi xl xh an p m g lab) (hc : lo ≤ c) (hc2 : c < hi) (hl : L.length + 5 < 2999) (hB : L.length + 5 ≤ B) (hk0 : k0 ≤ k) (hk00 : 0 < k0) (hy : yO b M0 f sc S M) (hz : zO h N0 f ((1, nI (g 0 c), w) :: L) sc S N) (hP : yP b h F M0 N0 M N) (hSc : ySc b h f p m hi g M N sc S c) (hT : yT b h f p m hi F g M0 M N lo (g 1 c)) (ht : t ≤ 1000 ∧ lx_st T n t < n) (e14 : M0.1 (b + 14) c = nI t) (e75 : N0.1 75 (g 0 c) = nI (lx_st T n t)) (hkd : M0.1 (b + 8) c = nI 5) (hkr : N0.1 71 (g 0 c) = nI 8) (hlk : lx_k T n (lx_st T n t) = 2) (e77 : N0.2.1 77 (g 0 c) = lx_tx T n (lx_st T n t)) (hqq : q ≤ 1000) (e11 : M0.1 (b + 11) c = nI q) (e73 : N0.1 73 (g 0 c) = nI q) (e72 : N0.1 72 (g 0 c) = nI a) (haq : a + q ≤ an) (hp0 : q = 0 → g 1 c = c) (hp1 : 0 < q → M0.1 (b + 10) c = nI (e 0) ∧ g 1 c = g 1 (e 0) ∧ e (q - 1) + 1 = c) (hp2 : ∀ i, i + 1 < q → e i + 1 < c ∧ g 1 (e (i + 1)) = e i + 1 ∧ M0.1 (b + 12) (e i) = nI (e (i + 1))) (hp3 : ∀ i, i < q → e i < c ∧ g 1 c ≤ e i ∧ N0.1 78 (a + i) = nI (g 0 (e i))) (H : ∀ i, i < q → ySp b h M0 N0 f p m hi F g lo (e i) k0 B) : JT b h M0 N0 f N (RX9_typeOf (k + 1 + 1) 1 (nI c) w M) (oQ b h M0 N0 f p m hi F g lo c w L sc S M N) := by
  have hx := hG.1
  have hb := hx.1
  have hTI := hU.2.2.2.2.2.2.2.2.2.1
  obtain ⟨x1, x2, _⟩ := hTI c hc hc2
  have hxr := hU.2.2.1
  have hh := hG.2.1
  have hND := hx.2.2.2.2.1.2
  have hhi := hU.2.1
  have hF := hx.2.2.2.1.2
  have hm2 := hU.2.2.2.2.2.2.2.1
  have hlo := (hTI c hc hc2).2.2.2.1
  obtain ⟨q0, s0⟩ := z_pop hz
  obtain ⟨N2, p2, q2, s2⟩ := z_push (s := 4) (a := nI (g 0 c)) (w := w) q0 (by omega)
  have s3 := zS_trans s0 s2
  have e71 : N2.1 71 (g 0 c) = nI 8 := (q2.1.1 _ _ (by unfold zA; omega)).trans hkr
  have f75 : N2.1 75 (g 0 c) = nI (lx_st T n t) := (q2.1.1 _ _ (by unfold zA; omega)).trans e75
  have f73 : N2.1 73 (g 0 c) = nI q := (q2.1.1 _ _ (by unfold zA; omega)).trans e73
  have f77 : N2.2.1 77 (g 0 c) = lx_tx T n (lx_st T n t) := by rw [q2.1.2]; exact e77
  have f27 : N2.1 62 27 = nI h := (q2.1.1 _ _ (by unfold zA; omega)).trans hG.2.2.2.2.2.1
  have f28 : N2.1 62 28 = nI F := (q2.1.1 _ _ (by unfold zA; omega)).trans hG.2.2.2.2.2.2
  have f64 : ∀ j, N2.2.1 64 (12 * h + j) = N0.2.1 64 (12 * h + j) := fun j => by rw [q2.1.2]
  have f9 := q2.2.1
  have f72 : N2.1 72 (g 0 c) = nI a := by
    rw [s3.1 _ _ (by omega), hP.2.2.1 _ (by rw [hkr]; decide)]; exact e72
  have c14 : M.1 (b + 14) c = nI t := (hy.1.1 _ _ ((yA_ne hb).2.2.2.2.2.2.2.2.2 _)).trans e14
  have c11 : M.1 (b + 11) c = nI q := (hy.1.1 _ _ ((yA_ne hb).2.2.2.2.2.2.2.1 _)).trans e11
  have c0 : M.1 b 0 = nI F := (hy.1.1 b 0 (yA_ne hb).1).trans hx.2.2.2.1.1
  have titles := hG.2.2.2.1
  have dist := hG.2.2.2.2.1
  have cM2 : ∀ j, M.2.1 (b + 1) j = M0.2.1 (b + 1) j := fun j => by rw [hy.1.2]
  obtain ⟨r, er, hr3⟩ := c_fnOf (b := b) (v := lx_tx T n (lx_st T n t)) (M := M) hF c0 F 0 (by omega)
  have er' : fX4_functionOf b (lx_tx T n (lx_st T n t)) M = some (r, M) := er
  obtain ⟨zf1, zf2⟩ := z_find (x := g 0 c) (v := lx_tx T n (lx_st T n t)) hh hF (by omega) f27 f28 f77 F 0 (by omega) nN
  rw [t_own0 hx hy.1 (show c < ND by omega) hkd, if_neg (by decide), if_neg (by decide), if_pos (by decide)]
  refine JT_bind (Q := oQ b h M0 N0 f p m hi F g lo c w L sc S M N) ?_ (fun nb pl r M' hd => ok_some hd) (fun r M' N' hq => JT_some hq)
  rw [RX9_typeOf, if_neg (by decide), if_neg (by decide), if_pos rfl]
  unfold fX9_typeOfCall
  rw [y_get hx hy.1, y_get hx hy.1, k_inb (by omega) (by omega), k_ck, nI_clamp (by omega), c14, (y_tok hx hy.1 ht).2 hlk, k_bs, er', k_bs]
  -- the reference, up to the search's end
  have jc : ∀ {gg : Int32} {N' : mv_M}, fX11_judgeCall_10 (nI (g 0 c)) nN (nI (12 * h + 0)) N2 = fX11_judgeCall_10 (nI (g 0 c)) gg (nI (12 * h + F)) N2 → fX11_judgeCall_10 (nI (g 0 c)) gg (nI (12 * h + F)) N2 = some ((), N') → fX11_judge_71 N = fX11_judge_71 N' := by
    intro gg N' g1 g2
    refine T_go ((z_g1 hz (by omega)).trans ?_)
    have g3 : fX11_judgeCall (nI (g 0 c)) N2 = some ((), N') := by
      unfold fX11_judgeCall
      rw [k_lt', f27, show (12 : Int32) = nI 12 from rfl, k_mul]
      exact g1.trans g2
    have p2' : fX11_task 4 (nI (g 0 c)) w (mv_si N 62 36 (nI L.length)) = some ((), N2) := p2
    unfold fX11_onJudge
    rw [p2', k_bs, k_inb (by omega) (by omega), k_ck, nI_clamp (by omega), e71, if_neg (by decide), if_neg (by decide), if_neg (by decide), if_neg (by decide), if_neg (by decide), if_pos (by decide), g3]
    rfl
  -- both tell
  have told : ∀ {v : Nat} {gg : Int32}, 0 < v → v ≤ 6 → fX11_judgeCall_10 (nI (g 0 c)) nN (nI (12 * h + 0)) N2 = fX11_judgeCall_10 (nI (g 0 c)) gg (nI (12 * h + F)) N2 → fX11_judgeCall_10 (nI (g 0 c)) gg (nI (12 * h + F)) N2 = fX11_judgeCall_85 (nI (g 0 c)) (nI v) N2 → JT b h M0 N0 f N (mv_bind (fX9_tell (nI v) (nI c) M) fun _ M19 => some ((0 : Int32), M19)) (oQ b h M0 N0 f p m hi F g lo c w L sc S M N) := by
    intro v gg v1 v2 g1 g2
    obtain ⟨M2, u1, u2⟩ := yO_tell (v := v) hx hy (show c < ND by omega) ht e14 v1 v2
    rw [u1, k_bs]
    have z1 : zD h N0 f v (lx_st T n t) (mv_si (mv_si N2 62 9 (nI v)) 62 10 (nI (lx_st T n t))) := by
      obtain ⟨a1, a2, a3, _⟩ := q2
      exact ⟨zW_si (zW_si a1 (by unfold zA; omega)) (by unfold zA; omega), by simp (disch := omega) only [rd_hi, rd_mi, rd_hl, rd_ml, rd_hr, rd_mr, rd_si2, rd_sl1, rd_sl2, rd_sr1, rd_sr2], v1, v2, by simp (disch := omega) only [rd_hi, rd_mi, rd_hl, rd_ml, rd_hr, rd_mr, rd_si2, rd_sl1, rd_sl2, rd_sr1, rd_sr2], by simp (disch := omega) only [rd_hi, rd_mi, rd_hl, rd_ml, rd_hr, rd_mr, rd_si2, rd_sl1, rd_sl2, rd_sr1, rd_sr2]; exact a3⟩
    refine JT_dead (nb := v) (pl := lx_st T n t) (ok_some u2) ((jc g1 (N' := mv_si (mv_si N2 62 9 (nI v)) 62 10 (nI (lx_st T n t))) ?_).trans (T_fault z1)) z1
    rw [g2]
    unfold fX11_judgeCall_85 fX11_stop
    simp (disch := omega) only [f75, f9, k_iT, k_iF, Bool.false_eq_true, eq_self, Nat.add_zero, k_lt', k_bs, k_T, k_F, k_inb, k_ck, k_nz, ↓kN, kL, k_lt, k_le, k_eq, kn_le, kn_lt, kn_eq, kn_le', kn_lt', kn_eq', nI_clamp, nI_add, k_sub, k_mul, k_div, rd_hi, rd_mi, rd_hl, rd_ml, rd_hr, rd_mr, rd_si2, rd_sl1, rd_sl2, rd_sr1, rd_sr2]
  have fin0 : ∀ gg, fX11_judgeCall_10 (nI (g 0 c)) gg (nI (12 * h + F)) N2 = if gg = -1 then fX11_judgeCall_74 (nI (g 0 c)) gg N2 else mv_chk (mv_inb gg 24) (if (N2.1 66 gg.toNatClampNeg) = nI q then fX11_judgeCall_111 (nI (g 0 c)) gg (nI q - 1) (mv_si N2 74 (g 0 c) gg) else fX11_judgeCall_74 (nI (g 0 c)) gg N2) := by
    intro gg
    unfold fX11_judgeCall_10
    rw [lpK_loop]
    show lpK _ (gX11_judgeCall_10 (nI (g 0 c)) gg (nI (12 * h + F)) N2) = _
    have r73 : (mv_si N2 74 (g 0 c) gg).1 73 (g 0 c) = nI q := by simp (disch := omega) only [rd_hi, rd_mi, rd_hl, rd_ml, rd_hr, rd_mr, rd_si2, rd_sl1, rd_sl2, rd_sr1, rd_sr2]; exact f73
    generalize (fun (s : Int32 × Int32 × Int32) M => gX11_judgeCall_10 s.1 s.2.1 s.2.2 M) = lp
    unfold gX11_judgeCall_10
    rw [f27, f28, show (12 : Int32) = nI 12 from rfl, k_mul, nI_add, if_pos (by rw [k_le (by omega) (by omega)]; exact Nat.le_refl _)]
    by_cases hg1 : gg = -1
    · rw [if_pos hg1, if_pos hg1, lpK_inr]
    · rw [if_neg hg1, if_neg hg1]
      cases mv_inb gg 24 with
      | false => rfl
      | true =>
        rw [k_ck, k_ck, k_inb (show g 0 c < 2002 by omega) (by omega), k_ck, nI_clamp (by omega), f73]
        by_cases hg2 : N2.1 66 gg.toNatClampNeg = nI q
        · rw [if_pos hg2, if_pos hg2, k_ck, k_lt', k_ck, k_lt', r73, lpK_inr]
        · rw [if_neg hg2, if_neg hg2, lpK_inr]
  rcases hr3.symm with ⟨j, j1, j2, rfl, j4, j5⟩ | ⟨rfl, hno⟩
  · -- there is such a function
    have j4' : N2.2.1 64 (12 * h + j) = lx_tx T n (lx_st T n t) := by rw [f64, ← titles j j2, ← cM2]; exact j4
    have juni : ∀ i, i < F → i ≠ j → N2.2.1 64 (12 * h + i) ≠ lx_tx T n (lx_st T n t) := by
      intro i i1 i2 e
      rw [f64, ← titles i i1] at e
      rw [cM2] at j4
      by_cases hl' : i < j
      · exact dist i j hl' j2 (by rw [e, j4])
      · exact dist j i (by omega) i1 (by rw [e, j4])
    have g1 := zf2 j (by omega) j2 j4' juni
    obtain ⟨pq, mq, b1, b2, b3, b4, b5, b6, ⟨y, b7, b8, b9⟩, bA⟩ := hG.2.2.1 j j2
    have cpq : M.1 (b + 2) j = nI pq := (hy.1.1 _ _ ((yA_ne hb).2.2.2.1 _)).trans b1
    have g66 : N2.1 66 (12 * h + j) = nI pq := (q2.1.1 _ _ (by unfold zA; omega)).trans b2
    have fin1 := fin0 (nI (12 * h + j))
    rw [if_neg (nI_ne_m1 (by omega)), k_inb (by omega) (by omega), k_ck, nI_clamp (by omega), g66] at fin1
    rw [if_neg (nI_ne_m1 (by omega)), y_get hx hy.1, k_ck, y_get hx hy.1, k_inb (by omega) (by omega), k_ck, c11, nI_clamp (by omega), cpq]
    by_cases hpe : q = pq
    · subst hpe
      rw [if_pos rfl] at fin1 ⊢
      rw [y_get hx hy.1, k_lt']
      have yo : yO b M0 f sc S (mv_si M (b + 9) c (nI j)) := by
        obtain ⟨u1, u2, u3, u4, u5, u6⟩ := hy
        exact ⟨yW_si u1 (by unfold yA; omega), by simp (disch := omega) only [rd_hi, rd_mi, rd_hl, rd_ml, rd_hr, rd_mr, rd_si2, rd_sl1, rd_sl2, rd_sr1, rd_sr2]; exact u2, by simp (disch := omega) only [rd_hi, rd_mi, rd_hl, rd_ml, rd_hr, rd_mr, rd_si2, rd_sl1, rd_sl2, rd_sr1, rd_sr2]; exact u3, by simp (disch := omega) only [rd_hi, rd_mi, rd_hl, rd_ml, rd_hr, rd_mr, rd_si2, rd_sl1, rd_sl2, rd_sr1, rd_sr2]; exact u4, u5, fun k hk => by simp (disch := omega) only [rd_hi, rd_mi, rd_hl, rd_ml, rd_hr, rd_mr, rd_si2, rd_sl1, rd_sl2, rd_sr1, rd_sr2]; exact u6 k hk⟩
      have c10 : (mv_si M (b + 9) c (nI j)).1 (b + 10) c = M0.1 (b + 10) c := yo.1.1 _ _ ((yA_ne hb).2.2.2.2.2.2.1 _)
      rw [k_ck, y_get hx yo.1, k_ck, k_lt', c10]
      have hch : ∃ tt : Nat → Nat, ∀ i, i < q → tt i ≤ 4 ∧ M0.1 (b + 7) (j * 16 + i) = nI (tt i) ∧ N0.1 70 (16 * (12 * h + j) + i) = nI (tt i) := by
        refine ⟨fun i => if hi : i < q then (bA i hi).choose else 0, fun i hi => ?_⟩
        simp only [hi, dif_pos]
        exact (bA i hi).choose_spec
      obtain ⟨tt, htt⟩ := hch
      have z74 : zO h N0 f ((4, nI (g 0 c), w) :: L) sc S (mv_si N2 74 (g 0 c) (nI (12 * h + j))) := zO_si q2 (by unfold zA; omega) (by omega)
      have P3 : yP b h F M0 N0 (mv_si M (b + 9) c (nI j)) (mv_si N2 74 (g 0 c) (nI (12 * h + j))) := by
        obtain ⟨p1, p2', p3, p4, p5⟩ := zS_P hP s3
        refine ⟨fun k u1 u2 => ?_, fun k u => by simp (disch := omega) only [rd_hi, rd_mi, rd_hl, rd_ml, rd_hr, rd_mr, rd_si2, rd_sl1, rd_sl2, rd_sr1, rd_sr2]; exact p2' k u, fun x u => by simp (disch := omega) only [rd_hi, rd_mi, rd_hl, rd_ml, rd_hr, rd_mr, rd_si2, rd_sl1, rd_sl2, rd_sr1, rd_sr2]; exact p3 x u, fun x u => ?_, fun q k pq u1 u2 u3 u4 => ⟨by simp (disch := omega) only [rd_hi, rd_mi, rd_hl, rd_ml, rd_hr, rd_mr, rd_si2, rd_sl1, rd_sl2, rd_sr1, rd_sr2]; exact (p5 q k pq u1 u2 u3 u4).1, by simp (disch := omega) only [rd_hi, rd_mi, rd_hl, rd_ml, rd_hr, rd_mr, rd_si2, rd_sl1, rd_sl2, rd_sr1, rd_sr2]; exact (p5 q k pq u1 u2 u3 u4).2⟩⟩
        · by_cases ek : k = c
          · subst ek; exact absurd hkd u2
          · simp (disch := omega) only [rd_hi, rd_mi, rd_hl, rd_ml, rd_hr, rd_mr, rd_si2, rd_sl1, rd_sl2, rd_sr1, rd_sr2]; exact p1 k u1 u2
        · by_cases ek : x = g 0 c
          · subst ek; exact absurd hkr u
          · simp (disch := omega) only [rd_hi, rd_mi, rd_hl, rd_ml, rd_hr, rd_mr, rd_si2, rd_sl1, rd_sl2, rd_sr1, rd_sr2]; exact p4 x u
      have F3 : yF b h f p g (g 1 c) (c + 1) M N (mv_si M (b + 9) c (nI j)) (mv_si N2 74 (g 0 c) (nI (12 * h + j))) := by
        have hgc := (hTI c hc hc2).2.2.2.2.1
        refine ⟨fun k u => ⟨by simp (disch := omega) only [rd_hi, rd_mi, rd_hl, rd_ml, rd_hr, rd_mr, rd_si2, rd_sl1, rd_sl2, rd_sr1, rd_sr2], by simp (disch := omega) only [rd_hi, rd_mi, rd_hl, rd_ml, rd_hr, rd_mr, rd_si2, rd_sl1, rd_sl2, rd_sr1, rd_sr2]⟩, fun j u => by simp (disch := omega) only [rd_hi, rd_mi, rd_hl, rd_ml, rd_hr, rd_mr, rd_si2, rd_sl1, rd_sl2, rd_sr1, rd_sr2], fun j u => by simp (disch := omega) only [rd_hi, rd_mi, rd_hl, rd_ml, rd_hr, rd_mr, rd_si2, rd_sl1, rd_sl2, rd_sr1, rd_sr2]; exact s3.1 _ _ (by omega), fun x u => ?_⟩
        have := u c (by omega) (by omega)
        exact ⟨by simp (disch := omega) only [rd_hi, rd_mi, rd_hl, rd_ml, rd_hr, rd_mr, rd_si2, rd_sl1, rd_sl2, rd_sr1, rd_sr2]; exact s3.1 _ _ (by omega), by simp (disch := omega) only [rd_hi, rd_mi, rd_hl, rd_ml, rd_hr, rd_mr, rd_si2, rd_sl1, rd_sl2, rd_sr1, rd_sr2]; exact s3.1 _ _ (by omega), by simp (disch := omega) only [rd_hi, rd_mi, rd_hl, rd_ml, rd_hr, rd_mr, rd_si2, rd_sl1, rd_sl2, rd_sr1, rd_sr2]; exact s3.1 _ _ (by omega)⟩
      have T3 : yT b h f p m hi F g M0 (mv_si M (b + 9) c (nI j)) (mv_si N2 74 (g 0 c) (nI (12 * h + j))) lo (g 1 c) := yT_frame hTI hm2 hc hc2 hT F3
      have Sc3 : ySc b h f p m hi g (mv_si M (b + 9) c (nI j)) (mv_si N2 74 (g 0 c) (nI (12 * h + j))) sc S c := ySc_frame hm2 hSc F3 (by omega)
      obtain ⟨N4, w1, w2, w3⟩ := z_args (x := g 0 c) (a := a) (q := j) (e := e) (t := tt) (pq := q) (g := g) (L0 := (4, nI (g 0 c), w) :: L) hh (by omega) (by omega) b3 (by omega) e72 (fun N _ z => z.trans e72) (fun i hi => (hp3 i hi).2.2) (by rw [List.length_cons]; omega) q (Nat.le_refl _) (mv_si N2 74 (g 0 c) (nI (12 * h + j))) (by rw [Nat.sub_self]; exact z74) (by simp (disch := omega) only [rd_hi, rd_mi, rd_hl, rd_ml, rd_hr, rd_mr, rd_si2, rd_sl1, rd_sl2, rd_sr1, rd_sr2]; exact f72) (fun i hi => by
        simp (disch := omega) only [rd_hi, rd_mi, rd_hl, rd_ml, rd_hr, rd_mr, rd_si2, rd_sl1, rd_sl2, rd_sr1, rd_sr2]
        rw [(zS_P hP s3).2.2.2.2 j i q j2 b1 b3 hi |>.2]
        exact (htt i hi).2.2)
      rw [w1] at fin1
      have eP := jc g1 fin1
      refine JT_step eP (JT_mono (t_args (e := e) (tt := tt) (pq := q) (q := j) (y := y) (k := k) hG hU hc hc2 hl hB hk0 hk00 j2 b1 b3 ⟨mq, b4, b6, b5⟩ b8 (fun i hi => ⟨(htt i hi).1, (htt i hi).2.1⟩) hp0 (fun hi => ⟨(hp1 hi).2.1, (hp1 hi).2.2⟩) (fun i hi => hp2 i hi) (fun i hi => ⟨(hp3 i hi).1, (hp3 i hi).2.1⟩) H q 0 (by omega) (M0.1 (b + 10) c) _ N4 (fun hi => (hp1 hi).1) yo w2 (zS_P P3 w3) (zS_Sc Sc3 w3) (by unfold aB; rw [if_pos rfl]; exact zS_T T3 w3) (fun j hj => by omega)) (fun r M' N' hq' => ?_))
      obtain ⟨o1, o2, o3, o4, o5, o6, o7⟩ := hq'
      have oB : aB g c e 0 = g 1 c := by unfold aB; rw [if_pos rfl]
      rw [oB] at o6
      have g9 : M'.1 (b + 9) c = nI j := by rw [(o6.1 c (by omega)).2]; simp (disch := omega) only [rd_hi, rd_mi, rd_hl, rd_ml, rd_hr, rd_mr, rd_si2, rd_sl1, rd_sl2, rd_sr1, rd_sr2]
      have g74 : N'.1 74 (g 0 c) = nI (12 * h + j) := by
        rw [(o6.2.2.2 (g 0 c) (fun k k1 k2 => g0_ne hTI hc hc2 (by omega) (by omega) (by omega))).2.2, w3.1 _ _ (by omega)]; simp (disch := omega) only [rd_hi, rd_mi, rd_hl, rd_ml, rd_hr, rd_mr, rd_si2, rd_sl1, rd_sl2, rd_sr1, rd_sr2]
      have g71 : N'.1 71 (g 0 c) = nI 8 := (o3.1.1 _ _ (by unfold zA; omega)).trans hkr
      have g65 : N'.1 65 (12 * h + j) = nI y := (o3.1.1 _ _ (by unfold zA; omega)).trans b9
      have e44 := o3.2.2.2.2.1
      refine ⟨.inr ⟨y, b7, o1, .inr (.inr (.inr (.inl ⟨hkd, j, q, e, j2, g9, g74, b8, b1, e11, b3, fun hi => (hp1 hi).1, fun i hi => (hp2 i hi).2.2, fun i hi => ⟨(hp3 i hi).1, (hp3 i hi).2.1, tt i, (htt i hi).1, o7 i hi, (htt i hi).2.1⟩⟩)))⟩, fun z => by rw [hkd] at z; exact absurd z (by decide), o2, ⟨sc, S, o3, fun _ _ => rfl, Nat.le_refl _⟩, o4, o5, yF_trans F3 (yF_trans (zS_F w3) (yF_mono o6 (Nat.le_refl _) (by omega))), ?_⟩
      rw [sh_8 (q := 12 * h + j) (sc := sc) (by omega) (by omega) (by simp (disch := omega) only [rd_hi, rd_mi, rd_hl, rd_ml, rd_hr, rd_mr, rd_si2, rd_sl1, rd_sl2, rd_sr1, rd_sr2]; exact g71) (by simp (disch := omega) only [rd_hi, rd_mi, rd_hl, rd_ml, rd_hr, rd_mr, rd_si2, rd_sl1, rd_sl2, rd_sr1, rd_sr2]; exact e44) (by simp (disch := omega) only [rd_hi, rd_mi, rd_hl, rd_ml, rd_hr, rd_mr, rd_si2, rd_sl1, rd_sl2, rd_sr1, rd_sr2]; exact g74), rd_mi (by omega), g65, o1]
    · rw [if_neg (by rw [k_eq (by omega) (by omega)]; exact hpe)]
      rw [if_neg (by rw [k_eq (by omega) (by omega)]; omega)] at fin1
      refine told (v := 5) (by omega) (by omega) g1 (fin1.trans ?_)
      unfold fX11_judgeCall_74
      rw [if_neg (nI_ne_m1 (by omega))]
      rfl
  · rw [if_pos (show nN = -1 from rfl)]
    refine told (v := 4) (by omega) (by omega) (zf1 (fun j _ j2 => by rw [f64, ← titles j j2, ← cM2]; exact hno j (by omega) j2)) ?_
    rw [fin0 nN, if_pos (show nN = -1 from rfl)]
    unfold fX11_judgeCall_74
    rw [if_pos (show nN = -1 from rfl)]
    rfl
end TK2
