/-! TYPES: case -/
section TE2
variable {b h n cnt f m nd F ND sc lo hi xl xh an p c k nb pl t k0 B : Nat} {M M' M0 M1 N N' N0 N1 N2 : mv_M} {T S : Nat → Nat} {g : Nat → Nat → Nat} {lab : Nat → Nat} {L : List (Nat × Int32 × Int32)} {w : Int32}
set_option maxHeartbeats 4000000 in
theorem o_case {c1 c2 m0 : Nat} (hG : yG b h M0 N0 T n cnt F ND) (hU : yU b h M0 N0 T n F ND f lo hi xl xh an p m g lab) (hc : lo ≤ c) (hc2 : c < hi) (hw : wW w) (hl : L.length + 5 < 2999) (hB : L.length + 5 ≤ B) (hk0 : k0 ≤ k) (hk00 : 0 < k0) (hy : yO b M0 f sc S M) (hz : zO h N0 f ((1, nI (g 0 c), w) :: L) sc S N) (hP : yP b h F M0 N0 M N) (hSc : ySc b h f p m hi g M N sc S c) (hT : yT b h f p m hi F g M0 M N lo (g 1 c)) (v1 : c2 + 1 = c) (v2 : c1 < c2) (v3 : g 1 c ≤ c1) (v4 : g 1 c2 = c1 + 1) (v5 : g 1 c = g 1 c1) (e9 : M0.1 (b + 9) c = nI c1) (e10 : M0.1 (b + 10) c = nI c2) (e72 : N0.1 72 (g 0 c) = nI (g 0 c1)) (e73 : N0.1 73 (g 0 c) = nI (g 0 c2)) (hkd : M0.1 (b + 8) c = nI 306) (hkr : N0.1 71 (g 0 c) = nI 4) (hp0 : p ≤ m0) (hm0 : m0 + 1 < m) (e11 : M0.1 (b + 11) c = nI m0) (e74 : N0.1 74 (g 0 c) = nI m0) (hg2 : g 2 m0 = c) (hg3 : g 2 (m0 + 1) = c) (H1 : ySp b h M0 N0 f p m hi F g lo c1 k0 B) (H2 : ySp b h M0 N0 f p m hi F g lo c2 k0 B) : JT b h M0 N0 f N (RX9_typeOf (k + 1 + 1) 1 (nI c) w M) (oQ b h M0 N0 f p m hi F g lo c w L sc S M N) := by
  have hx := hG.1
  have hb := hx.1
  have hTI := hU.2.2.2.2.2.2.2.2.2.1
  obtain ⟨x1, x2, _⟩ := hTI c hc hc2
  have hxr := hU.2.2.1
  have hh := hG.2.1
  have hND := hx.2.2.2.2.1.2
  have hhi := hU.2.1
  have hf := hU.1
  have hF := hx.2.2.2.1.2
  have hm := hU.2.2.2.2.1
  have hm2 := hU.2.2.2.2.2.2.2.1
  have hlo := (hTI c hc hc2).2.2.2.1
  have xc1 := hTI c1 (by omega) (by omega)
  have xc2 := hTI c2 (by omega) (by omega)
  have c9 : M.1 (b + 9) c = nI c1 := (hP.1 c (by rw [hkd]; decide) (by rw [hkd]; decide)).trans e9
  have c11 : M.1 (b + 11) c = nI m0 := (hy.1.1 _ _ ((yA_ne hb).2.2.2.2.2.2.2.1 _)).trans e11
  have c43 := hy.2.2.1
  obtain ⟨q0, s0⟩ := z_pop hz
  obtain ⟨N2, p2, q2, s2⟩ := z_push (s := 4) (a := nI (g 0 c)) (w := w) q0 (by omega)
  obtain ⟨N3, p3, q3, s3⟩ := z_push (s := 1) (a := nI (g 0 c2)) (w := w) q2 (by simp only [List.length_cons]; omega)
  obtain ⟨N4, p4, q4, s4⟩ := z_push (s := 3) (a := nI (g 0 c)) (w := nI 0) q3 (by simp only [List.length_cons]; omega)
  obtain ⟨N5, p5, q5, s5⟩ := z_push (s := 1) (a := nI (g 0 c1)) (w := nM) q4 (by simp only [List.length_cons]; omega)
  have sA := zS_trans s0 (zS_trans s2 (zS_trans s3 (zS_trans s4 s5)))
  have e71 : N2.1 71 (g 0 c) = nI 4 := (q2.1.1 _ _ (by unfold zA; omega)).trans hkr
  have f71 : N4.1 71 (g 0 c) = nI 4 := (q4.1.1 _ _ (by unfold zA; omega)).trans hkr
  have f73 : N2.1 73 (g 0 c) = nI (g 0 c2) := (q2.1.1 _ _ (by unfold zA; omega)).trans e73
  have f72 : N4.1 72 (g 0 c) = nI (g 0 c1) := by
    rw [(zS_trans s0 (zS_trans s2 (zS_trans s3 s4))).1 _ _ (by omega), hP.2.2.1 _ (by rw [hkr]; decide)]; exact e72
  have eP : fX11_judge_71 N = fX11_judge_71 N5 := by
    refine T_go ((z_g1 hz (by omega)).trans ?_)
    have p5' : fX11_task (nI 1) (nI (g 0 c1)) (-nI 2) N4 = some ((), N5) := p5
    unfold fX11_onJudge fX11_onJudge_205
    simp (disch := omega) only [p2, e71, f73, p3, p4, f71, f72, p5', k_iT, k_iF, Bool.false_eq_true, eq_self, Nat.add_zero, k_lt', k_bs, k_T, k_F, k_inb, k_ck, k_nz, ↓kN, kL, k_lt, k_le, k_eq, kn_le, kn_lt, kn_eq, kn_le', kn_lt', kn_eq', nI_clamp, nI_add, k_sub, k_mul, k_div, rd_hi, rd_mi, rd_hl, rd_ml, rd_hr, rd_mr, rd_si2, rd_sl1, rd_sl2, rd_sr1, rd_sr2]
  rw [t_own0 hx hy.1 (show c < ND by omega) hkd, if_neg (by decide), if_neg (by decide), if_neg (by decide), if_neg (by decide), if_neg (by decide), if_neg (by decide), if_pos (by decide)]
  refine JT_bind (Q := oQ b h M0 N0 f p m hi F g lo c w L sc S M N) ?_ (fun nb pl r M' hd => ok_some hd) (fun r M' N' hq => JT_some hq)
  rw [RX9_typeOf, if_neg (by decide), if_neg (by decide), if_neg (by decide), if_neg (by decide), if_neg (by decide), if_neg (by decide)]
  unfold fX9_typeOfCase
  rw [y_get hx hy.1, k_inb (by omega) (by omega), k_ck, nI_clamp (by omega), k_lt', c11, y_get hx hy.1, k_ck, c9]
  obtain ⟨j, rfl⟩ : ∃ j, k = j + 1 := ⟨k - 1, by omega⟩
  refine JT_step eP (JT_bind (H1 (j + 1) hk0 nM (.inr (.inl rfl)) _ sc S M N5 (by simp only [List.length_cons]; omega) hy q5 (zS_P hP sA) (zS_Sc (ySc_in hTI hc v3 (by omega) hSc) sA) (by rw [← v5]; exact zS_T hT sA)) (fun nb pl r M' hd => ?_) ?_)
  · obtain ⟨va, ea⟩ := c_first r M'
    have d43 : M'.1 4 3 = nI f := hd.2.2.2.2.2.1
    rw [y_get hx hd.1, ea, k_bs, d43]
    refine ok_bind (ok_mono (yD_set hx hd hf (by omega)) (fun _ M9 h9 => ?_))
    obtain ⟨vb, eb⟩ := c_second r M9
    have d43' : M9.1 4 3 = nI f := h9.2.2.2.2.2.1
    rw [y_get hx h9.1, eb, k_bs, d43', nI_1]
    refine ok_bind (ok_mono (yD_set hx h9 hf (by omega)) (fun _ M10 h10 => ?_))
    obtain ⟨s, hs16, hs⟩ := h10.2.2.2.2.2.2
    rw [k_lt', hs]
    refine ok_bind (ok_mono (yD_open hx h10) (fun _ M11 h11 => ?_))
    refine ok_bind (ok_mono (yD_open hx h11) (fun _ M12 h12 => ?_))
    rw [y_get hx h12.1, k_ck]
    show mv_ok (mv_bind (RX9_typeOf (j + 1) 0 _ _ M12) _) _
    rw [yD_ty h12, k_bs]
    exact yD_s45 hx h12 hs16
  rintro r M5 N6 ⟨y1, rfl, u1, u2, u3, u4, u5, u6, u7, u8⟩
  have F1 : yF b h f p g (g 1 c1) (c1 + 1) M N M5 N6 := yF_trans (zS_F sA) u7
  have hSc5 : ySc b h f p m hi g M5 N6 sc S c := ySc_frame hm2 hSc F1 (by omega)
  have hy1 : 0 < y1 := by
    rcases u2 with z | z | z
    · exact absurd z (by decide)
    · exact absurd z.symm (nI_ne_nM (by omega))
    · exact z.2
  obtain ⟨S1, S2, S3⟩ := S_more hSc5 hp0 (show m0 < m by omega) hg2
  have S3' : ∀ k, k < sc → S k ≠ m0 + 1 := by
    intro k hk e
    obtain ⟨s1, s2, _⟩ := hSc5.1 k hk
    rw [e] at s2
    rcases s2 with z | ⟨z1, z2, z3, z4, z5⟩
    · omega
    · omega
  have S4 : ∀ j k, j < k → k < sc + 1 + 1 → (fun k => if k < sc + 1 then (fun k => if k < sc then S k else m0) k else m0 + 1) j ≠ (fun k => if k < sc + 1 then (fun k => if k < sc then S k else m0) k else m0 + 1) k := by
    intro j k hj hk
    show (if j < sc + 1 then (if j < sc then S j else m0) else m0 + 1) ≠ (if k < sc + 1 then (if k < sc then S k else m0) else m0 + 1)
    rw [if_pos (show j < sc + 1 by omega)]
    by_cases h : k < sc + 1
    · rw [if_pos h]; exact S2 j k hj h
    · rw [if_neg h]
      by_cases h2 : j < sc
      · rw [if_pos h2]; exact S3' j h2
      · rw [if_neg h2]; omega
  have hs16 : sc + 1 + 1 ≤ m := pigeon m (sc + 1 + 1) _ (fun k hk => by
    show (if k < sc + 1 then (if k < sc then S k else m0) else m0 + 1) < m
    by_cases h : k < sc + 1
    · rw [if_pos h]; exact S1 k h
    · rw [if_neg h]; exact hm0) S4
  -- the class sets the names' types and lets them stand
  have w43 : M5.1 4 3 = nI f := u3.2.2.1
  rw [y_get hx u3.1, (f_first u1 M5).1, k_bs, w43, y_setName hx u3.1 hf hm hm2 (show m0 < m by omega), k_bs]
  have y8 : yO b M0 f sc S (mv_si M5 (b + 7) (f * 16 + m0) (nI ((y1 - 1) / 2))) := by
    obtain ⟨a1, a2, a3, a4, a5, a6⟩ := u3
    exact ⟨yW_si a1 (by unfold yA; omega), by simp (disch := omega) only [rd_hi, rd_mi, rd_hl, rd_ml, rd_hr, rd_mr, rd_si2, rd_sl1, rd_sl2, rd_sr1, rd_sr2]; exact a2, by simp (disch := omega) only [rd_hi, rd_mi, rd_hl, rd_ml, rd_hr, rd_mr, rd_si2, rd_sl1, rd_sl2, rd_sr1, rd_sr2]; exact a3, by simp (disch := omega) only [rd_hi, rd_mi, rd_hl, rd_ml, rd_hr, rd_mr, rd_si2, rd_sl1, rd_sl2, rd_sr1, rd_sr2]; exact a4, a5, fun k hk => by simp (disch := omega) only [rd_hi, rd_mi, rd_hl, rd_ml, rd_hr, rd_mr, rd_si2, rd_sl1, rd_sl2, rd_sr1, rd_sr2]; exact a6 k hk⟩
  have w43' := y8.2.2.1
  rw [y_get hx y8.1, (f_second u1 _).1, k_bs, w43', nI_1, y_setName hx y8.1 hf hm hm2 hm0, k_bs]
  have y9 : yO b M0 f sc S (mv_si (mv_si M5 (b + 7) (f * 16 + m0) (nI ((y1 - 1) / 2))) (b + 7) (f * 16 + (m0 + 1)) (nI ((y1 - 1) % 2))) := by
    obtain ⟨a1, a2, a3, a4, a5, a6⟩ := y8
    exact ⟨yW_si a1 (by unfold yA; omega), by simp (disch := omega) only [rd_hi, rd_mi, rd_hl, rd_ml, rd_hr, rd_mr, rd_si2, rd_sl1, rd_sl2, rd_sr1, rd_sr2]; exact u3.2.1, by simp (disch := omega) only [rd_hi, rd_mi, rd_hl, rd_ml, rd_hr, rd_mr, rd_si2, rd_sl1, rd_sl2, rd_sr1, rd_sr2]; exact u3.2.2.1, by simp (disch := omega) only [rd_hi, rd_mi, rd_hl, rd_ml, rd_hr, rd_mr, rd_si2, rd_sl1, rd_sl2, rd_sr1, rd_sr2]; exact u3.2.2.2.1, a5, fun k hk => by simp (disch := omega) only [rd_hi, rd_mi, rd_hl, rd_ml, rd_hr, rd_mr, rd_si2, rd_sl1, rd_sl2, rd_sr1, rd_sr2]; exact u3.2.2.2.2.2 k hk⟩
  have c45 := y9.2.2.2.1
  obtain ⟨yo1, yo2⟩ := y_open (v := m0) hx y9 (by omega)
  obtain ⟨yo3, yo4⟩ := y_open (v := m0 + 1) hx yo2 (by omega)
  rw [k_lt', c45, yo1, k_bs, yo3, k_bs]
  -- the reference
  have f71' : (mv_si N6 62 36 (nI (L.length + 1 + 1))).1 71 (g 0 c) = nI 4 := by
    simp (disch := omega) only [rd_hi, rd_mi, rd_hl, rd_ml, rd_hr, rd_mr, rd_si2, rd_sl1, rd_sl2, rd_sr1, rd_sr2]; exact (u4.1.1 _ _ (by unfold zA; omega)).trans hkr
  have f72' : (mv_si N6 62 36 (nI (L.length + 1 + 1))).1 72 (g 0 c) = nI (g 0 c1) := by
    simp (disch := omega) only [rd_hi, rd_mi, rd_hl, rd_ml, rd_hr, rd_mr, rd_si2, rd_sl1, rd_sl2, rd_sr1, rd_sr2]; rw [u5.2.2.1 _ (by rw [hkr]; decide)]; exact e72
  have f74' : (mv_si N6 62 36 (nI (L.length + 1 + 1))).1 74 (g 0 c) = nI m0 := by
    simp (disch := omega) only [rd_hi, rd_mi, rd_hl, rd_ml, rd_hr, rd_mr, rd_si2, rd_sl1, rd_sl2, rd_sr1, rd_sr2]; rw [u5.2.2.2.1 _ (by rw [hkr]; decide)]; exact e74
  have f76' : (mv_si N6 62 36 (nI (L.length + 1 + 1))).1 76 (g 0 c1) = nI y1 := by
    simp (disch := omega) only [rd_hi, rd_mi, rd_hl, rd_ml, rd_hr, rd_mr, rd_si2, rd_sl1, rd_sl2, rd_sr1, rd_sr2]
    obtain ⟨y', _, y2', y3', _⟩ := u6 c1 (by omega) (by omega)
    rw [u8] at y2'
    rw [y3', y2']
  obtain ⟨r0, r1⟩ := z_pop u4
  simp only [List.length_cons] at r0 r1
  obtain ⟨zt1, zt2⟩ := z_tells (v := m0) (y := nI ((y1 - 1) / 2)) hh (by omega) r0 (by omega) (by omega)
  obtain ⟨zt3, zt4⟩ := z_tells (v := m0 + 1) (y := nI ((y1 - 1) % 2)) hh (by omega) zt2 (by omega) (by omega)
  generalize hN8 : mv_si (mv_si (mv_si (mv_si N6 62 36 (nI (L.length + 1 + 1))) 70 (16 * (12 * h + f) + m0) (nI ((y1 - 1) / 2))) 86 sc (nI m0)) 62 44 (nI (sc + 1)) = N8 at zt1 zt3 zt4
  have g71 : N8.1 71 (g 0 c) = nI 4 := by rw [← hN8]; simp (disch := omega) only [rd_hi, rd_mi, rd_hl, rd_ml, rd_hr, rd_mr, rd_si2, rd_sl1, rd_sl2, rd_sr1, rd_sr2]; exact (u4.1.1 _ _ (by unfold zA; omega)).trans hkr
  have g74 : N8.1 74 (g 0 c) = nI m0 := by rw [← hN8]; simp (disch := omega) only [rd_hi, rd_mi, rd_hl, rd_ml, rd_hr, rd_mr, rd_si2, rd_sl1, rd_sl2, rd_sr1, rd_sr2]; rw [u5.2.2.2.1 _ (by rw [hkr]; decide)]; exact e74
  have eQ : fX11_judge_71 N6 = fX11_judge_71 (mv_si (mv_si (mv_si N8 70 (16 * (12 * h + f) + (m0 + 1)) (nI ((y1 - 1) % 2))) 86 (sc + 1) (nI (m0 + 1))) 62 44 (nI (sc + 1 + 1))) := by
    refine T_go ((z_g3 u4 (by simp only [List.length_cons]; omega) (by omega)).trans ?_)
    simp only [List.length_cons]
    rw [f72', k_inb (by omega) (by omega), k_ck, f71', if_neg (by decide), nI_clamp (by omega), f76', f74', (f_first u1 _).2, k_bs]
    unfold fX11_judge_233 fX11_judge_262 fX11_judge_271
    rw [zt1, k_bs, k_inb (by omega) (by omega), k_ck, nI_clamp (by omega), g71, if_pos (by decide), k_ck, (f_second u1 _).2, k_bs, g74, nI_1, zt3, k_bs]
  generalize hM9 : mv_si (mv_si (mv_si (mv_si (mv_si (mv_si M5 (b + 7) (f * 16 + m0) (nI ((y1 - 1) / 2))) (b + 7) (f * 16 + (m0 + 1)) (nI ((y1 - 1) % 2))) 43 sc (nI m0)) 4 5 (nI (sc + 1))) 43 (sc + 1) (nI (m0 + 1))) 4 5 (nI (sc + 1 + 1)) = M9 at yo4 ⊢
  generalize hN9 : mv_si (mv_si (mv_si N8 70 (16 * (12 * h + f) + (m0 + 1)) (nI ((y1 - 1) % 2))) 86 (sc + 1) (nI (m0 + 1))) 62 44 (nI (sc + 1 + 1)) = N9 at zt4 eQ
  have eM : ∀ c k, ¬ (c = b + 7 ∧ (k = f * 16 + m0 ∨ k = f * 16 + (m0 + 1))) → ¬ c = 43 → ¬ c = 4 → M9.1 c k = M5.1 c k := by
    intro c k z1 z2 z3
    rw [← hM9]; simp (disch := omega) only [rd_hi, rd_mi, rd_hl, rd_ml, rd_hr, rd_mr, rd_si2, rd_sl1, rd_sl2, rd_sr1, rd_sr2]
  have eN : ∀ c k, ¬ (c = 70 ∧ (k = 16 * (12 * h + f) + m0 ∨ k = 16 * (12 * h + f) + (m0 + 1))) → ¬ c = 86 → ¬ c = 62 → N9.1 c k = N6.1 c k := by
    intro c k z1 z2 z3
    rw [← hN9, ← hN8]; simp (disch := omega) only [rd_hi, rd_mi, rd_hl, rd_ml, rd_hr, rd_mr, rd_si2, rd_sl1, rd_sl2, rd_sr1, rd_sr2]
  have b7 : M9.1 (b + 7) (f * 16 + m0) = nI ((y1 - 1) / 2) := by rw [← hM9]; simp (disch := omega) only [rd_hi, rd_mi, rd_hl, rd_ml, rd_hr, rd_mr, rd_si2, rd_sl1, rd_sl2, rd_sr1, rd_sr2]
  have n70 : N9.1 70 (16 * (12 * h + f) + m0) = nI ((y1 - 1) / 2) := by rw [← hN9, ← hN8]; simp (disch := omega) only [rd_hi, rd_mi, rd_hl, rd_ml, rd_hr, rd_mr, rd_si2, rd_sl1, rd_sl2, rd_sr1, rd_sr2]
  have b8 : M9.1 (b + 7) (f * 16 + (m0 + 1)) = nI ((y1 - 1) % 2) := by rw [← hM9]; simp (disch := omega) only [rd_hi, rd_mi, rd_hl, rd_ml, rd_hr, rd_mr, rd_si2, rd_sl1, rd_sl2, rd_sr1, rd_sr2]
  have n71 : N9.1 70 (16 * (12 * h + f) + (m0 + 1)) = nI ((y1 - 1) % 2) := by rw [← hN9]; simp (disch := omega) only [rd_hi, rd_mi, rd_hl, rd_ml, rd_hr, rd_mr, rd_si2, rd_sl1, rd_sl2, rd_sr1, rd_sr2]
  have P9 : yP b h F M0 N0 M9 N9 := by
    obtain ⟨p1, p2, p3, p4, p5⟩ := u5
    have hpp := hU.2.2.2.1
    have hp4 := hU.2.2.2.2.2.1
    refine ⟨fun k u1 u2 => (eM _ _ (by omega) (by omega) (by omega)).trans (p1 k u1 u2), fun k u => (eM _ _ (by omega) (by omega) (by omega)).trans (p2 k u), fun x u => (eN _ _ (by omega) (by omega) (by omega)).trans (p3 x u), fun x u => (eN _ _ (by omega) (by omega) (by omega)).trans (p4 x u), fun q k pq u1 u2 u3 u4 => ?_⟩
    obtain ⟨r1, r2⟩ := p5 q k pq u1 u2 u3 u4
    have ne : ¬ (q = f ∧ p ≤ k) := by
      rintro ⟨rfl, z⟩
      rw [hpp, k_eq (by omega) (by omega)] at u2
      omega
    exact ⟨(eM _ _ (by omega) (by omega) (by omega)).trans r1, (eN _ _ (by omega) (by omega) (by omega)).trans r2⟩
  have T9 : yT b h f p m hi F g M0 M9 N9 lo (c1 + 1) := by
    intro a a1 a2
    obtain ⟨y', w1, w2, w3, w4⟩ := u6 a a1 a2
    refine ⟨y', w1, (eM _ _ (by omega) (by omega) (by omega)).trans w2, (eN _ _ (by omega) (by omega) (by omega)).trans w3, nt_congr w4 (fun k _ _ => eM _ _ (by omega) (by omega) (by omega)) (eM _ _ (by omega) (by omega) (by omega)) (fun nm z zm => ?_) (eN _ _ (by omega) (by omega) (by omega)) (eN _ _ (by omega) (by omega) (by omega))⟩
    have ne : nm ≠ m0 := by
      intro e
      subst e
      rcases z with (z | ⟨z1, z2, z3, z4, z5⟩) | ⟨z1, z2⟩
      · omega
      · rw [hg2, show c - 1 = c2 by omega, v4] at z4; omega
      · omega
    have ne' : nm ≠ m0 + 1 := by
      intro e
      subst e
      rcases z with (z | ⟨z1, z2, z3, z4, z5⟩) | ⟨z1, z2⟩
      · omega
      · rw [hg3, show c - 1 = c2 by omega, v4] at z4; omega
      · omega
    exact ⟨eM _ _ (by omega) (by omega) (by omega), eN _ _ (by omega) (by omega) (by omega)⟩
  have g30 : g 3 m0 = 1 := (hU.2.2.2.2.2.2.2.2.2.2.2.2 m0).1 (.inr ⟨by rw [hg2]; exact hkd, .inl (by rw [hg2]; exact e11)⟩)
  have g31 : g 3 (m0 + 1) = 1 := (hU.2.2.2.2.2.2.2.2.2.2.2.2 (m0 + 1)).1 (.inr ⟨by rw [hg3]; exact hkd, .inr ⟨by omega, by rw [hg3]; exact e11⟩⟩)
  have Sc9 : ySc b h f p m hi g M9 N9 (sc + 1 + 1) (fun k => if k < sc + 1 then (fun k => if k < sc then S k else m0) k else m0 + 1) c2 := by
    refine ⟨fun k hk => ?_, S4⟩
    show (if k < sc + 1 then (if k < sc then S k else m0) else m0 + 1) < m ∧ IS g p hi c2 (if k < sc + 1 then (if k < sc then S k else m0) else m0 + 1) ∧ ∃ y, y ≤ 4 ∧ M9.1 (b + 7) (f * 16 + (if k < sc + 1 then (if k < sc then S k else m0) else m0 + 1)) = nI y ∧ N9.1 70 (16 * (12 * h + f) + (if k < sc + 1 then (if k < sc then S k else m0) else m0 + 1)) = nI y
    by_cases hks : k < sc
    · rw [if_pos (show k < sc + 1 by omega), if_pos hks]
      obtain ⟨s1, s2', y', s3', s4', s5'⟩ := hSc5.1 k hks
      have ne := S3 k hks
      have ne' := S3' k hks
      exact ⟨s1, IS_in hTI hc (by omega) (by omega) s2', y', s3', (eM _ _ (by omega) (by omega) (by omega)).trans s4', (eN _ _ (by omega) (by omega) (by omega)).trans s5'⟩
    · by_cases hks2 : k < sc + 1
      · rw [if_pos hks2, if_neg hks]
        refine ⟨by omega, .inr ⟨hp0, by omega, ?_, ?_, by omega⟩, (y1 - 1) / 2, by omega, b7, n70⟩
        · rw [hg2, show c - 1 = c2 by omega, v4]; omega
        · rw [hg2, show c - 1 = c2 by omega]; omega
      · rw [if_neg hks2]
        refine ⟨hm0, .inr ⟨by omega, by omega, ?_, ?_, by omega⟩, (y1 - 1) % 2, by omega, b8, n71⟩
        · rw [hg3, show c - 1 = c2 by omega, v4]; omega
        · rw [hg3, show c - 1 = c2 by omega]; omega
  have F9 : yF b h f p g (g 1 c) (c + 1) M5 N6 M9 N9 := ⟨fun k _ => ⟨eM _ _ (by omega) (by omega) (by omega), eM _ _ (by omega) (by omega) (by omega)⟩, fun j z => eM _ _ (by have := z m0 hp0 (by omega) (by omega) (by omega); have := z (m0 + 1) (by omega) (by omega) (by omega) (by omega); omega) (by omega) (by omega), fun j z => eN _ _ (by have := z m0 hp0 (by omega) (by omega) (by omega); have := z (m0 + 1) (by omega) (by omega) (by omega) (by omega); omega) (by omega) (by omega), fun x _ => ⟨eN _ _ (by omega) (by omega) (by omega), eN _ _ (by omega) (by omega) (by omega), eN _ _ (by omega) (by omega) (by omega)⟩⟩
  have c10 : M9.1 (b + 10) c = nI c2 := (yo4.1.1 _ _ ((yA_ne hb).2.2.2.2.2.2.1 _)).trans e10
  rw [y_get hx yo4.1, k_ck, c10]
  refine JT_step eQ (JT_bind (H2 (j + 1) hk0 w hw _ (sc + 1 + 1) _ M9 N9 (by simp only [List.length_cons]; omega) yo4 zt4 P9 Sc9 (by rw [v4]; exact T9)) (fun nb pl r M' hd => ?_) ?_)
  · exact yD_s45 hx hd (by omega)
  rintro r M6 N7 ⟨y2, rfl, o1, o2, o3, o4, o5, o6, o7, o8⟩
  rw [k_lt']
  have key : ∀ nm', p ≤ nm' → nm' < 16 → g 1 c2 ≤ g 2 nm' → g 2 nm' < c2 + 1 → m0 ≠ nm' ∧ m0 + 1 ≠ nm' := by
    intro nm' z1 z2 z3 z4
    refine ⟨fun e => ?_, fun e => ?_⟩
    · subst e
      omega
    · subst e
      omega
  have b7' : M6.1 (b + 7) (f * 16 + m0) = nI ((y1 - 1) / 2) := (o7.2.1 _ (fun nm' z1 z2 z3 z4 => by have := key nm' z1 z2 z3 z4; omega)).trans b7
  have n70' : N7.1 70 (16 * (12 * h + f) + m0) = nI ((y1 - 1) / 2) := (o7.2.2.1 _ (fun nm' z1 z2 z3 z4 => by have := key nm' z1 z2 z3 z4; omega)).trans n70
  have b8' : M6.1 (b + 7) (f * 16 + (m0 + 1)) = nI ((y1 - 1) % 2) := (o7.2.1 _ (fun nm' z1 z2 z3 z4 => by have := key nm' z1 z2 z3 z4; omega)).trans b8
  have n71' : N7.1 70 (16 * (12 * h + f) + (m0 + 1)) = nI ((y1 - 1) % 2) := (o7.2.2.1 _ (fun nm' z1 z2 z3 z4 => by have := key nm' z1 z2 z3 z4; omega)).trans n71
  have t1 : M6.1 (b + 13) c1 = nI y1 := by rw [(o7.1 c1 (by omega)).1, eM _ _ (by omega) (by omega) (by omega)]; exact u8
  have t76 : N7.1 76 (g 0 c2) = nI y2 := by
    obtain ⟨y', _, y2', y3', _⟩ := o6 c2 (by omega) (by omega)
    rw [o8] at y2'
    rw [y3', y2']
  have e71' : N7.1 71 (g 0 c) = nI 4 := (o4.1.1 _ _ (by unfold zA; omega)).trans hkr
  have e73' : N7.1 73 (g 0 c) = nI (g 0 c2) := (o4.1.1 _ _ (by unfold zA; omega)).trans e73
  have e44 := o4.2.2.2.2.1
  refine JT_some ⟨.inr ⟨y2, o1, rfl, .inr (.inr (.inr (.inr (.inl ⟨c1, c2, v1, v2, v3, e9, e10, .inr (.inr (.inr ⟨hkd, m0, y1, hp0, hm0, e11, hg2, hg3, hy1, u1, by simp (disch := omega) only [rd_hi, rd_mi, rd_hl, rd_ml, rd_hr, rd_mr, rd_si2, rd_sl1, rd_sl2, rd_sr1, rd_sr2]; exact t1, by simp (disch := omega) only [rd_hi, rd_mi, rd_hl, rd_ml, rd_hr, rd_mr, rd_si2, rd_sl1, rd_sl2, rd_sr1, rd_sr2]; exact b7', n70', by simp (disch := omega) only [rd_hi, rd_mi, rd_hl, rd_ml, rd_hr, rd_mr, rd_si2, rd_sl1, rd_sl2, rd_sr1, rd_sr2]; exact b8', n71', by simp (disch := omega) only [rd_hi, rd_mi, rd_hl, rd_ml, rd_hr, rd_mr, rd_si2, rd_sl1, rd_sl2, rd_sr1, rd_sr2]; exact o8⟩))⟩))))⟩, fun z => by rw [hkd] at z; exact absurd z (by decide), ?_, ⟨sc + 1 + 1, _, o4, fun k hk => ?_, by omega⟩, ?_, ?_, ?_, ?_⟩
  · obtain ⟨a1, a2, a3, a4, a5, a6⟩ := o3
    refine ⟨yW_si a1 (by unfold yA; omega), by simp (disch := omega) only [rd_hi, rd_mi, rd_hl, rd_ml, rd_hr, rd_mr, rd_si2, rd_sl1, rd_sl2, rd_sr1, rd_sr2]; exact a2, by simp (disch := omega) only [rd_hi, rd_mi, rd_hl, rd_ml, rd_hr, rd_mr, rd_si2, rd_sl1, rd_sl2, rd_sr1, rd_sr2]; exact a3, by simp (disch := omega) only [rd_hi, rd_mi, rd_hl, rd_ml, rd_hr, rd_mr, rd_si2, rd_sl1, rd_sl2, rd_sr1, rd_sr2], by omega, fun k hk => ?_⟩
    have := a6 k (by omega)
    simp only [hk, show k < sc + 1 by omega, if_true] at this
    simp (disch := omega) only [rd_hi, rd_mi, rd_hl, rd_ml, rd_hr, rd_mr, rd_si2, rd_sl1, rd_sl2, rd_sr1, rd_sr2]
    exact this
  · show (if k < sc + 1 then (if k < sc then S k else m0) else m0 + 1) = S k
    rw [if_pos (show k < sc + 1 by omega), if_pos hk]
  · obtain ⟨a1, a2, a3, a4, a5⟩ := o5
    exact ⟨fun k z1 z2 => by simp (disch := omega) only [rd_hi, rd_mi, rd_hl, rd_ml, rd_hr, rd_mr, rd_si2, rd_sl1, rd_sl2, rd_sr1, rd_sr2]; exact a1 k z1 z2, fun k z => by simp (disch := omega) only [rd_hi, rd_mi, rd_hl, rd_ml, rd_hr, rd_mr, rd_si2, rd_sl1, rd_sl2, rd_sr1, rd_sr2]; exact a2 k z, a3, a4, fun q k pq z1 z2 z3 z4 => ⟨by simp (disch := omega) only [rd_hi, rd_mi, rd_hl, rd_ml, rd_hr, rd_mr, rd_si2, rd_sl1, rd_sl2, rd_sr1, rd_sr2]; exact (a5 q k pq z1 z2 z3 z4).1, (a5 q k pq z1 z2 z3 z4).2⟩⟩
  · intro a a1 a2
    obtain ⟨y', w1, w2, w3, w4⟩ := o6 a a1 (by omega)
    exact ⟨y', w1, by simp (disch := omega) only [rd_hi, rd_mi, rd_hl, rd_ml, rd_hr, rd_mr, rd_si2, rd_sl1, rd_sl2, rd_sr1, rd_sr2]; exact w2, w3, nt_congr w4 (fun k _ _ => by simp (disch := omega) only [rd_hi, rd_mi, rd_hl, rd_ml, rd_hr, rd_mr, rd_si2, rd_sl1, rd_sl2, rd_sr1, rd_sr2]) (by simp (disch := omega) only [rd_hi, rd_mi, rd_hl, rd_ml, rd_hr, rd_mr, rd_si2, rd_sl1, rd_sl2, rd_sr1, rd_sr2]) (fun nm _ _ => ⟨by simp (disch := omega) only [rd_hi, rd_mi, rd_hl, rd_ml, rd_hr, rd_mr, rd_si2, rd_sl1, rd_sl2, rd_sr1, rd_sr2], rfl⟩) rfl rfl⟩
  · have FF := yF_trans (yF_mono F1 (show g 1 c ≤ g 1 c1 by omega) (show c1 + 1 ≤ c + 1 by omega)) (yF_trans F9 (yF_mono o7 (show g 1 c ≤ g 1 c2 by omega) (show c2 + 1 ≤ c + 1 by omega)))
    exact ⟨fun k z => ⟨by simp (disch := omega) only [rd_hi, rd_mi, rd_hl, rd_ml, rd_hr, rd_mr, rd_si2, rd_sl1, rd_sl2, rd_sr1, rd_sr2]; exact (FF.1 k z).1, by simp (disch := omega) only [rd_hi, rd_mi, rd_hl, rd_ml, rd_hr, rd_mr, rd_si2, rd_sl1, rd_sl2, rd_sr1, rd_sr2]; exact (FF.1 k z).2⟩, fun j z => by simp (disch := omega) only [rd_hi, rd_mi, rd_hl, rd_ml, rd_hr, rd_mr, rd_si2, rd_sl1, rd_sl2, rd_sr1, rd_sr2]; exact FF.2.1 j z, FF.2.2.1, FF.2.2.2⟩
  · rw [sh_4 (x2 := g 0 c2) (sc := sc) (by omega) (by omega) (by simp (disch := omega) only [rd_hi, rd_mi, rd_hl, rd_ml, rd_hr, rd_mr, rd_si2, rd_sl1, rd_sl2, rd_sr1, rd_sr2]; exact e71') (by simp (disch := omega) only [rd_hi, rd_mi, rd_hl, rd_ml, rd_hr, rd_mr, rd_si2, rd_sl1, rd_sl2, rd_sr1, rd_sr2]; exact e44) (by simp (disch := omega) only [rd_hi, rd_mi, rd_hl, rd_ml, rd_hr, rd_mr, rd_si2, rd_sl1, rd_sl2, rd_sr1, rd_sr2]; exact e73'), rd_mi (by omega), t76]
end TE2
