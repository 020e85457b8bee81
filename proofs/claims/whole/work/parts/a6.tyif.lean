/-! TYPES: if, pairs -/
def pv (y1 y2 : Nat) : Int32 := if y1 ≤ 1 ∧ y2 ≤ 1 then nI (1 + 2 * y1 + y2) else nN
section TI2
variable {b h n cnt f m nd F ND sc lo hi xl xh an p c k nb pl t k0 B : Nat} {M M' M0 M1 N N' N0 N1 N2 : mv_M} {T S : Nat → Nat} {g : Nat → Nat → Nat} {lab : Nat → Nat} {L : List (Nat × Int32 × Int32)} {w : Int32}
theorem le4 {y : Nat} (h : y ≤ 4) : y = 0 ∨ y = 1 ∨ y = 2 ∨ y = 3 ∨ y = 4 := by omega
theorem f_first {y : Nat} (hy : y ≤ 4) (M : mv_M) : fX6_firstOf (nI y) M = some (nI ((y - 1) / 2), M) ∧ fX11_firstOf (nI y) M = some (nI ((y - 1) / 2), M) := by
  rcases le4 hy with rfl | rfl | rfl | rfl | rfl <;> exact ⟨rfl, rfl⟩
theorem f_second {y : Nat} (hy : y ≤ 4) (M : mv_M) : fX6_secondOf (nI y) M = some (nI ((y - 1) % 2), M) ∧ fX11_secondOf (nI y) M = some (nI ((y - 1) % 2), M) := by
  rcases le4 hy with rfl | rfl | rfl | rfl | rfl <;> exact ⟨rfl, rfl⟩
theorem f_pair {y1 y2 : Nat} (h1 : y1 ≤ 4) (h2 : y2 ≤ 4) (M : mv_M) : fX6_pairOf (nI y1) (nI y2) M = some (pv y1 y2, M) ∧ fX11_pairOf (nI y1) (nI y2) M = some (pv y1 y2, M) := by
  unfold fX6_pairOf fX11_pairOf fX6_pairOf_10 fX11_pairOf_10 pv
  by_cases a : y1 ≤ 1
  · by_cases d : y2 ≤ 1
    · have ee : 1 + 2 * y1 + y2 = 1 + 2 * y1 + y2 := rfl
      constructor <;> simp (disch := omega) only [k_iT, k_iF, Bool.false_eq_true, eq_self, Nat.add_zero, k_lt', k_bs, k_T, k_F, k_inb, k_ck, k_nz, ↓kN, kL, k_lt, k_le, k_eq, kn_le, kn_lt, kn_eq, kn_le', kn_lt', kn_eq', nI_clamp, nI_add, k_sub, k_mul, k_div, rd_hi, rd_mi, rd_hl, rd_ml, rd_hr, rd_mr, rd_si2, rd_sl1, rd_sl2, rd_sr1, rd_sr2]
    · constructor <;> simp (disch := omega) only [k_iT, k_iF, Bool.false_eq_true, eq_self, Nat.add_zero, k_lt', k_bs, k_T, k_F, k_inb, k_ck, k_nz, ↓kN, kL, k_lt, k_le, k_eq, kn_le, kn_lt, kn_eq, kn_le', kn_lt', kn_eq', nI_clamp, nI_add, k_sub, k_mul, k_div, rd_hi, rd_mi, rd_hl, rd_ml, rd_hr, rd_mr, rd_si2, rd_sl1, rd_sl2, rd_sr1, rd_sr2] <;> rfl
  · constructor <;> simp (disch := omega) only [k_iT, k_iF, Bool.false_eq_true, eq_self, Nat.add_zero, k_lt', k_bs, k_T, k_F, k_inb, k_ck, k_nz, ↓kN, kL, k_lt, k_le, k_eq, kn_le, kn_lt, kn_eq, kn_le', kn_lt', kn_eq', nI_clamp, nI_add, k_sub, k_mul, k_div, rd_hi, rd_mi, rd_hl, rd_ml, rd_hr, rd_mr, rd_si2, rd_sl1, rd_sl2, rd_sr1, rd_sr2] <;> rfl
theorem z_g2 {x : Nat} (hr : zO h N0 f ((2, nI x, w) :: L) sc S N) (hl : L.length < 3000) (hx : x < 2002) : gX11_judge_71 N = if 0 ≤ w then fX11_judge_177 w ((mv_si N 62 36 (nI L.length)).1 74 x) 1 (mv_si N 62 36 (nI L.length)) else mv_chk (mv_inb ((mv_si N 62 36 (nI L.length)).1 73 x) 2002) (fX11_judge_177 ((mv_si N 62 36 (nI L.length)).1 76 ((mv_si N 62 36 (nI L.length)).1 73 x).toNatClampNeg) ((mv_si N 62 36 (nI L.length)).1 74 x) 1 (mv_si N 62 36 (nI L.length))) := by
  obtain ⟨a1, a2, a3, ⟨a4, a5⟩, a6, a7, a8⟩ := hr
  obtain ⟨s1, s2, s3, _⟩ := a5
  have e : (L.length + 1) - 1 = L.length := by omega
  rw [List.length_cons] at a4
  unfold gX11_judge_71
  simp (disch := omega) only [a4, a2, e, s1, s2, s3, k_iT, k_iF, k_lt', k_ck, k_inb, nI_clamp, k_sub, k_le, k_eq, kL, rd_hi, rd_mi]
  simp (disch := omega) only [k_F, k_T]
set_option maxHeartbeats 2000000 in
theorem o_if {c1 c2 c3 : Nat} (hG : yG b h M0 N0 T n cnt F ND) (hU : yU b h M0 N0 T n F ND f lo hi xl xh an p m g lab) (hc : lo ≤ c) (hc2 : c < hi) (hw : wW w) (hl : L.length + 5 < 2999) (hB : L.length + 5 ≤ B) (hk0 : k0 ≤ k) (hk00 : 0 < k0) (hy : yO b M0 f sc S M) (hz : zO h N0 f ((1, nI (g 0 c), w) :: L) sc S N) (hP : yP b h F M0 N0 M N) (hSc : ySc b h f p m hi g M N sc S c) (hT : yT b h f p m hi F g M0 M N lo (g 1 c)) (v1 : c3 + 1 = c) (v2 : c2 < c3) (v3 : c1 < c2) (v4 : g 1 c ≤ c1) (v5 : g 1 c3 = c2 + 1) (v6 : g 1 c2 = c1 + 1) (v7 : g 1 c = g 1 c1) (hkd : M0.1 (b + 8) c = nI 301) (hkr : N0.1 71 (g 0 c) = nI 2) (e9 : M0.1 (b + 9) c = nI c1) (e10 : M0.1 (b + 10) c = nI c2) (e11 : M0.1 (b + 11) c = nI c3) (e72 : N0.1 72 (g 0 c) = nI (g 0 c1)) (e73 : N0.1 73 (g 0 c) = nI (g 0 c2)) (e74 : N0.1 74 (g 0 c) = nI (g 0 c3)) (H1 : ySp b h M0 N0 f p m hi F g lo c1 k0 B) (H2 : ySp b h M0 N0 f p m hi F g lo c2 k0 B) (H3 : ySp b h M0 N0 f p m hi F g lo c3 k0 B) : JT b h M0 N0 f N (RX9_typeOf (k + 1 + 1) 1 (nI c) w M) (oQ b h M0 N0 f p m hi F g lo c w L sc S M N) := by
  have hx := hG.1
  have hb := hx.1
  have hTI := hU.2.2.2.2.2.2.2.2.2.1
  obtain ⟨x1, x2, _⟩ := hTI c hc hc2
  have hxr := hU.2.2.1
  have hh := hG.2.1
  have hND := hx.2.2.2.2.1.2
  have hhi := hU.2.1
  have hm2 := hU.2.2.2.2.2.2.2.1
  have hlo := (hTI c hc hc2).2.2.2.1
  have xc2 := hTI c2 (by omega) (by omega)
  have c9 : M.1 (b + 9) c = nI c1 := (hP.1 c (by rw [hkd]; decide) (by rw [hkd]; decide)).trans e9
  obtain ⟨q0, s0⟩ := z_pop hz
  obtain ⟨N2, p2, q2, s2⟩ := z_push (s := 4) (a := nI (g 0 c)) (w := w) q0 (by omega)
  obtain ⟨N3, p3, q3, s3⟩ := z_push (s := 2) (a := nI (g 0 c)) (w := w) q2 (by simp only [List.length_cons]; omega)
  obtain ⟨N4, p4, q4, s4⟩ := z_push (s := 1) (a := nI (g 0 c2)) (w := w) q3 (by simp only [List.length_cons]; omega)
  obtain ⟨N5, p5, q5, s5⟩ := z_push (s := 1) (a := nI (g 0 c1)) (w := nI 0) q4 (by simp only [List.length_cons]; omega)
  have sA := zS_trans s0 (zS_trans s2 (zS_trans s3 (zS_trans s4 s5)))
  have e71 : N2.1 71 (g 0 c) = nI 2 := (q2.1.1 _ _ (by unfold zA; omega)).trans hkr
  have f73 : N3.1 73 (g 0 c) = nI (g 0 c2) := (q3.1.1 _ _ (by unfold zA; omega)).trans e73
  have f72 : N4.1 72 (g 0 c) = nI (g 0 c1) := by
    rw [(zS_trans s0 (zS_trans s2 (zS_trans s3 s4))).1 _ _ (by omega), hP.2.2.1 _ (by rw [hkr]; decide)]; exact e72
  have eP : fX11_judge_71 N = fX11_judge_71 N5 := by
    refine T_go ((z_g1 hz (by omega)).trans ?_)
    unfold fX11_onJudge
    simp (disch := omega) only [p2, e71, p3, f73, p4, f72, p5, k_iT, k_iF, Bool.false_eq_true, eq_self, Nat.add_zero, k_lt', k_bs, k_T, k_F, k_inb, k_ck, k_nz, ↓kN, kL, k_lt, k_le, k_eq, kn_le, kn_lt, kn_eq, kn_le', kn_lt', kn_eq', nI_clamp, nI_add, k_sub, k_mul, k_div, rd_hi, rd_mi, rd_hl, rd_ml, rd_hr, rd_mr, rd_si2, rd_sl1, rd_sl2, rd_sr1, rd_sr2]
  have w0 : wW (nI 0) := .inr (.inr ⟨0, by omega, rfl⟩)
  rw [t_own0 hx hy.1 (show c < ND by omega) hkd, if_neg (by decide), if_neg (by decide), if_neg (by decide), if_neg (by decide), if_pos (by decide)]
  refine JT_bind (Q := oQ b h M0 N0 f p m hi F g lo c w L sc S M N) ?_ (fun nb pl r M' hd => ok_some hd) (fun r M' N' hq => JT_some hq)
  rw [RX9_typeOf, if_neg (by decide), if_neg (by decide), if_neg (by decide), if_neg (by decide), if_pos rfl]
  unfold fX9_typeOfIf
  rw [y_get hx hy.1, k_inb (by omega) (by omega), k_ck, nI_clamp (by omega), c9]
  obtain ⟨j, rfl⟩ : ∃ j, k = j + 1 := ⟨k - 1, by omega⟩
  have d49 : ∀ {nb pl : Nat} {r3 s0 s1 : Int32} {M' : mv_M}, yD b M0 f nb pl M' → mv_ok (fX9_typeOfIf_49 (fun a0 a1 M => RX9_typeOf (j + 1) 0 a0 a1 M) r3 s0 s1 M') (fun _ M'' => yD b M0 f nb pl M'') := by
    intro nb pl r3 s0 s1 M' hd
    unfold fX9_typeOfIf_49
    show mv_ok (mv_bind (RX9_typeOf (j + 1) 0 s1 s0 M') _) _
    rw [yD_ty hd, k_bs]
    exact hd
  refine JT_step eP (JT_bind (H1 (j + 1) hk0 (nI 0) w0 _ sc S M N5 (by simp only [List.length_cons]; omega) hy q5 (zS_P hP sA) (zS_Sc (ySc_in hTI hc v4 (by omega) hSc) sA) (by rw [← v7]; exact zS_T hT sA)) (fun nb pl r M' hd => ?_) ?_)
  · rw [y_get hx hd.1, k_ck]
    show mv_ok (mv_bind (RX9_typeOf (j + 1) 0 _ _ M') _) _
    rw [yD_ty hd, k_bs, y_get hx hd.1, k_ck]
    exact ok_if (fun _ => d49 hd) (fun _ => d49 hd)
  rintro r M5 N6 ⟨y1, rfl, u1, u2, u3, u4, u5, u6, u7, u8⟩
  have hy1 : y1 = 0 := by
    rcases u2 with z | z | z
    · exact absurd z (by decide)
    · rw [k_eq (by omega) (by omega)] at z; omega
    · exact absurd z.1 (by decide)
  subst hy1
  have c10 : M5.1 (b + 10) c = nI c2 := (u3.1.1 _ _ ((yA_ne hb).2.2.2.2.2.2.1 _)).trans e10
  rw [y_get hx u3.1, k_ck, c10]
  have F1 : yF b h f p g (g 1 c1) (c1 + 1) M N M5 N6 := yF_trans (zS_F sA) u7
  have hSc5 : ySc b h f p m hi g M5 N6 sc S c := ySc_frame hm2 hSc F1 (by omega)
  refine JT_bind (H2 (j + 1) hk0 w hw _ sc S M5 N6 (by simp only [List.length_cons]; omega) u3 u4 u5 (ySc_in hTI hc (by omega) (by omega) hSc5) (by rw [v6]; exact u6)) (fun nb pl r M' hd => ?_) ?_
  · rw [y_get hx hd.1, k_ck]
    exact ok_if (fun _ => d49 hd) (fun _ => d49 hd)
  rintro r M6 N7 ⟨y2, rfl, o1, o2, o3, o4, o5, o6, o7, o8⟩
  have c11 : M6.1 (b + 11) c = nI c3 := (o3.1.1 _ _ ((yA_ne hb).2.2.2.2.2.2.2.1 _)).trans e11
  rw [y_get hx o3.1, k_ck, c11]
  have F2 : yF b h f p g (g 1 c) (c2 + 1) M N M6 N7 := yF_trans (yF_mono F1 (by omega) (by omega)) (yF_mono o7 (by omega) (by omega))
  have hSc6 : ySc b h f p m hi g M6 N7 sc S c := ySc_frame hm2 hSc F2 (by omega)
  -- the third
  have f74 : (mv_si N7 62 36 (nI (L.length + 1))).1 74 (g 0 c) = nI (g 0 c3) := by
    simp (disch := omega) only [rd_hi, rd_mi, rd_hl, rd_ml, rd_hr, rd_mr, rd_si2, rd_sl1, rd_sl2, rd_sr1, rd_sr2]
    rw [o5.2.2.2.1 _ (by rw [hkr]; decide)]; exact e74
  have f73' : (mv_si N7 62 36 (nI (L.length + 1))).1 73 (g 0 c) = nI (g 0 c2) := by
    simp (disch := omega) only [rd_hi, rd_mi, rd_hl, rd_ml, rd_hr, rd_mr, rd_si2, rd_sl1, rd_sl2, rd_sr1, rd_sr2]
    exact (o4.1.1 _ _ (by unfold zA; omega)).trans e73
  have f76 : (mv_si N7 62 36 (nI (L.length + 1))).1 76 (g 0 c2) = nI y2 := by
    simp (disch := omega) only [rd_hi, rd_mi, rd_hl, rd_ml, rd_hr, rd_mr, rd_si2, rd_sl1, rd_sl2, rd_sr1, rd_sr2]
    obtain ⟨y', _, y2', y3', _⟩ := o6 c2 (by omega) (by omega)
    rw [o8] at y2'
    rw [y3', y2']
  obtain ⟨r0, r1⟩ := z_pop o4
  simp only [List.length_cons] at r0 r1
  have step : ∀ w3, wW w3 → ((0 ≤ w ∧ w3 = w) ∨ (¬ (0 : Int32) ≤ w ∧ w3 = nI y2)) → JT b h M0 N0 f N7 (fX9_typeOfIf_49 (fun a0 a1 M => RX9_typeOf (j + 1) 0 a0 a1 M) (nI y2) w3 (nI c3) M6) (oQ b h M0 N0 f p m hi F g lo c w L sc S M N) := by
    intro w3 hw3 hc3
    obtain ⟨N8, p8, q8, s8⟩ := z_push (s := 1) (a := nI (g 0 c3)) (w := w3) r0 (by simp only [List.length_cons]; omega)
    have eQ : fX11_judge_71 N7 = fX11_judge_71 N8 := by
      refine T_go ((z_g2 o4 (by simp only [List.length_cons]; omega) (by omega)).trans ?_)
      simp only [List.length_cons]
      have p8' : fX11_task 1 (nI (g 0 c3)) w3 (mv_si N7 62 36 (nI (L.length + 1))) = some ((), N8) := p8
      rcases hc3 with ⟨z1, rfl⟩ | ⟨z1, rfl⟩
      · rw [if_pos z1, f74]
        unfold fX11_judge_177 fX11_judge_271
        rw [p8', k_bs]
      · rw [if_neg z1, f74, f73', k_inb (by omega) (by omega), k_ck, nI_clamp (by omega), f76]
        unfold fX11_judge_177 fX11_judge_271
        rw [p8', k_bs]
    have sB := zS_trans r1 s8
    unfold fX9_typeOfIf_49
    refine JT_step eQ (JT_bind (H3 (j + 1) hk0 w3 hw3 _ sc S M6 N8 (by simp only [List.length_cons]; omega) o3 q8 (zS_P o5 sB) (zS_Sc (ySc_in hTI hc (by omega) (by omega) hSc6) sB) (by rw [v5]; exact zS_T o6 sB)) (fun nb pl r M' hd => ok_some hd) ?_)
    rintro r M7 N9 ⟨y3, rfl, i1, i2, i3, i4, i5, i6, i7, i8⟩
    have hy3 : y3 = y2 := by
      rcases hc3 with ⟨z1, rfl⟩ | ⟨z1, rfl⟩
      · rcases i2 with z | z | z
        · rw [z] at z1; exact absurd z1 (by decide)
        · rcases o2 with z' | z' | z'
          · rw [z'] at z1; exact absurd z1 (by decide)
          · rw [z'] at z
            rw [k_eq (by omega) (by omega)] at z
            omega
          · rw [z'.1] at z1; exact absurd z1 (by decide)
        · rw [z.1] at z1; exact absurd z1 (by decide)
      · rcases i2 with z | z | z
        · exact absurd z (nI_ne_nN (by omega))
        · rw [k_eq (by omega) (by omega)] at z
          omega
        · exact absurd z.1 (nI_ne_nM (by omega))
    subst hy3
    have F3 : yF b h f p g (g 1 c) (c + 1) M N M7 N9 := yF_trans (yF_mono F2 (Nat.le_refl _) (by omega)) (yF_trans (zS_F sB) (yF_mono i7 (by omega) (by omega)))
    have e71' : N9.1 71 (g 0 c) = nI 2 := (i4.1.1 _ _ (by unfold zA; omega)).trans hkr
    have e73' : N9.1 73 (g 0 c) = nI (g 0 c2) := (i4.1.1 _ _ (by unfold zA; omega)).trans e73
    have e44 := i4.2.2.2.2.1
    have t2 : M7.1 (b + 13) c2 = nI y3 := by rw [(i7.1 c2 (by omega)).1]; exact o8
    have t1 : M7.1 (b + 13) c1 = nI 0 := by rw [(i7.1 c1 (by omega)).1, (o7.1 c1 (by omega)).1]; exact u8
    have e76 : N9.1 76 (g 0 c2) = nI y3 := by
      obtain ⟨y', _, y2', y3', _⟩ := i6 c2 (by omega) (by omega)
      rw [t2] at y2'
      rw [y3', y2']
    refine JT_some ⟨.inr ⟨y3, o1, rfl, .inr (.inr (.inr (.inr (.inr ⟨c1, c2, c3, v1, v2, v3, v4, hkd, e9, e10, e11, t1, t2, i8⟩))))⟩, fun z => by rw [hkd] at z; exact absurd z (by decide), i3, ⟨sc, S, i4, fun _ _ => rfl, Nat.le_refl _⟩, i5, fun a a1 a2 => i6 a a1 (by omega), F3, ?_⟩
    rw [sh_2 (x2 := g 0 c2) (sc := sc) (by omega) (by omega) (by simp (disch := omega) only [rd_hi, rd_mi, rd_hl, rd_ml, rd_hr, rd_mr, rd_si2, rd_sl1, rd_sl2, rd_sr1, rd_sr2]; exact e71') (by simp (disch := omega) only [rd_hi, rd_mi, rd_hl, rd_ml, rd_hr, rd_mr, rd_si2, rd_sl1, rd_sl2, rd_sr1, rd_sr2]; exact e44) (by simp (disch := omega) only [rd_hi, rd_mi, rd_hl, rd_ml, rd_hr, rd_mr, rd_si2, rd_sl1, rd_sl2, rd_sr1, rd_sr2]; exact e73'), rd_mi (by omega), e76]
  by_cases h0 : (0 : Int32) ≤ w
  · rw [if_pos h0]
    exact step w hw (.inl ⟨h0, rfl⟩)
  · rw [if_neg h0]
    exact step (nI y2) (.inr (.inr ⟨y2, o1, rfl⟩)) (.inr ⟨h0, rfl⟩)
end TI2
