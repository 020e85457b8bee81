/-! TYPES: pairs -/
section TP2
variable {b h n cnt f m nd F ND sc lo hi xl xh an p c k nb pl t k0 B : Nat} {M M' M0 M1 N N' N0 N1 N2 : mv_M} {T S : Nat → Nat} {g : Nat → Nat → Nat} {lab : Nat → Nat} {L : List (Nat × Int32 × Int32)} {w : Int32}
/-- what is wanted of a pair's parts -/
theorem w_parts (hw : wW w) : ∃ w1 w2, wW w1 ∧ wW w2 ∧ ((w ≤ 0 ∧ w1 = nN ∧ w2 = nN) ∨ (¬ w ≤ 0 ∧ (∀ M, fX6_firstOf w M = some (w1, M) ∧ fX11_firstOf w M = some (w1, M)) ∧ ∀ M, fX6_secondOf w M = some (w2, M) ∧ fX11_secondOf w M = some (w2, M))) := by
  rcases hw with rfl | rfl | ⟨y, hy, rfl⟩
  · exact ⟨nN, nN, .inl rfl, .inl rfl, .inl ⟨by decide, rfl, rfl⟩⟩
  · exact ⟨nN, nN, .inl rfl, .inl rfl, .inl ⟨by decide, rfl, rfl⟩⟩
  · by_cases h0 : y = 0
    · subst h0
      exact ⟨nN, nN, .inl rfl, .inl rfl, .inl ⟨by decide, rfl, rfl⟩⟩
    · exact ⟨nI ((y - 1) / 2), nI ((y - 1) % 2), .inr (.inr ⟨_, by omega, rfl⟩), .inr (.inr ⟨_, by omega, rfl⟩), .inr ⟨by rw [show (0 : Int32) = nI 0 from rfl, k_le (by omega) (by omega)]; omega, fun M => f_first hy M, fun M => f_second hy M⟩⟩
set_option maxHeartbeats 2000000 in
theorem o_pair {c1 c2 : Nat} (hG : yG b h M0 N0 T n cnt F ND) (hU : yU b h M0 N0 T n F ND f lo hi xl xh an p m g lab) (hc : lo ≤ c) (hc2 : c < hi) (hw : wW w) (hl : L.length + 5 < 2999) (hB : L.length + 5 ≤ B) (hk0 : k0 ≤ k) (hk00 : 0 < k0) (hy : yO b M0 f sc S M) (hz : zO h N0 f ((1, nI (g 0 c), w) :: L) sc S N) (hP : yP b h F M0 N0 M N) (hSc : ySc b h f p m hi g M N sc S c) (hT : yT b h f p m hi F g M0 M N lo (g 1 c)) (v1 : c2 + 1 = c) (v2 : c1 < c2) (v3 : g 1 c ≤ c1) (v4 : g 1 c2 = c1 + 1) (v5 : g 1 c = g 1 c1) (e9 : M0.1 (b + 9) c = nI c1) (e10 : M0.1 (b + 10) c = nI c2) (e72 : N0.1 72 (g 0 c) = nI (g 0 c1)) (e73 : N0.1 73 (g 0 c) = nI (g 0 c2)) (hkd : M0.1 (b + 8) c = nI 6) (hkr : N0.1 71 (g 0 c) = nI 9) (H1 : ySp b h M0 N0 f p m hi F g lo c1 k0 B) (H2 : ySp b h M0 N0 f p m hi F g lo c2 k0 B) : JT b h M0 N0 f N (RX9_typeOf (k + 1 + 1) 1 (nI c) w M) (oQ b h M0 N0 f p m hi F g lo c w L sc S M N) := by
  have hx := hG.1
  have hb := hx.1
  have hTI := hU.2.2.2.2.2.2.2.2.2.1
  obtain ⟨x1, x2, _⟩ := hTI c hc hc2
  have hxr := hU.2.2.1
  have hh := hG.2.1
  have hND := hx.2.2.2.2.1.2
  have hhi := hU.2.1
  have hm2 := hU.2.2.2.2.2.2.2.1
  have hlo := (hTI c hc hc2).2.2.2.1
  have xc1 := hTI c1 (by omega) (by omega)
  have xc2 := hTI c2 (by omega) (by omega)
  have c9 : M.1 (b + 9) c = nI c1 := (hP.1 c (by rw [hkd]; decide) (by rw [hkd]; decide)).trans e9
  obtain ⟨w1, w2, hw1, hw2, hww⟩ := w_parts hw
  obtain ⟨q0, s0⟩ := z_pop hz
  obtain ⟨N2, p2, q2, s2⟩ := z_push (s := 4) (a := nI (g 0 c)) (w := w) q0 (by omega)
  obtain ⟨N3, p3, q3, s3⟩ := z_push (s := 1) (a := nI (g 0 c2)) (w := w2) q2 (by simp only [List.length_cons]; omega)
  obtain ⟨N4, p4, q4, s4⟩ := z_push (s := 1) (a := nI (g 0 c1)) (w := w1) q3 (by simp only [List.length_cons]; omega)
  have sA := zS_trans s0 (zS_trans s2 (zS_trans s3 s4))
  have e71 : N2.1 71 (g 0 c) = nI 9 := (q2.1.1 _ _ (by unfold zA; omega)).trans hkr
  have f73 : N2.1 73 (g 0 c) = nI (g 0 c2) := (q2.1.1 _ _ (by unfold zA; omega)).trans e73
  have f72 : N3.1 72 (g 0 c) = nI (g 0 c1) := by
    rw [(zS_trans s0 (zS_trans s2 s3)).1 _ _ (by omega), hP.2.2.1 _ (by rw [hkr]; decide)]; exact e72
  have eP : fX11_judge_71 N = fX11_judge_71 N4 := by
    refine T_go ((z_g1 hz (by omega)).trans ?_)
    have p2' : fX11_task 4 (nI (g 0 c)) w (mv_si N 62 36 (nI L.length)) = some ((), N2) := p2
    have p3' : fX11_task 1 (nI (g 0 c2)) w2 N2 = some ((), N3) := p3
    have p4' : fX11_task 1 (nI (g 0 c1)) w1 N3 = some ((), N4) := p4
    unfold fX11_onJudge
    rw [p2', k_bs, k_inb (by omega) (by omega), k_ck, nI_clamp (by omega), e71, if_neg (by decide), if_neg (by decide), if_neg (by decide), if_neg (by decide), if_neg (by decide), if_neg (by decide), if_pos (by decide), k_ck, f73]
    unfold fX11_onJudge_239 fX11_onJudge_262
    rcases hww with ⟨z0, rfl, rfl⟩ | ⟨z0, z1, z2⟩
    · rw [if_pos z0, show (-1 : Int32) = nN from rfl, p3', k_bs, k_inb (by omega) (by omega), k_ck, if_pos z0, nI_clamp (by omega), f72, p4']
      rfl
    · rw [if_neg z0, (z2 N2).2, k_bs, p3', k_bs, k_inb (by omega) (by omega), k_ck, if_neg z0, (z1 N3).2, k_bs, nI_clamp (by omega), f72, p4']
      rfl
  rw [t_own0 hx hy.1 (show c < ND by omega) hkd, if_neg (by decide), if_neg (by decide), if_neg (by decide), if_pos (by decide)]
  refine JT_bind (Q := oQ b h M0 N0 f p m hi F g lo c w L sc S M N) ?_ (fun nb pl r M' hd => ok_some hd) (fun r M' N' hq => JT_some hq)
  obtain ⟨j, rfl⟩ : ∃ j, k = j + 1 := ⟨k - 1, by omega⟩
  have cl : ∃ x3 : Int32, ((x3 = 0 ∧ w2 = nN) ∨ (x3 = 1 ∧ ∀ M, fX6_secondOf w M = some (w2, M))) ∧ RX9_typeOf (j + 1 + 1) 3 (nI c) w M = fX9_typeOfPair_32 (fun a0 a1 M => RX9_typeOf (j + 1) 0 a0 a1 M) (nI c) w x3 w1 (nI c1) M := by
    rcases hww with ⟨z0, rfl, rfl⟩ | ⟨z0, z1, z2⟩
    · refine ⟨0, .inl ⟨rfl, rfl⟩, ?_⟩
      rw [RX9_typeOf, if_neg (by decide), if_neg (by decide), if_neg (by decide), if_pos rfl]
      unfold fX9_typeOfPair fX9_typeOfPair_9
      rw [if_pos z0, y_get hx hy.1, k_inb (by omega) (by omega), k_ck, if_pos rfl, nI_clamp (by omega), c9]
      rfl
    · refine ⟨1, .inr ⟨rfl, fun M => (z2 M).1⟩, ?_⟩
      rw [RX9_typeOf, if_neg (by decide), if_neg (by decide), if_neg (by decide), if_pos rfl]
      unfold fX9_typeOfPair fX9_typeOfPair_9
      rw [if_neg z0, y_get hx hy.1, k_inb (by omega) (by omega), k_ck, if_neg (by decide), (z1 M).1, k_bs, nI_clamp (by omega), c9]
  obtain ⟨x3, hx3, cl⟩ := cl
  rw [cl]
  unfold fX9_typeOfPair_32
  have d59 : ∀ {nb pl : Nat} {r3 s0 s1 : Int32} {M' : mv_M}, yD b M0 f nb pl M' → mv_ok (fX9_typeOfPair_59 (fun a0 a1 M => RX9_typeOf (j + 1) 0 a0 a1 M) r3 s0 s1 M') (fun _ M'' => yD b M0 f nb pl M'') := by
    intro nb pl r3 s0 s1 M' hd
    unfold fX9_typeOfPair_59
    show mv_ok (mv_bind (RX9_typeOf (j + 1) 0 s1 s0 M') _) _
    obtain ⟨v, ev⟩ := c_pair r3 0 M'
    rw [yD_ty hd, k_bs, ev, k_bs]
    exact hd
  refine JT_step eP (JT_bind (H1 (j + 1) hk0 w1 hw1 _ sc S M N4 (by simp only [List.length_cons]; omega) hy q4 (zS_P hP sA) (zS_Sc (ySc_in hTI hc v3 (by omega) hSc) sA) (by rw [← v5]; exact zS_T hT sA)) (fun nb pl r M' hd => ?_) ?_)
  · rw [y_get hx hd.1, k_inb (by omega) (by omega), k_ck]
    obtain ⟨v, ev⟩ := c_second w M'
    refine ok_if (fun _ => d59 hd) (fun _ => ?_)
    rw [ev, k_bs]
    exact d59 hd
  rintro r M5 N6 ⟨y1, rfl, u1, u2, u3, u4, u5, u6, u7, u8⟩
  have c10 : M5.1 (b + 10) c = nI c2 := (u3.1.1 _ _ ((yA_ne hb).2.2.2.2.2.2.1 _)).trans e10
  have cl2 : (mv_getp (M5.2.2 4 2) fun b7 => mv_chk (mv_inb (nI c) 1000) <| if x3 = 0 then fX9_typeOfPair_59 (fun a0 a1 M => RX9_typeOf (j + 1) 0 a0 a1 M) (nI y1) (-1) (M5.1 (b7 + 10) (nI c).toNatClampNeg) M5 else mv_bind (fX6_secondOf w M5) fun r9 M10 => fX9_typeOfPair_59 (fun a0 a1 M => RX9_typeOf (j + 1) 0 a0 a1 M) (nI y1) r9 (M5.1 (b7 + 10) (nI c).toNatClampNeg) M10) = fX9_typeOfPair_59 (fun a0 a1 M => RX9_typeOf (j + 1) 0 a0 a1 M) (nI y1) w2 (nI c2) M5 := by
    rw [y_get hx u3.1, k_inb (by omega) (by omega), k_ck, nI_clamp (by omega), c10]
    rcases hx3 with ⟨rfl, rfl⟩ | ⟨rfl, z⟩
    · rw [if_pos rfl]; rfl
    · rw [if_neg (by decide), z, k_bs]
  rw [cl2]
  unfold fX9_typeOfPair_59
  have F1 : yF b h f p g (g 1 c1) (c1 + 1) M N M5 N6 := yF_trans (zS_F sA) u7
  have hSc5 : ySc b h f p m hi g M5 N6 sc S c := ySc_frame hm2 hSc F1 (by omega)
  refine JT_bind (H2 (j + 1) hk0 w2 hw2 _ sc S M5 N6 (by simp only [List.length_cons]; omega) u3 u4 u5 (ySc_in hTI hc (by omega) (by omega) hSc5) (by rw [v4]; exact u6)) (fun nb pl r M' hd => ?_) ?_
  · obtain ⟨v, ev⟩ := c_pair (nI y1) r M'
    rw [ev, k_bs]
    exact hd
  rintro r M6 N7 ⟨y2, rfl, o1, o2, o3, o4, o5, o6, o7, o8⟩
  rw [(f_pair u1 o1 M6).1, k_bs]
  have t1 : M6.1 (b + 13) c1 = nI y1 := by rw [(o7.1 c1 (by omega)).1]; exact u8
  have g76 : ∀ a y, lo ≤ a → a < c → M6.1 (b + 13) a = nI y → N7.1 76 (g 0 a) = nI y := by
    intro a y a1 a2 e
    obtain ⟨y', _, y2', y3', _⟩ := o6 a a1 (by omega)
    rw [e] at y2'
    rw [y3', y2']
  have t76 := g76 c1 y1 (by omega) (by omega) t1
  have t76' := g76 c2 y2 (by omega) (by omega) o8
  have e71' : N7.1 71 (g 0 c) = nI 9 := (o4.1.1 _ _ (by unfold zA; omega)).trans hkr
  have e73' : N7.1 73 (g 0 c) = nI (g 0 c2) := (o4.1.1 _ _ (by unfold zA; omega)).trans e73
  have e72' : N7.1 72 (g 0 c) = nI (g 0 c1) := by rw [o5.2.2.1 _ (by rw [hkr]; decide)]; exact e72
  have e44 := o4.2.2.2.2.1
  refine JT_some ⟨?_, fun z => by rw [hkd] at z; exact absurd z (by decide), o3, ⟨sc, S, o4, fun _ _ => rfl, Nat.le_refl _⟩, o5, fun a a1 a2 => o6 a a1 (by omega), yF_trans (yF_mono F1 (by omega) (by omega)) (yF_mono o7 (by omega) (by omega)), ?_⟩
  · unfold pv
    by_cases hp : y1 ≤ 1 ∧ y2 ≤ 1
    · rw [if_pos hp]
      exact .inr ⟨1 + 2 * y1 + y2, by omega, rfl, .inr (.inr (.inr (.inr (.inl ⟨c1, c2, v1, v2, v3, e9, e10, .inr (.inl ⟨hkd, y1, y2, hp.1, hp.2, rfl, t1, o8⟩)⟩))))⟩
    · rw [if_neg hp]
      exact .inl rfl
  · exact sh_9 (x1 := g 0 c1) (x2 := g 0 c2) (sc := sc) (by omega) (by omega) (by omega) (by simp (disch := omega) only [rd_hi, rd_mi, rd_hl, rd_ml, rd_hr, rd_mr, rd_si2, rd_sl1, rd_sl2, rd_sr1, rd_sr2]; exact e71') (by simp (disch := omega) only [rd_hi, rd_mi, rd_hl, rd_ml, rd_hr, rd_mr, rd_si2, rd_sl1, rd_sl2, rd_sr1, rd_sr2]; exact e44) (by simp (disch := omega) only [rd_hi, rd_mi, rd_hl, rd_ml, rd_hr, rd_mr, rd_si2, rd_sl1, rd_sl2, rd_sr1, rd_sr2]; exact e72') (by simp (disch := omega) only [rd_hi, rd_mi, rd_hl, rd_ml, rd_hr, rd_mr, rd_si2, rd_sl1, rd_sl2, rd_sr1, rd_sr2]; exact e73') (fun X => by rw [rd_mi (by omega), rd_mi (by omega), t76, t76']; exact (f_pair u1 o1 X).2)
end TP2
