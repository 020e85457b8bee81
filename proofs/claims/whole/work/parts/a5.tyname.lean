/-! TYPES: names alone, signs -/
section TN
variable {b h n cnt f m nd F ND sc lo hi xl xh an p c k nb pl t k0 B : Nat} {M M' M0 M1 N N' N0 N1 N2 : mv_M} {T S : Nat → Nat} {g : Nat → Nat → Nat} {lab : Nat → Nat} {L : List (Nat × Int32 × Int32)} {w : Int32}
set_option maxHeartbeats 2000000 in
theorem o_name (hG : yG b h M0 N0 T n cnt F ND) (hU : yU b h M0 N0 T n F ND f lo hi xl xh an p m g lab) (hc : lo ≤ c) (hc2 : c < hi) (hl : L.length < 2999) (hy : yO b M0 f sc S M) (hz : zO h N0 f ((1, nI (g 0 c), w) :: L) sc S N) (hP : yP b h F M0 N0 M N) (hSc : ySc b h f p m hi g M N sc S c) (hT : yT b h f p m hi F g M0 M N lo (g 1 c)) (hg : g 1 c = c) (ht : t ≤ 1000 ∧ lx_st T n t < n) (e14 : M0.1 (b + 14) c = nI t) (e75 : N0.1 75 (g 0 c) = nI (lx_st T n t)) (hkd : M0.1 (b + 8) c = nI 2) (hkr : N0.1 71 (g 0 c) = nI 7) (hlk : lx_k T n (lx_st T n t) = 2) (e77 : N0.2.1 77 (g 0 c) = lx_tx T n (lx_st T n t)) : JT b h M0 N0 f N (RX9_typeOf (k + 1) 1 (nI c) w M) (oQ b h M0 N0 f p m hi F g lo c w L sc S M N) := by
  have hx := hG.1
  have hb := hx.1
  have hTI := hU.2.2.2.2.2.2.2.2.2.1
  obtain ⟨x1, x2, _⟩ := hTI c hc hc2
  have hxr := hU.2.2.1
  have hh := hG.2.1
  have hND := hx.2.2.2.2.1.2
  have hhi := hU.2.1
  have hf := hU.1
  have hm := hU.2.2.2.2.1
  have hm2 := hU.2.2.2.2.2.2.2.1
  have hF := hx.2.2.2.1.2
  have hNM := hU.2.2.2.2.2.2.2.2.1
  obtain ⟨q0, s0⟩ := z_pop hz
  obtain ⟨N2, p2, q2, s2⟩ := z_push (s := 4) (a := nI (g 0 c)) (w := w) q0 (by omega)
  have s3 := zS_trans s0 s2
  have e71 : N2.1 71 (g 0 c) = nI 7 := (q2.1.1 _ _ (by unfold zA; omega)).trans hkr
  have f75 : N2.1 75 (g 0 c) = nI (lx_st T n t) := (q2.1.1 _ _ (by unfold zA; omega)).trans e75
  have f77 : N2.2.1 77 (g 0 c) = lx_tx T n (lx_st T n t) := by rw [q2.1.2]; exact e77
  have e44 := q2.2.2.2.2.1
  have e9 := q2.2.1
  have c14 : M.1 (b + 14) c = nI t := (hy.1.1 _ _ ((yA_ne hb).2.2.2.2.2.2.2.2.2 _)).trans e14
  have hSm : ∀ k, k < sc → S k < m := fun k hk => (hSc.1 k hk).1
  have h16 := hy.2.2.2.2.1
  have c45 := hy.2.2.2.1
  have nme : ∀ j, j < sc → M0.2.1 (b + 6) (f * 16 + S j) = N0.2.1 69 (16 * (12 * h + f) + S j) := fun j hj => hNM _ (by omega) (hSm j hj)
  have own : RX9_typeOf (k + 1) 1 (nI c) w M = mv_bind (fX9_typeOfName_25 (nI c) (lx_tx T n (lx_st T n t)) (nI sc - 1) M) fun r4 M5 => some (r4, M5) := by
    rw [t_own0 hx hy.1 (show c < ND by omega) hkd, if_pos (by decide)]
    unfold fX9_typeOfName
    rw [y_get hx hy.1, k_inb (by omega) (by omega), k_ck, nI_clamp (by omega), c14, (y_tok hx hy.1 ht).2 hlk, k_bs, k_lt', c45]
  rw [own]
  rcases last_at (fun j => M0.2.1 (b + 6) (f * 16 + S j) = lx_tx T n (lx_st T n t)) sc with hno | ⟨j, j1, j2, j3⟩
  · -- it is not there
    rw [(y_lookup hx hy (show c < ND by omega) hf hm hm2 hSm sc (Nat.le_refl _)).1 hno]
    have r1 := (z_lookup (v := lx_tx T n (lx_st T n t)) hh (by omega) q2 hm2 hSm sc (Nat.le_refl _)).1 (fun j hj => by rw [← nme j hj]; exact hno j hj)
    obtain ⟨M2, u1, u2⟩ := yO_tell (v := 4) hx hy (show c < ND by omega) ht e14 (by omega) (by omega)
    have u1' : fX9_tell 4 (nI c) M = some ((), M2) := u1
    rw [u1', k_bs, k_bs]
    have z1 : zD h N0 f 4 (lx_st T n t) (mv_si (mv_si (mv_si N2 62 9 (nI 4)) 62 10 (nI (lx_st T n t))) 72 (g 0 c) nN) := by
      obtain ⟨a1, a2, a3, _⟩ := q2
      exact ⟨zW_si (zW_si (zW_si a1 (by unfold zA; omega)) (by unfold zA; omega)) (by unfold zA; omega), by simp (disch := omega) only [rd_hi, rd_mi, rd_hl, rd_ml, rd_hr, rd_mr, rd_si2, rd_sl1, rd_sl2, rd_sr1, rd_sr2], by omega, by omega, by simp (disch := omega) only [rd_hi, rd_mi, rd_hl, rd_ml, rd_hr, rd_mr, rd_si2, rd_sl1, rd_sl2, rd_sr1, rd_sr2], by simp (disch := omega) only [rd_hi, rd_mi, rd_hl, rd_ml, rd_hr, rd_mr, rd_si2, rd_sl1, rd_sl2, rd_sr1, rd_sr2]; exact a3⟩
    refine JT_dead (nb := 4) (pl := lx_st T n t) (ok_some u2) ((T_go ((z_g1 hz (by omega)).trans ?_)).trans (T_fault z1)) z1
    have r2 : fX11_meant (lx_tx T n (lx_st T n t)) N2 = some (nN, N2) := by
      unfold fX11_meant
      rw [k_lt', e44]
      exact r1
    unfold fX11_onJudge fX11_onJudge_91 fX11_stop
    simp (disch := omega) only [p2, e71, f77, r2, f75, e9, k_iT, k_iF, Bool.false_eq_true, eq_self, Nat.add_zero, k_lt', k_bs, k_T, k_F, k_inb, k_ck, k_nz, ↓kN, kL, k_lt, k_le, k_eq, kn_le, kn_lt, kn_eq, kn_le', kn_lt', kn_eq', nI_clamp, nI_add, k_sub, k_mul, k_div, rd_hi, rd_mi, rd_hl, rd_ml, rd_hr, rd_mr, rd_si2, rd_sl1, rd_sl2, rd_sr1, rd_sr2]
  · rw [(y_lookup hx hy (show c < ND by omega) hf hm hm2 hSm sc (Nat.le_refl _)).2 j j1 j2 j3]
    have r1 := (z_lookup (v := lx_tx T n (lx_st T n t)) hh (by omega) q2 hm2 hSm sc (Nat.le_refl _)).2 j j1 (by rw [← nme j j1]; exact j2) (fun i u1 u2 => by rw [← nme i u2]; exact j3 i u1 u2)
    obtain ⟨s1, s2', y, y1, y2, y3⟩ := hSc.1 j j1
    rw [k_bs, y2]
    have r2 : fX11_meant (lx_tx T n (lx_st T n t)) N2 = some (nI (S j), N2) := by
      unfold fX11_meant
      rw [k_lt', e44]
      exact r1
    have eP : fX11_judge_71 N = fX11_judge_71 (mv_si N2 72 (g 0 c) (nI (S j))) := by
      refine T_go ((z_g1 hz (by omega)).trans ?_)
      unfold fX11_onJudge fX11_onJudge_91
      simp (disch := omega) only [p2, e71, f77, r2, k_iT, k_iF, Bool.false_eq_true, eq_self, Nat.add_zero, k_lt', k_bs, k_T, k_F, k_inb, k_ck, k_nz, ↓kN, kL, k_lt, k_le, k_eq, kn_le, kn_lt, kn_eq, kn_le', kn_lt', kn_eq', nI_clamp, nI_add, k_sub, k_mul, k_div, rd_hi, rd_mi, rd_hl, rd_ml, rd_hr, rd_mr, rd_si2, rd_sl1, rd_sl2, rd_sr1, rd_sr2]
    have w3 : N2.1 70 (16 * (12 * h + f) + S j) = nI y := (s3.1 _ _ (by omega)).trans y3
    refine JT_step eP (JT_some ⟨.inr ⟨y, y1, rfl, .inr (.inr (.inl ⟨hkd, S j, s1, s2', by simp (disch := omega) only [rd_hi, rd_mi, rd_hl, rd_ml, rd_hr, rd_mr, rd_si2, rd_sl1, rd_sl2, rd_sr1, rd_sr2], by simp (disch := omega) only [rd_hi, rd_mi, rd_hl, rd_ml, rd_hr, rd_mr, rd_si2, rd_sl1, rd_sl2, rd_sr1, rd_sr2], by simp (disch := omega) only [rd_hi, rd_mi, rd_hl, rd_ml, rd_hr, rd_mr, rd_si2, rd_sl1, rd_sl2, rd_sr1, rd_sr2]; exact y2, by simp (disch := omega) only [rd_hi, rd_mi, rd_hl, rd_ml, rd_hr, rd_mr, rd_si2, rd_sl1, rd_sl2, rd_sr1, rd_sr2]; exact w3⟩))⟩, ?_, ?_, ⟨sc, S, zO_si q2 (by unfold zA; omega) (by omega), fun _ _ => rfl, Nat.le_refl _⟩, ?_, ?_, ?_, ?_⟩)
    · intro z; rw [hkd] at z; exact absurd z (by decide)
    · obtain ⟨u1, u2, u3, u4, u5, u6⟩ := hy
      exact ⟨yW_si u1 (by unfold yA; omega), by simp (disch := omega) only [rd_hi, rd_mi, rd_hl, rd_ml, rd_hr, rd_mr, rd_si2, rd_sl1, rd_sl2, rd_sr1, rd_sr2]; exact u2, by simp (disch := omega) only [rd_hi, rd_mi, rd_hl, rd_ml, rd_hr, rd_mr, rd_si2, rd_sl1, rd_sl2, rd_sr1, rd_sr2]; exact u3, by simp (disch := omega) only [rd_hi, rd_mi, rd_hl, rd_ml, rd_hr, rd_mr, rd_si2, rd_sl1, rd_sl2, rd_sr1, rd_sr2]; exact u4, u5, fun k hk => by simp (disch := omega) only [rd_hi, rd_mi, rd_hl, rd_ml, rd_hr, rd_mr, rd_si2, rd_sl1, rd_sl2, rd_sr1, rd_sr2]; exact u6 k hk⟩
    · obtain ⟨p1, p2', p3, p4, p5⟩ := zS_P hP s3
      refine ⟨fun k u1 u2 => ?_, fun k u => by simp (disch := omega) only [rd_hi, rd_mi, rd_hl, rd_ml, rd_hr, rd_mr, rd_si2, rd_sl1, rd_sl2, rd_sr1, rd_sr2]; exact p2' k u, fun x u => ?_, fun x u => by simp (disch := omega) only [rd_hi, rd_mi, rd_hl, rd_ml, rd_hr, rd_mr, rd_si2, rd_sl1, rd_sl2, rd_sr1, rd_sr2]; exact p4 x u, fun q k pq u1 u2 u3 u4 => ⟨by simp (disch := omega) only [rd_hi, rd_mi, rd_hl, rd_ml, rd_hr, rd_mr, rd_si2, rd_sl1, rd_sl2, rd_sr1, rd_sr2]; exact (p5 q k pq u1 u2 u3 u4).1, by simp (disch := omega) only [rd_hi, rd_mi, rd_hl, rd_ml, rd_hr, rd_mr, rd_si2, rd_sl1, rd_sl2, rd_sr1, rd_sr2]; exact (p5 q k pq u1 u2 u3 u4).2⟩⟩
      · by_cases ek : k = c
        · subst ek; exact absurd hkd u1
        · simp (disch := omega) only [rd_hi, rd_mi, rd_hl, rd_ml, rd_hr, rd_mr, rd_si2, rd_sl1, rd_sl2, rd_sr1, rd_sr2]; exact p1 k u1 u2
      · by_cases ek : x = g 0 c
        · subst ek; exact absurd hkr u
        · simp (disch := omega) only [rd_hi, rd_mi, rd_hl, rd_ml, rd_hr, rd_mr, rd_si2, rd_sl1, rd_sl2, rd_sr1, rd_sr2]; exact p3 x u
    · rw [hg] at hT
      intro a a1 a2
      obtain ⟨y', v1, v2, v3, v4⟩ := zS_T hT s3 a a1 a2
      have := g0_ne hTI a1 (show a < hi by omega) hc hc2 (by omega)
      exact ⟨y', v1, by simp (disch := omega) only [rd_hi, rd_mi, rd_hl, rd_ml, rd_hr, rd_mr, rd_si2, rd_sl1, rd_sl2, rd_sr1, rd_sr2]; exact v2, by simp (disch := omega) only [rd_hi, rd_mi, rd_hl, rd_ml, rd_hr, rd_mr, rd_si2, rd_sl1, rd_sl2, rd_sr1, rd_sr2]; exact v3, nt_congr v4 (fun k _ k2 => by simp (disch := omega) only [rd_hi, rd_mi, rd_hl, rd_ml, rd_hr, rd_mr, rd_si2, rd_sl1, rd_sl2, rd_sr1, rd_sr2]) (by simp (disch := omega) only [rd_hi, rd_mi, rd_hl, rd_ml, rd_hr, rd_mr, rd_si2, rd_sl1, rd_sl2, rd_sr1, rd_sr2]) (fun nm _ _ => ⟨by simp (disch := omega) only [rd_hi, rd_mi, rd_hl, rd_ml, rd_hr, rd_mr, rd_si2, rd_sl1, rd_sl2, rd_sr1, rd_sr2], by simp (disch := omega) only [rd_hi, rd_mi, rd_hl, rd_ml, rd_hr, rd_mr, rd_si2, rd_sl1, rd_sl2, rd_sr1, rd_sr2]⟩) (by simp (disch := omega) only [rd_hi, rd_mi, rd_hl, rd_ml, rd_hr, rd_mr, rd_si2, rd_sl1, rd_sl2, rd_sr1, rd_sr2]) (by simp (disch := omega) only [rd_hi, rd_mi, rd_hl, rd_ml, rd_hr, rd_mr, rd_si2, rd_sl1, rd_sl2, rd_sr1, rd_sr2])⟩
    · refine ⟨fun k u => ⟨by simp (disch := omega) only [rd_hi, rd_mi, rd_hl, rd_ml, rd_hr, rd_mr, rd_si2, rd_sl1, rd_sl2, rd_sr1, rd_sr2], by simp (disch := omega) only [rd_hi, rd_mi, rd_hl, rd_ml, rd_hr, rd_mr, rd_si2, rd_sl1, rd_sl2, rd_sr1, rd_sr2]⟩, fun j u => by simp (disch := omega) only [rd_hi, rd_mi, rd_hl, rd_ml, rd_hr, rd_mr, rd_si2, rd_sl1, rd_sl2, rd_sr1, rd_sr2], fun j u => by simp (disch := omega) only [rd_hi, rd_mi, rd_hl, rd_ml, rd_hr, rd_mr, rd_si2, rd_sl1, rd_sl2, rd_sr1, rd_sr2]; exact s3.1 _ _ (by omega), fun x u => ?_⟩
      have := u c (by omega) (by omega)
      exact ⟨by simp (disch := omega) only [rd_hi, rd_mi, rd_hl, rd_ml, rd_hr, rd_mr, rd_si2, rd_sl1, rd_sl2, rd_sr1, rd_sr2]; exact s3.1 _ _ (by omega), by simp (disch := omega) only [rd_hi, rd_mi, rd_hl, rd_ml, rd_hr, rd_mr, rd_si2, rd_sl1, rd_sl2, rd_sr1, rd_sr2]; exact s3.1 _ _ (by omega), by simp (disch := omega) only [rd_hi, rd_mi, rd_hl, rd_ml, rd_hr, rd_mr, rd_si2, rd_sl1, rd_sl2, rd_sr1, rd_sr2]; exact s3.1 _ _ (by omega)⟩
    · have e33 := q2.2.2.1
      rw [sh_7 (f := f) (nm := S j) (sc := sc) hh (by omega) (by omega) (by simp (disch := omega) only [rd_hi, rd_mi, rd_hl, rd_ml, rd_hr, rd_mr, rd_si2, rd_sl1, rd_sl2, rd_sr1, rd_sr2]; exact e71) (by simp (disch := omega) only [rd_hi, rd_mi, rd_hl, rd_ml, rd_hr, rd_mr, rd_si2, rd_sl1, rd_sl2, rd_sr1, rd_sr2]; exact e44) (by simp (disch := omega) only [rd_hi, rd_mi, rd_hl, rd_ml, rd_hr, rd_mr, rd_si2, rd_sl1, rd_sl2, rd_sr1, rd_sr2]; exact e33) (by simp (disch := omega) only [rd_hi, rd_mi, rd_hl, rd_ml, rd_hr, rd_mr, rd_si2, rd_sl1, rd_sl2, rd_sr1, rd_sr2]) (by omega), rd_mi (by omega), rd_mi (by omega), w3]
-- signs
set_option maxHeartbeats 2000000 in
theorem o_sign {c1 c2 : Nat} (hG : yG b h M0 N0 T n cnt F ND) (hU : yU b h M0 N0 T n F ND f lo hi xl xh an p m g lab) (hc : lo ≤ c) (hc2 : c < hi) (hl : L.length + 5 < 2999) (hB : L.length + 5 ≤ B) (hk0 : k0 ≤ k) (hk00 : 0 < k0) (hy : yO b M0 f sc S M) (hz : zO h N0 f ((1, nI (g 0 c), w) :: L) sc S N) (hP : yP b h F M0 N0 M N) (hSc : ySc b h f p m hi g M N sc S c) (hT : yT b h f p m hi F g M0 M N lo (g 1 c)) (v1 : c2 + 1 = c) (v2 : c1 < c2) (v3 : g 1 c ≤ c1) (v4 : g 1 c2 = c1 + 1) (v5 : g 1 c = g 1 c1) (e9 : M0.1 (b + 9) c = nI c1) (e10 : M0.1 (b + 10) c = nI c2) (e72 : N0.1 72 (g 0 c) = nI (g 0 c1)) (e73 : N0.1 73 (g 0 c) = nI (g 0 c2)) (hkd : ∃ s, (s = 43 ∨ s = 45 ∨ s = 42 ∨ s = 60 ∨ s = 4) ∧ M0.1 (b + 8) c = nI s) (hkr : N0.1 71 (g 0 c) = nI 1) (H1 : ySp b h M0 N0 f p m hi F g lo c1 k0 B) (H2 : ySp b h M0 N0 f p m hi F g lo c2 k0 B) : JT b h M0 N0 f N (RX9_typeOf (k + 1) 1 (nI c) w M) (oQ b h M0 N0 f p m hi F g lo c w L sc S M N) := by
  have hx := hG.1
  have hb := hx.1
  have hTI := hU.2.2.2.2.2.2.2.2.2.1
  obtain ⟨x1, x2, _⟩ := hTI c hc hc2
  have hxr := hU.2.2.1
  have hh := hG.2.1
  have hND := hx.2.2.2.2.1.2
  have hhi := hU.2.1
  have hm2 := hU.2.2.2.2.2.2.2.1
  have hlo := (hTI c hc hc2).2.2.2.1
  have k25 : M0.1 (b + 8) c ≠ nI 2 ∧ M0.1 (b + 8) c ≠ nI 5 ∧ M0.1 (b + 8) c ≠ nI 308 := by
    obtain ⟨s, hs, e⟩ := hkd
    rw [e]
    rcases hs with rfl | rfl | rfl | rfl | rfl <;> exact ⟨by decide, by decide, by decide⟩
  have c9 : M.1 (b + 9) c = nI c1 := (hP.1 c k25.1 k25.2.1).trans e9
  obtain ⟨q0, s0⟩ := z_pop hz
  obtain ⟨N2, p2, q2, s2⟩ := z_push (s := 4) (a := nI (g 0 c)) (w := w) q0 (by omega)
  obtain ⟨N3, p3, q3, s3⟩ := z_push (s := 1) (a := nI (g 0 c2)) (w := nI 0) q2 (by simp only [List.length_cons]; omega)
  obtain ⟨N4, p4, q4, s4⟩ := z_push (s := 1) (a := nI (g 0 c1)) (w := nI 0) q3 (by simp only [List.length_cons]; omega)
  have sA := zS_trans s0 (zS_trans s2 (zS_trans s3 s4))
  have e71 : N2.1 71 (g 0 c) = nI 1 := (q2.1.1 _ _ (by unfold zA; omega)).trans hkr
  have f73 : N2.1 73 (g 0 c) = nI (g 0 c2) := (q2.1.1 _ _ (by unfold zA; omega)).trans e73
  have f72 : N3.1 72 (g 0 c) = nI (g 0 c1) := by
    rw [(zS_trans s0 (zS_trans s2 s3)).1 _ _ (by omega), hP.2.2.1 _ (by rw [hkr]; decide)]; exact e72
  have eP : fX11_judge_71 N = fX11_judge_71 N4 := by
    refine T_go ((z_g1 hz (by omega)).trans ?_)
    unfold fX11_onJudge
    simp (disch := omega) only [p2, e71, f73, p3, f72, p4, k_iT, k_iF, Bool.false_eq_true, eq_self, Nat.add_zero, k_lt', k_bs, k_T, k_F, k_inb, k_ck, k_nz, ↓kN, kL, k_lt, k_le, k_eq, kn_le, kn_lt, kn_eq, kn_le', kn_lt', kn_eq', nI_clamp, nI_add, k_sub, k_mul, k_div, rd_hi, rd_mi, rd_hl, rd_ml, rd_hr, rd_mr, rd_si2, rd_sl1, rd_sl2, rd_sr1, rd_sr2]
  have w0 : wW (nI 0) := .inr (.inr ⟨0, by omega, rfl⟩)
  have own : RX9_typeOf (k + 1) 1 (nI c) w M = mv_bind (RX9_typeOf k 0 (nI c1) (nI 0) M) fun r27 M28 => mv_getp (M28.2.2 4 2) fun b29 => mv_chk (mv_inb (nI c) 1000) <| mv_bind (RX9_typeOf k 0 (M28.1 (b29 + 10) (nI c).toNatClampNeg) 0 M28) fun r31 M32 => some (0, M32) := by
    obtain ⟨s, hs, e⟩ := hkd
    rw [t_own0 hx hy.1 (show c < ND by omega) e, c9]
    rcases hs with rfl | rfl | rfl | rfl | rfl <;> rfl
  rw [own]
  obtain ⟨j, rfl⟩ : ∃ j, k = j + 1 := ⟨k - 1, by omega⟩
  have z5 := v5
  refine JT_step eP (JT_bind (H1 (j + 1) hk0 (nI 0) w0 _ sc S M N4 (by simp only [List.length_cons]; omega) hy q4 (zS_P hP sA) (zS_Sc (ySc_in hTI hc v3 (by omega) hSc) sA) (by rw [← v5]; exact zS_T hT sA)) (fun nb pl r M' hd => ?_) ?_)
  · rw [y_get hx hd.1, k_inb (by omega) (by omega), k_ck, yD_ty hd, k_bs]
    exact hd
  rintro r M5 N5 ⟨y1, rfl, u1, u2, u3, u4, u5, u6, u7, u8⟩
  have hy1 : y1 = 0 := by
    rcases u2 with z | z | z
    · exact absurd z (by decide)
    · rw [k_eq (by omega) (by omega)] at z; omega
    · exact absurd z.1 (by decide)
  subst hy1
  have c10 : M5.1 (b + 10) c = nI c2 := (u3.1.1 _ _ ((yA_ne hb).2.2.2.2.2.2.1 _)).trans e10
  rw [y_get hx u3.1, k_inb (by omega) (by omega), k_ck, nI_clamp (by omega), c10]
  have F1 : yF b h f p g (g 1 c1) (c1 + 1) M N M5 N5 := yF_trans (zS_F sA) u7
  have hSc5 : ySc b h f p m hi g M5 N5 sc S c := ySc_frame hm2 hSc F1 (by omega)
  refine JT_bind (H2 (j + 1) hk0 (nI 0) w0 _ sc S M5 N5 (by simp only [List.length_cons]; omega) u3 u4 u5 (ySc_in hTI hc (by omega) (by omega) hSc5) (by rw [v4]; exact u6)) (fun nb pl r M' hd => ok_some hd) ?_
  rintro r M6 N6 ⟨y2, rfl, o1, o2, o3, o4, o5, o6, o7, o8⟩
  have hy2 : y2 = 0 := by
    rcases o2 with z | z | z
    · exact absurd z (by decide)
    · rw [k_eq (by omega) (by omega)] at z; omega
    · exact absurd z.1 (by decide)
  subst hy2
  have e71' : N6.1 71 (g 0 c) = nI 1 := (o4.1.1 _ _ (by unfold zA; omega)).trans hkr
  have e44 := o4.2.2.2.2.1
  refine JT_some ⟨.inr ⟨0, by omega, rfl, .inr (.inr (.inr (.inr (.inl ⟨c1, c2, v1, v2, v3, e9, e10, .inl ⟨hkd, rfl, ?_, o8⟩⟩))))⟩, fun z => absurd z k25.2.2, o3, ⟨sc, S, o4, fun _ _ => rfl, Nat.le_refl _⟩, o5, ?_, ?_, ?_⟩
  · rw [(o7.1 c1 (by omega)).1]; exact u8
  · intro a a1 a2
    exact o6 a a1 (by omega)
  · exact yF_trans (yF_mono F1 (by omega) (by omega)) (yF_mono o7 (by omega) (by omega))
  · exact sh_0 (by omega) (.inl (by simp (disch := omega) only [rd_hi, rd_mi, rd_hl, rd_ml, rd_hr, rd_mr, rd_si2, rd_sl1, rd_sl2, rd_sr1, rd_sr2]; exact e71')) (by simp (disch := omega) only [rd_hi, rd_mi, rd_hl, rd_ml, rd_hr, rd_mr, rd_si2, rd_sl1, rd_sl2, rd_sr1, rd_sr2]; exact e44)
end TN
