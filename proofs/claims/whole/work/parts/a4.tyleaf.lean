/-! TYPES: numbers, fail, names -/
section TL
variable {b h n cnt f m nd F ND sc lo hi xl xh an p c k nb pl : Nat} {M M' M0 M1 N N' N0 N1 N2 : mv_M} {T S : Nat → Nat} {g : Nat → Nat → Nat} {lab : Nat → Nat} {L : List (Nat × Int32 × Int32)} {w : Int32}
theorem zS_P (a : yP b h F M0 N0 M N) (e : zS N N') : yP b h F M0 N0 M N' := by
  obtain ⟨p1, p2, p3, p4, p5⟩ := a
  exact ⟨p1, p2, fun x u => (e.1 _ _ (by omega)).trans (p3 x u), fun x u => (e.1 _ _ (by omega)).trans (p4 x u), fun q k pq u1 u2 u3 u4 => ⟨(p5 q k pq u1 u2 u3 u4).1, (e.1 _ _ (by omega)).trans (p5 q k pq u1 u2 u3 u4).2⟩⟩
theorem zS_T {nd : Nat} (a : yT b h f p m hi F g M0 M N lo nd) (e : zS N N') : yT b h f p m hi F g M0 M N' lo nd := by
  intro k k1 k2
  obtain ⟨y, y1, y2, y3, y4⟩ := a k k1 k2
  exact ⟨y, y1, y2, (e.1 _ _ (by omega)).trans y3, nt_congr y4 (fun _ _ _ => rfl) rfl (fun nm _ _ => ⟨rfl, e.1 _ _ (by omega)⟩) (e.1 _ _ (by omega)) (e.1 _ _ (by omega))⟩
theorem zS_F {nd e' : Nat} (e : zS N N') : yF b h f p g nd e' M N M N' := ⟨fun _ _ => ⟨rfl, rfl⟩, fun _ _ => rfl, fun _ _ => e.1 _ _ (by omega), fun _ _ => ⟨e.1 _ _ (by omega), e.1 _ _ (by omega), e.1 _ _ (by omega)⟩⟩
theorem zS_Sc {a : Nat} (s : ySc b h f p m hi g M N sc S a) (e : zS N N') : ySc b h f p m hi g M N' sc S a := by
  refine ⟨fun k hk => ?_, s.2⟩
  obtain ⟨s1, s2, y, s3, s4, s5⟩ := s.1 k hk
  exact ⟨s1, s2, y, s3, s4, (e.1 _ _ (by omega)).trans s5⟩
theorem c_first (x : Int32) (M : mv_M) : ∃ v, fX6_firstOf x M = some (v, M) := by
  unfold fX6_firstOf
  split
  · exact ⟨_, rfl⟩
  · exact ⟨_, rfl⟩
theorem c_second (x : Int32) (M : mv_M) : ∃ v, fX6_secondOf x M = some (v, M) := by
  unfold fX6_secondOf
  split
  · exact ⟨_, rfl⟩
  · exact ⟨_, rfl⟩
theorem c_pair (x y : Int32) (M : mv_M) : ∃ v, fX6_pairOf x y M = some (v, M) := by
  unfold fX6_pairOf fX6_pairOf_10
  split
  · exact ⟨_, rfl⟩
  · split
    · exact ⟨_, rfl⟩
    · exact ⟨_, rfl⟩
/-- the class's typeOf up to ownType -/
theorem t_ty0 (hx : yX b M0 T n cnt F ND) (hy : yO b M0 f sc S M) (hc : c < ND) : RX9_typeOf (k + 1) 0 (nI c) w M = mv_bind (RX9_typeOf k 1 (nI c) w M) fun r4 M5 => mv_getp (M5.2.2 4 2) fun b6 => mv_chk (mv_inb (nI c) 1000) <| mv_let (mv_si M5 (b6 + 13) (nI c).toNatClampNeg r4) fun M8 => if w = (-1) then fX9_typeOf_60 (fun a0 a1 M => RX9_typeOf k 1 a0 a1 M) (nI c) r4 M8 else if w = r4 then fX9_typeOf_60 (fun a0 a1 M => RX9_typeOf k 1 a0 a1 M) (nI c) r4 M8 else if w = (-2) then if r4 ≤ 0 then fX9_typeOf_64 (fun a0 a1 M => RX9_typeOf k 1 a0 a1 M) (nI c) r4 M8 else fX9_typeOf_60 (fun a0 a1 M => RX9_typeOf k 1 a0 a1 M) (nI c) r4 M8 else fX9_typeOf_64 (fun a0 a1 M => RX9_typeOf k 1 a0 a1 M) (nI c) r4 M8 := by
  have e := y_node hx hy.1 hc
  have h0 := hy.2.1
  rw [RX9_typeOf, if_pos rfl]
  unfold fX9_typeOf
  rw [h0, if_pos (show nI 0 = 0 from rfl), y_get hx hy.1, e, k_bs, if_neg (by decide)]
theorem t_dead {R : Int32 → Int32 → mv_M → Option (Int32 × mv_M)} {r : Int32} (hx : yX b M0 T n cnt F ND) (ha : yD b M0 f nb pl M) (hc : c < ND) : mv_ok (mv_getp (M.2.2 4 2) fun b6 => mv_chk (mv_inb (nI c) 1000) <| mv_let (mv_si M (b6 + 13) (nI c).toNatClampNeg r) fun M8 => if w = (-1) then fX9_typeOf_60 R (nI c) r M8 else if w = r then fX9_typeOf_60 R (nI c) r M8 else if w = (-2) then if r ≤ 0 then fX9_typeOf_64 R (nI c) r M8 else fX9_typeOf_60 R (nI c) r M8 else fX9_typeOf_64 R (nI c) r M8) (fun _ M' => yD b M0 f nb pl M') := by
  have hND := hx.2.2.2.2.1.2
  rw [y_get hx ha.1, k_inb (by omega) (by omega), k_ck, k_lt', nI_clamp (by omega)]
  have h2 := yD_si (c := b + 13) (k := c) (v := r) hx ha (by omega)
  have k77 : mv_ok (fX9_typeOf_77 R (nI c) r (mv_si M (b + 13) c r)) (fun _ M' => yD b M0 f nb pl M') := by
    unfold fX9_typeOf_77
    rw [yD_tell hx h2 hc, k_bs]
    exact h2
  have k65 : ∀ s0, mv_ok (fX9_typeOf_65 R (nI c) r s0 (mv_si M (b + 13) c r)) (fun _ M' => yD b M0 f nb pl M') := by
    intro s0
    unfold fX9_typeOf_65
    exact ok_if (fun _ => k77) (fun _ => ok_if (fun _ => k77) (fun _ => h2))
  exact ok_if (fun _ => k65 _) (fun _ => ok_if (fun _ => k65 _) (fun _ => ok_if (fun _ => ok_if (fun _ => k65 _) (fun _ => k65 _)) (fun _ => k65 _)))
/-- the class's ownType, up to the kind -/
theorem t_own0 (hx : yX b M0 T n cnt F ND) (hW : yW b M0 M) (hc : c < ND) {kd : Int32} (hk : M0.1 (b + 8) c = kd) : RX9_typeOf (k + 1) 1 (nI c) w M = if kd = 2 then mv_bind (fX9_typeOfName (nI c) M) fun r4 M5 => some (r4, M5) else if kd = 3 then some (0, M) else if kd = 5 then mv_bind (RX9_typeOf k 2 (nI c) 0 M) fun r8 M9 => some (r8, M9) else if kd = 6 then mv_bind (RX9_typeOf k 3 (nI c) w M) fun r11 M12 => some (r11, M12) else if kd = 301 then mv_bind (RX9_typeOf k 4 (nI c) w M) fun r14 M15 => some (r14, M15) else if kd = 304 then mv_bind (RX9_typeOf k 5 (nI c) w M) fun r17 M18 => some (r17, M18) else if kd = 306 then mv_bind (RX9_typeOf k 6 (nI c) w M) fun r20 M21 => some (r20, M21) else if kd = 308 then some (M.1 (b + 13) c, M) else mv_bind (RX9_typeOf k 0 (M.1 (b + 9) c) 0 M) fun r27 M28 => mv_getp (M28.2.2 4 2) fun b29 => mv_chk (mv_inb (nI c) 1000) <| mv_bind (RX9_typeOf k 0 (M28.1 (b29 + 10) (nI c).toNatClampNeg) 0 M28) fun r31 M32 => some (0, M32) := by
  have hND := hx.2.2.2.2.1.2
  have e : M.1 (b + 8) c = kd := (hW.1 _ _ ((yA_ne hx.1).2.2.2.2.2.1 _)).trans hk
  rw [RX9_typeOf, if_neg (by decide), if_pos rfl]
  unfold fX9_ownType
  simp only [y_get hx hW, k_inb (show c < 1000 by omega) (show 1000 < 2 ^ 31 by omega), k_ck, nI_clamp (show c < 2 ^ 31 by omega), e]
/-- numbers and fail -/
theorem o_leaf {r : Int32} {kr y : Nat} (hG : yG b h M0 N0 T n cnt F ND) (hU : yU b h M0 N0 T n F ND f lo hi xl xh an p m g lab) (hc : lo ≤ c) (hc2 : c < hi) (hl : L.length < 2999) (hy : yO b M0 f sc S M) (hz : zO h N0 f ((1, nI (g 0 c), w) :: L) sc S N) (hP : yP b h F M0 N0 M N) (hT : yT b h f p m hi F g M0 M N lo (g 1 c)) (hg : g 1 c = c) (ho : RX9_typeOf k 1 (nI c) w M = some (nI y, M)) (hy4 : y ≤ 4) (hkr : N0.1 71 (g 0 c) = nI kr) (hk : (kr = 5 ∧ y = 0 ∧ M0.1 (b + 8) c = nI 3) ∨ (kr = 6 ∧ M0.1 (b + 8) c = nI 308 ∧ N0.1 72 (g 0 c) = nI y ∧ M0.1 (b + 13) c = nI y)) : JT b h M0 N0 f N (RX9_typeOf k 1 (nI c) w M) (oQ b h M0 N0 f p m hi F g lo c w L sc S M N) := by
  have hTI := hU.2.2.2.2.2.2.2.2.2.1
  obtain ⟨x1, x2, _⟩ := hTI c hc hc2
  have hxr := hU.2.2.1
  have hh := hG.2.1
  obtain ⟨q0, s0⟩ := z_pop hz
  obtain ⟨N2, p2, q2, s2⟩ := z_push (s := 4) (a := nI (g 0 c)) (w := w) q0 (by omega)
  have s3 := zS_trans s0 s2
  have e71 : N2.1 71 (g 0 c) = nI kr := (q2.1.1 _ _ (by unfold zA; omega)).trans hkr
  have e44 := q2.2.2.2.2.1
  have eP : fX11_judge_71 N = fX11_judge_71 N2 := by
    refine T_go ((z_g1 hz (by omega)).trans ?_)
    unfold fX11_onJudge
    rcases hk with ⟨rfl, _⟩ | ⟨rfl, _⟩
    · simp (disch := omega) only [p2, e71, k_iT, k_iF, Bool.false_eq_true, eq_self, Nat.add_zero, k_lt', k_bs, k_T, k_F, k_inb, k_ck, k_nz, ↓kN, kL, k_lt, k_le, k_eq, kn_le, kn_lt, kn_eq, kn_le', kn_lt', kn_eq', nI_clamp, nI_add, k_sub, k_mul, k_div, rd_hi, rd_mi, rd_hl, rd_ml, rd_hr, rd_mr, rd_si2, rd_sl1, rd_sl2, rd_sr1, rd_sr2]
    · simp (disch := omega) only [p2, e71, k_iT, k_iF, Bool.false_eq_true, eq_self, Nat.add_zero, k_lt', k_bs, k_T, k_F, k_inb, k_ck, k_nz, ↓kN, kL, k_lt, k_le, k_eq, kn_le, kn_lt, kn_eq, kn_le', kn_lt', kn_eq', nI_clamp, nI_add, k_sub, k_mul, k_div, rd_hi, rd_mi, rd_hl, rd_ml, rd_hr, rd_mr, rd_si2, rd_sl1, rd_sl2, rd_sr1, rd_sr2]
  rw [ho]
  refine JT_step eP (JT_some ⟨.inr ⟨y, hy4, rfl, ?_⟩, ?_, hy, ⟨sc, S, q2, fun _ _ => rfl, Nat.le_refl _⟩, zS_P hP s3, by rw [hg] at hT; exact zS_T hT s3, zS_F s3, ?_⟩)
  · rcases hk with ⟨_, k2, k3⟩ | ⟨_, k2, k3⟩
    · exact .inl ⟨k3, k2⟩
    · exact .inr (.inl k2)
  · intro z
    rcases hk with ⟨_, k2, k3⟩ | ⟨_, k2, k3, k4⟩
    · rw [k3] at z; exact absurd z (by decide)
    · exact k4.symm
  · have d71 : (mv_si N2 62 36 (nI L.length)).1 71 (g 0 c) = nI kr := by simp (disch := omega) only [rd_hi, rd_mi, rd_hl, rd_ml, rd_hr, rd_mr, rd_si2, rd_sl1, rd_sl2, rd_sr1, rd_sr2]; exact e71
    have d44 : (mv_si N2 62 36 (nI L.length)).1 62 44 = nI sc := by simp (disch := omega) only [rd_hi, rd_mi, rd_hl, rd_ml, rd_hr, rd_mr, rd_si2, rd_sl1, rd_sl2, rd_sr1, rd_sr2]; exact e44
    rcases hk with ⟨rfl, rfl, _⟩ | ⟨rfl, k2, k3, k4⟩
    · exact sh_0 (by omega) (.inr d71) d44
    · have e72 : (mv_si N2 62 36 (nI L.length)).1 72 (g 0 c) = nI y := by
        simp (disch := omega) only [rd_hi, rd_mi, rd_hl, rd_ml, rd_hr, rd_mr, rd_si2, rd_sl1, rd_sl2, rd_sr1, rd_sr2]
        rw [s3.1 _ _ (by omega), hP.2.2.1 _ (by rw [hkr]; decide)]; exact k3
      rw [sh_6 (by omega) d71 d44, e72]
/-- the class looks a name up -/
theorem y_lookup {v : Int64} (hx : yX b M0 T n cnt F ND) (hy : yO b M0 f sc S M) (hc : c < ND) (hf : f < F) (hm : M0.1 (b + 3) f = nI m) (hm2 : m ≤ 16) (hS : ∀ k, k < sc → S k < m) : ∀ s, s ≤ sc → ((∀ j, j < s → M0.2.1 (b + 6) (f * 16 + S j) ≠ v) → fX9_typeOfName_25 (nI c) v (nI s - 1) M = mv_bind (fX9_tell 4 (nI c) M) fun _ M6 => some (0, M6)) ∧ (∀ j, j < s → M0.2.1 (b + 6) (f * 16 + S j) = v → (∀ i, j < i → i < s → M0.2.1 (b + 6) (f * 16 + S i) ≠ v) → fX9_typeOfName_25 (nI c) v (nI s - 1) M = some (M.1 (b + 7) (f * 16 + S j), mv_si M (b + 9) c (nI (S j)))) := by
  have hb := hx.1
  have hF := hx.2.2.2.1.2
  have hND := hx.2.2.2.2.1.2
  have hW := hy.1
  have e43 := hy.2.2.1
  have h16 := hy.2.2.2.2.1
  intro s
  induction s with
  | zero =>
    intro _
    refine ⟨fun _ => ?_, fun j hj => by omega⟩
    unfold fX9_typeOfName_25
    refine lp_inr (o := mv_bind (fX9_tell 4 (nI c) M) fun _ M6 => some (0, M6)) ?_
    show gX9_typeOfName_25 (nI c) v (nI 0 - 1) M = _
    unfold gX9_typeOfName_25
    rw [if_pos (by decide)]
    rw [inr_bind]
    rfl
  | succ s ih =>
    intro hs
    have eS : nI (s + 1) - 1 = nI s := by rw [show (1 : Int32) = nI 1 from rfl, k_sub (by omega)]; rfl
    have e43s := hy.2.2.2.2.2 s (by omega)
    have hSs := hS s (by omega)
    have eN : fX4_isNamed b (nI f) (nI (S s)) v M = some (nI (if M0.2.1 (b + 6) (f * 16 + S s) = v then 1 else 0), M) := by
      have e := y_hasName (k := S s) hx hW hf hm hm2 (by omega)
      rw [if_pos hSs] at e
      have e2 : M.2.1 (b + 6) (f * 16 + S s) = M0.2.1 (b + 6) (f * 16 + S s) := by rw [hW.2]
      unfold fX4_isNamed
      by_cases hv : M0.2.1 (b + 6) (f * 16 + S s) = v
      · have cc : (lg_cmp v v = nI 0) = True := by rw [cmp0]; exact eq_true rfl
        rw [if_pos hv]
        simp (disch := omega) only [e, e2, hv, cc, k_iT, k_iF, Bool.false_eq_true, eq_self, Nat.add_zero, k_lt', k_bs, k_T, k_F, k_inb, k_ck, k_nz, ↓kN, kL, k_lt, k_le, k_eq, kn_le, kn_lt, kn_eq, kn_le', kn_lt', kn_eq', nI_clamp, nI_add, k_sub, k_mul, k_div, rd_hi, rd_mi, rd_hl, rd_ml, rd_hr, rd_mr, rd_si2, rd_sl1, rd_sl2, rd_sr1, rd_sr2]
      · have cc : (lg_cmp (M0.2.1 (b + 6) (f * 16 + S s)) v = nI 0) = False := by rw [cmp0]; exact eq_false hv
        rw [if_neg hv]
        simp (disch := omega) only [e, e2, cc, k_iT, k_iF, Bool.false_eq_true, eq_self, Nat.add_zero, k_lt', k_bs, k_T, k_F, k_inb, k_ck, k_nz, ↓kN, kL, k_lt, k_le, k_eq, kn_le, kn_lt, kn_eq, kn_le', kn_lt', kn_eq', nI_clamp, nI_add, k_sub, k_mul, k_div, rd_hi, rd_mi, rd_hl, rd_ml, rd_hr, rd_mr, rd_si2, rd_sl1, rd_sl2, rd_sr1, rd_sr2]
    obtain ⟨i1, i2⟩ := ih (by omega)
    rw [eS]
    have hit : M0.2.1 (b + 6) (f * 16 + S s) = v → fX9_typeOfName_25 (nI c) v (nI s) M = some (M.1 (b + 7) (f * 16 + S s), mv_si M (b + 9) c (nI (S s))) := by
      intro hv
      rw [if_pos hv] at eN
      unfold fX9_typeOfName_25
      refine lp_out ?_
      show gX9_typeOfName_25 (nI c) v (nI s) M = _
      have hW2 : yW b M0 (mv_si M (b + 9) c (nI (S s))) := yW_si hW (by unfold yA; omega)
      have e1 := y_nameType (k := S s) hx hW2 hf hm hm2 hSs
      have r1 : (mv_si M (b + 9) c (nI (S s))).1 4 3 = nI f := by simp (disch := omega) only [rd_hi, rd_mi, rd_hl, rd_ml, rd_hr, rd_mr, rd_si2, rd_sl1, rd_sl2, rd_sr1, rd_sr2]; exact e43
      have r2 : (mv_si M (b + 9) c (nI (S s))).1 43 s = nI (S s) := by simp (disch := omega) only [rd_hi, rd_mi, rd_hl, rd_ml, rd_hr, rd_mr, rd_si2, rd_sl1, rd_sl2, rd_sr1, rd_sr2]; exact e43s
      have r3 : (mv_si M (b + 9) c (nI (S s))).1 (b + 7) (f * 16 + S s) = M.1 (b + 7) (f * 16 + S s) := by simp (disch := omega) only [rd_hi, rd_mi, rd_hl, rd_ml, rd_hr, rd_mr, rd_si2, rd_sl1, rd_sl2, rd_sr1, rd_sr2]
      unfold gX9_typeOfName_25
      rw [if_neg (by rw [show (0 : Int32) = nI 0 from rfl, k_lt (by omega) (by omega)]; omega), y_get hx hW, k_inb (by omega) (by omega), k_ck, nI_clamp (by omega), e43, e43s, eN, k_bs, if_neg (by decide), y_get hx hW, k_ck, k_inb (by omega) (by omega), k_ck, nI_clamp (by omega), k_lt', e43s, y_get hx hW2, k_ck, r1, r2, e1, k_bs, r3]
    have miss : M0.2.1 (b + 6) (f * 16 + S s) ≠ v → fX9_typeOfName_25 (nI c) v (nI s) M = fX9_typeOfName_25 (nI c) v (nI s - 1) M := by
      intro hv
      rw [if_neg hv] at eN
      unfold fX9_typeOfName_25
      refine lp_go (s' := (nI c, v, nI s - 1)) ?_
      show gX9_typeOfName_25 (nI c) v (nI s) M = _
      unfold gX9_typeOfName_25
      rw [if_neg (by rw [show (0 : Int32) = nI 0 from rfl, k_lt (by omega) (by omega)]; omega), y_get hx hW, k_inb (by omega) (by omega), k_ck, nI_clamp (by omega), e43, e43s, eN, k_bs, if_pos (by decide), k_lt']
    refine ⟨fun hn => ?_, fun j hj hv hl => ?_⟩
    · rw [miss (hn s (by omega))]
      exact i1 (fun j hj => hn j (by omega))
    · by_cases e : j = s
      · subst e; exact hit hv
      · rw [miss (hl s (by omega) (by omega))]
        exact i2 j (by omega) hv (fun i u1 u2 => hl i u1 (by omega))
/-- the reference does -/
theorem z_lookup {v : Int64} (hh : h ≤ 1) (hf : f < 12) (hz : zO h N0 f L sc S N) (hm2 : m ≤ 16) (hS : ∀ k, k < sc → S k < m) : ∀ s, s ≤ sc → ((∀ j, j < s → N0.2.1 69 (16 * (12 * h + f) + S j) ≠ v) → fX11_meant_7 v (nI s - 1) N = some (nN, N)) ∧ (∀ j, j < s → N0.2.1 69 (16 * (12 * h + f) + S j) = v → (∀ i, j < i → i < s → N0.2.1 69 (16 * (12 * h + f) + S i) ≠ v) → fX11_meant_7 v (nI s - 1) N = some (nI (S j), N)) := by
  obtain ⟨a1, a2, a3, _, a6, a7, a8⟩ := hz
  intro s
  induction s with
  | zero =>
    intro _
    refine ⟨fun _ => ?_, fun j hj => by omega⟩
    unfold fX11_meant_7
    refine lp_out ?_
    show gX11_meant_7 v (nI 0 - 1) N = _
    unfold gX11_meant_7
    rw [if_pos (by decide)]
    rfl
  | succ s ih =>
    intro hs
    have eS : nI (s + 1) - 1 = nI s := by rw [show (1 : Int32) = nI 1 from rfl, k_sub (by omega)]; rfl
    have e86 := a8 s (by omega)
    have hSs := hS s (by omega)
    have e2 : N.2.1 69 (16 * (12 * h + f) + S s) = N0.2.1 69 (16 * (12 * h + f) + S s) := by rw [a1.2]
    obtain ⟨i1, i2⟩ := ih (by omega)
    rw [eS]
    have hit : N0.2.1 69 (16 * (12 * h + f) + S s) = v → fX11_meant_7 v (nI s) N = some (nI (S s), N) := by
      intro hv
      have cc : (lg_cmp v v = nI 0) = True := by rw [cmp0]; exact eq_true rfl
      unfold fX11_meant_7
      refine lp_out ?_
      show gX11_meant_7 v (nI s) N = _
      unfold gX11_meant_7
      simp (disch := omega) only [a3, e86, e2, hv, cc, k_iT, k_iF, Bool.false_eq_true, eq_self, Nat.add_zero, k_lt', k_bs, k_T, k_F, k_inb, k_ck, k_nz, ↓kN, kL, k_lt, k_le, k_eq, kn_le, kn_lt, kn_eq, kn_le', kn_lt', kn_eq', nI_clamp, nI_add, k_sub, k_mul, k_div, rd_hi, rd_mi, rd_hl, rd_ml, rd_hr, rd_mr, rd_si2, rd_sl1, rd_sl2, rd_sr1, rd_sr2]
    have miss : N0.2.1 69 (16 * (12 * h + f) + S s) ≠ v → fX11_meant_7 v (nI s) N = fX11_meant_7 v (nI s - 1) N := by
      intro hv
      have cc : (lg_cmp (N0.2.1 69 (16 * (12 * h + f) + S s)) v = nI 0) = False := by rw [cmp0]; exact eq_false hv
      have e0 : ¬ nI s < nI 0 := by rw [k_lt (by omega) (by omega)]; omega
      unfold fX11_meant_7
      refine lp_go (s' := (v, nI s - 1)) ?_
      show gX11_meant_7 v (nI s) N = _
      unfold gX11_meant_7
      rw [if_neg (show ¬ nI s < 0 from e0), k_inb (by omega) (by omega), k_ck, nI_clamp (by omega), a3, e86, show (16 : Int32) = nI 16 from rfl, k_mul, nI_add, k_inb (by omega) (by omega), k_ck, nI_clamp (by omega), e2, if_neg (show ¬ lg_cmp _ _ = 0 from fun z => by rw [show (0 : Int32) = nI 0 from rfl, cc] at z; exact z), k_lt']
    refine ⟨fun hn => ?_, fun j hj hv hl => ?_⟩
    · rw [miss (hn s (by omega))]
      exact i1 (fun j hj => hn j (by omega))
    · by_cases e : j = s
      · subst e; exact hit hv
      · rw [miss (hl s (by omega) (by omega))]
        exact i2 j (by omega) hv (fun i u1 u2 => hl i u1 (by omega))
/-- the last place where something stands -/
theorem last_at (P : Nat → Prop) : ∀ s, (∀ j, j < s → ¬ P j) ∨ ∃ j, j < s ∧ P j ∧ ∀ i, j < i → i < s → ¬ P i := by
  intro s
  induction s with
  | zero => exact .inl (fun j hj => by omega)
  | succ s ih =>
    by_cases hp : P s
    · exact .inr ⟨s, by omega, hp, fun i u1 u2 => by omega⟩
    · rcases ih with z | ⟨j, j1, j2, j3⟩
      · exact .inl (fun j hj => by
          by_cases e : j = s
          · subst e; exact hp
          · exact z j (by omega))
      · exact .inr ⟨j, by omega, j2, fun i u1 u2 => by
          by_cases e : i = s
          · subst e; exact hp
          · exact j3 i u1 (by omega)⟩
end TL
