/-! TYPES: every expression; a function -/
section TM
variable {b h n cnt f m nd F ND sc lo hi xl xh an p c k nb pl t k0 B q pq a : Nat} {M M' M0 M1 N N' N0 N1 N2 : mv_M} {T S : Nat → Nat} {g : Nat → Nat → Nat} {lab : Nat → Nat} {L : List (Nat × Int32 × Int32)} {w : Int32}
theorem t_main (hG : yG b h M0 N0 T n cnt F ND) (hU : yU b h M0 N0 T n F ND f lo hi xl xh an p m g lab) : ∀ l, l ≤ 100 → ∀ c, lo ≤ c → c < hi → lab c < l → ySp b h M0 N0 f p m hi F g lo c (3 * l + 1) (2900 - 5 * l) := by
  have hx := hG.1
  have hTI := hU.2.2.2.2.2.2.2.2.2.1
  have hND := hx.2.2.2.2.1.2
  have hhi := hU.2.1
  have hlab := hU.2.2.2.2.2.2.2.2.2.2.2.1
  intro l
  induction l with
  | zero => intro _ c _ _ h0; omega
  | succ l ih =>
    intro hl100 c hc hc2 hlc k hk w hw L sc S M N hL hy hz hP hSc hT
    obtain ⟨j, rfl⟩ : ∃ j, k = j + 1 + 1 + 1 := ⟨k - 3, by omega⟩
    have hlo := (hTI c hc hc2).2.2.2.1
    have C : ∀ c', g 1 c ≤ c' → c' < c → ySp b h M0 N0 f p m hi F g lo c' (3 * l + 1) (2900 - 5 * l) := by
      intro c' h1 h2
      have := hlab c c' (by omega) h2 hc2 h1
      exact ih (by omega) c' (by omega) (by omega) (by omega)
    rw [t_ty0 hx hy (show c < ND by omega)]
    refine JT_bind (Q := oQ b h M0 N0 f p m hi F g lo c w L sc S M N) ?_ (fun nb pl r M' hd => t_dead hx hd (show c < ND by omega)) (fun r M' N' hq => t_fin hG hU hc hc2 hw (by omega) hq)
    obtain ⟨x1, x2, x3, x4, x5, t, t1, t2, t3, t4⟩ := hTI c hc hc2
    rcases t4 with ⟨g1, t4⟩ | ⟨u1, u2, u3, u4, q, a, e, v1, v2, v3, v4, v5, v6, v7, v8, v9⟩ | ⟨c1, c2, v1, v2, v3, v4, v5, v6, v7, v8, v9, v10⟩ | ⟨c1, c2, c3, v1, v2, v3, v4, v5, v6, v7, v8, v9, v10, v11, v12, v13, v14, v15⟩
    · rcases t4 with ⟨z1, z2, z3⟩ | ⟨z1, z2, y, z3, z4, z5⟩ | ⟨z1, z2, z3, z4⟩
      · refine o_leaf (r := 0) (kr := 5) (y := 0) hG hU hc hc2 (by omega) hy hz hP hT g1 ?_ (by omega) z2 (.inl ⟨rfl, rfl, z1⟩)
        rw [t_own0 hx hy.1 (show c < ND by omega) z1]
        rfl
      · refine o_leaf (r := 0) (kr := 6) (y := y) hG hU hc hc2 (by omega) hy hz hP hT g1 ?_ z3 z2 (.inr ⟨rfl, z1, z5, z4⟩)
        rw [t_own0 hx hy.1 (show c < ND by omega) z1, if_neg (by decide), if_neg (by decide), if_neg (by decide), if_neg (by decide), if_neg (by decide), if_neg (by decide), if_neg (by decide), if_pos (by decide), hP.2.1 c z1, z4]
      · exact o_name hG hU hc hc2 (by omega) hy hz hP hSc hT g1 t1 t2 t3 z1 z2 z3 z4
    · exact o_call (k := j) (k0 := 3 * l + 1) (B := 2900 - 5 * l) hG hU hc hc2 (by omega) (by omega) (by omega) (by omega) hy hz hP hSc hT t1 t2 t3 u1 u2 u3 u4 v1 v2 v3 v4 v5.1 v6 v7 (fun i hi => v8 i hi) v9 (fun i hi => C (e i) (v9 i hi).2.1 (v9 i hi).1)
    · rcases v10 with ⟨s, z1, z2, z3, z4⟩ | ⟨z1, z2⟩ | ⟨z1, z2, m0, z3, z4, z5, z6, z7⟩ | ⟨z1, z2, m0, z3, z4, z5, z6, z7, z8⟩
      · exact o_sign (k := j + 1) (k0 := 3 * l + 1) (B := 2900 - 5 * l) hG hU hc hc2 (by omega) (by omega) (by omega) (by omega) hy hz hP hSc hT v1 v2 v3 v4 v5 v6 v7 v8 v9 ⟨s, z1, z2⟩ z3 (C c1 v3 (by omega)) (C c2 (by omega) (by omega))
      · exact o_pair (k := j) (k0 := 3 * l + 1) (B := 2900 - 5 * l) hG hU hc hc2 hw (by omega) (by omega) (by omega) (by omega) hy hz hP hSc hT v1 v2 v3 v4 v5 v6 v7 v8 v9 z1 z2 (C c1 v3 (by omega)) (C c2 (by omega) (by omega))
      · exact o_let (k := j) (k0 := 3 * l + 1) (B := 2900 - 5 * l) hG hU hc hc2 hw (by omega) (by omega) (by omega) (by omega) hy hz hP hSc hT v1 v2 v3 v4 v5 v6 v7 v8 v9 z1 z2 z3 z4 z5 z6 z7 (C c1 v3 (by omega)) (C c2 (by omega) (by omega))
      · exact o_case (k := j) (k0 := 3 * l + 1) (B := 2900 - 5 * l) hG hU hc hc2 hw (by omega) (by omega) (by omega) (by omega) hy hz hP hSc hT v1 v2 v3 v4 v5 v6 v7 v8 v9 z1 z2 z3 z4 z5 z6 z7 z8 (C c1 v3 (by omega)) (C c2 (by omega) (by omega))
    · exact o_if (k := j) (k0 := 3 * l + 1) (B := 2900 - 5 * l) hG hU hc hc2 hw (by omega) (by omega) (by omega) (by omega) hy hz hP hSc hT v1 v2 v3 v4 v5 v6 v7 v8 v9 v10 v11 v12 v13 v14 v15 (C c1 v4 (by omega)) (C c2 (by omega) (by omega)) (C c3 (by omega) (by omega))
/-- the parameters stand at first -/
theorem y_pars {x : Int32} (hx : yX b M0 T n cnt F ND) (hf : f < F) (hp : M0.1 (b + 2) f = nI p) (hp4 : p ≤ 4) : ∀ d i, i + d = p → ∀ M, yO b M0 f i (fun k => k) M → ∃ M', yO b M0 f p (fun k => k) M' ∧ fX9_judge_40 x (nI i) M = fX9_judge_40 x (nI p) M' ∧ ∀ c k, ¬ (c = 43 ∨ (c = 4 ∧ k = 5)) → M'.1 c k = M.1 c k := by
  have hb := hx.1
  have hF := hx.2.2.2.1.2
  intro d
  induction d with
  | zero =>
    intro i hi M hy
    obtain rfl : i = p := by omega
    exact ⟨M, hy, rfl, fun _ _ _ => rfl⟩
  | succ d ih =>
    intro i hi M hy
    obtain ⟨e1, e2⟩ := y_open (v := i) hx hy (by omega)
    have hy2 : yO b M0 f (i + 1) (fun k => k) (mv_si (mv_si M 43 i (nI i)) 4 5 (nI (i + 1))) := by
      obtain ⟨a1, a2, a3, a4, a5, a6⟩ := e2
      refine ⟨a1, a2, a3, a4, a5, fun k hk => ?_⟩
      have := a6 k hk
      by_cases hki : k < i
      · simp only [hki, if_true] at this
        exact this
      · obtain rfl : k = i := by omega
        simp only [hki, if_false] at this
        exact this
    obtain ⟨M', u1, u2, u3⟩ := ih (i + 1) (by omega) _ hy2
    refine ⟨M', u1, ?_, fun c k z => ?_⟩
    · rw [← u2]
      have e34 := hy.2.2.1
      have e2' : M.1 (b + 2) f = nI p := (hy.1.1 _ _ ((yA_ne hb).2.2.2.1 _)).trans hp
      unfold fX9_judge_40
      refine lp_go (s' := (x, nI (i + 1))) ?_
      show gX9_judge_40 x (nI i) M = _
      unfold gX9_judge_40
      rw [y_get hx hy.1, e34, k_inb (by omega) (by omega), k_ck, nI_clamp (by omega), e2', if_neg (by rw [k_le (by omega) (by omega)]; omega), e1, k_bs, k_lt', nI_1]
    · rw [u3 c k z]
      simp (disch := omega) only [rd_hi, rd_mi, rd_hl, rd_ml, rd_hr, rd_mr, rd_si2, rd_sl1, rd_sl2, rd_sr1, rd_sr2]
theorem z_pars (hh : h ≤ 1) (hf : f < 12) (hp : N0.1 66 (12 * h + f) = nI p) (hp4 : p ≤ 4) : ∀ d i, i + d = p → ∀ N, zW h N0 N → N.1 62 9 = nI 0 → N.1 62 33 = nI (12 * h + f) → N.1 62 44 = nI i → (∀ k, k < i → N.1 86 k = nI k) → ∃ N', zW h N0 N' ∧ N'.1 62 9 = nI 0 ∧ N'.1 62 33 = nI (12 * h + f) ∧ N'.1 62 44 = nI p ∧ (∀ k, k < p → N'.1 86 k = nI k) ∧ fX11_judge_7 (nI i) N = fX11_judge_7 (nI p) N' ∧ (∀ c k, ¬ (c = 86 ∨ (c = 62 ∧ k = 44)) → N'.1 c k = N.1 c k) := by
  intro d
  induction d with
  | zero =>
    intro i hi N h1 h2 h3 h4 h5
    obtain rfl : i = p := by omega
    exact ⟨N, h1, h2, h3, h4, h5, rfl, fun _ _ _ => rfl⟩
  | succ d ih =>
    intro i hi N h1 h2 h3 h4 h5
    obtain ⟨N', u1, u2, u3, u4, u5, u6, u7⟩ := ih (i + 1) (by omega) (mv_si (mv_si N 86 i (nI i)) 62 44 (nI (i + 1))) (zW_si (zW_si h1 (by unfold zA; omega)) (by unfold zA; omega)) (by simp (disch := omega) only [rd_hi, rd_mi, rd_hl, rd_ml, rd_hr, rd_mr, rd_si2, rd_sl1, rd_sl2, rd_sr1, rd_sr2]; exact h2) (by simp (disch := omega) only [rd_hi, rd_mi, rd_hl, rd_ml, rd_hr, rd_mr, rd_si2, rd_sl1, rd_sl2, rd_sr1, rd_sr2]; exact h3) (by simp (disch := omega) only [rd_hi, rd_mi, rd_hl, rd_ml, rd_hr, rd_mr, rd_si2, rd_sl1, rd_sl2, rd_sr1, rd_sr2]) (fun k hk => by
      by_cases e : k = i
      · subst e; simp (disch := omega) only [rd_hi, rd_mi, rd_hl, rd_ml, rd_hr, rd_mr, rd_si2, rd_sl1, rd_sl2, rd_sr1, rd_sr2]
      · simp (disch := omega) only [rd_hi, rd_mi, rd_hl, rd_ml, rd_hr, rd_mr, rd_si2, rd_sl1, rd_sl2, rd_sr1, rd_sr2]; exact h5 k (by omega))
    refine ⟨N', u1, u2, u3, u4, u5, ?_, fun c k z => by rw [u7 c k z]; simp (disch := omega) only [rd_hi, rd_mi, rd_hl, rd_ml, rd_hr, rd_mr, rd_si2, rd_sl1, rd_sl2, rd_sr1, rd_sr2]⟩
    rw [← u6]
    have e66 : N.1 66 (12 * h + f) = nI p := (h1.1 _ _ (by unfold zA; omega)).trans hp
    unfold fX11_judge_7
    refine lp_go (s' := nI (i + 1)) ?_
    show gX11_judge_7 (nI i) N = _
    unfold gX11_judge_7
    simp (disch := omega) only [h3, e66, h4, k_iT, k_iF, Bool.false_eq_true, eq_self, Nat.add_zero, k_lt', k_bs, k_T, k_F, k_inb, k_ck, k_nz, ↓kN, kL, k_lt, k_le, k_eq, kn_le, kn_lt, kn_eq, kn_le', kn_lt', kn_eq', nI_clamp, nI_add, k_sub, k_mul, k_div, rd_hi, rd_mi, rd_hl, rd_ml, rd_hr, rd_mr, rd_si2, rd_sl1, rd_sl2, rd_sr1, rd_sr2]
set_option maxHeartbeats 2000000 in
theorem j_judge {y : Nat} (hG : yG b h M0 N0 T n cnt F ND) (hU : yU b h M0 N0 T n F ND f lo hi xl xh an p m g lab) (h66 : N0.1 66 (12 * h + f) = nI p) (hlh : lo < hi) (h5 : M0.1 (b + 5) f = nI (hi - 1)) (h68 : N0.1 68 (12 * h + f) = nI (g 0 (hi - 1))) (hg1 : g 1 (hi - 1) = lo) (hy4 : y ≤ 4) (h4 : M0.1 (b + 4) f = nI y) (h65 : N0.1 65 (12 * h + f) = nI y) (hpt : ∀ k, k < p → ∃ y, y ≤ 4 ∧ M0.1 (b + 7) (f * 16 + k) = nI y ∧ N0.1 70 (16 * (12 * h + f) + k) = nI y) (hW : yW b M0 M) (h10 : M.1 1 0 = nI 0) (h43 : M.1 4 3 = nI f) (hZ : zW h N0 N) (h9 : N.1 62 9 = nI 0) (h33 : N.1 62 33 = nI (12 * h + f)) (hP : yP b h F M0 N0 M N) : ∃ M' N', fX9_judge_40 (nI f) (nI 0) (mv_si M 4 5 (nI 0)) = some (.inl (nI (f + 1)), M') ∧ fX11_judge N = some ((), N') ∧ ((∃ nb pl, yD b M0 f nb pl M' ∧ zD h N0 f nb pl N') ∨ (yW b M0 M' ∧ M'.1 1 0 = nI 0 ∧ M'.1 4 3 = nI f ∧ zW h N0 N' ∧ N'.1 62 9 = nI 0 ∧ N'.1 62 33 = nI (12 * h + f) ∧ yP b h F M0 N0 M' N' ∧ yT b h f p m hi F g M0 M' N' lo hi ∧ yF b h f p g lo hi M N M' N' ∧ M'.1 (b + 13) (hi - 1) = nI y)) := by
  have hx := hG.1
  have hb := hx.1
  have hh := hG.2.1
  have hF := hx.2.2.2.1.2
  have hf := hU.1
  have hp := hU.2.2.2.1
  have hp4 := hU.2.2.2.2.2.1
  have hpm := hU.2.2.2.2.2.2.1
  have hTI := hU.2.2.2.2.2.2.2.2.2.1
  have hxr := hU.2.2.1
  have hlab := hU.2.2.2.2.2.2.2.2.2.2.1
  have xc := hTI (hi - 1) (by omega) (by omega)
  have y0 : yO b M0 f 0 (fun k => k) (mv_si M 4 5 (nI 0)) := ⟨yW_si hW (by unfold yA; omega), by simp (disch := omega) only [rd_hi, rd_mi, rd_hl, rd_ml, rd_hr, rd_mr, rd_si2, rd_sl1, rd_sl2, rd_sr1, rd_sr2]; exact h10, by simp (disch := omega) only [rd_hi, rd_mi, rd_hl, rd_ml, rd_hr, rd_mr, rd_si2, rd_sl1, rd_sl2, rd_sr1, rd_sr2]; exact h43, by simp (disch := omega) only [rd_hi, rd_mi, rd_hl, rd_ml, rd_hr, rd_mr, rd_si2, rd_sl1, rd_sl2, rd_sr1, rd_sr2], by omega, fun k hk => by omega⟩
  obtain ⟨M1, u1, u2, u3⟩ := y_pars (x := nI f) hx hf hp hp4 p 0 (by omega) _ y0
  obtain ⟨N1, v1, v2, v3, v4, v5, v6, v7⟩ := z_pars hh (show f < 12 by omega) h66 hp4 p 0 (by omega) (mv_si N 62 44 (nI 0)) (zW_si hZ (by unfold zA; omega)) (by simp (disch := omega) only [rd_hi, rd_mi, rd_hl, rd_ml, rd_hr, rd_mr, rd_si2, rd_sl1, rd_sl2, rd_sr1, rd_sr2]; exact h9) (by simp (disch := omega) only [rd_hi, rd_mi, rd_hl, rd_ml, rd_hr, rd_mr, rd_si2, rd_sl1, rd_sl2, rd_sr1, rd_sr2]; exact h33) (by simp (disch := omega) only [rd_hi, rd_mi, rd_hl, rd_ml, rd_hr, rd_mr, rd_si2, rd_sl1, rd_sl2, rd_sr1, rd_sr2]) (fun k hk => by omega)
  have z0 : zO h N0 f [] p (fun k => k) (mv_si N1 62 36 (nI 0)) := ⟨zW_si v1 (by unfold zA; omega), by simp (disch := omega) only [rd_hi, rd_mi, rd_hl, rd_ml, rd_hr, rd_mr, rd_si2, rd_sl1, rd_sl2, rd_sr1, rd_sr2]; exact v2, by simp (disch := omega) only [rd_hi, rd_mi, rd_hl, rd_ml, rd_hr, rd_mr, rd_si2, rd_sl1, rd_sl2, rd_sr1, rd_sr2]; exact v3, ⟨by simp (disch := omega) only [rd_hi, rd_mi, rd_hl, rd_ml, rd_hr, rd_mr, rd_si2, rd_sl1, rd_sl2, rd_sr1, rd_sr2]; rfl, trivial⟩, by simp (disch := omega) only [rd_hi, rd_mi, rd_hl, rd_ml, rd_hr, rd_mr, rd_si2, rd_sl1, rd_sl2, rd_sr1, rd_sr2]; exact v4, by omega, fun k hk => by simp (disch := omega) only [rd_hi, rd_mi, rd_hl, rd_ml, rd_hr, rd_mr, rd_si2, rd_sl1, rd_sl2, rd_sr1, rd_sr2]; exact v5 k hk⟩
  obtain ⟨N2, p2, q2, s2⟩ := z_push (s := 1) (a := nI (g 0 (hi - 1))) (w := nI y) z0 (by simp)
  have uM : ∀ c k, ¬ (c = 43 ∨ (c = 4 ∧ k = 5)) → M1.1 c k = M.1 c k := fun c k z => by rw [u3 c k z]; simp (disch := omega) only [rd_hi, rd_mi, rd_hl, rd_ml, rd_hr, rd_mr, rd_si2, rd_sl1, rd_sl2, rd_sr1, rd_sr2]
  have uN : ∀ c k, ¬ (c = 86 ∨ (c = 62 ∧ (k = 44 ∨ k = 36)) ∨ c = 81 ∨ c = 82 ∨ c = 85) → N2.1 c k = N.1 c k := fun c k z => by
    rw [s2.1 c k (by omega)]; simp (disch := omega) only [rd_hi, rd_mi, rd_hl, rd_ml, rd_hr, rd_mr, rd_si2, rd_sl1, rd_sl2, rd_sr1, rd_sr2]; rw [v7 c k (by omega)]; simp (disch := omega) only [rd_hi, rd_mi, rd_hl, rd_ml, rd_hr, rd_mr, rd_si2, rd_sl1, rd_sl2, rd_sr1, rd_sr2]
  have P2 : yP b h F M0 N0 M1 N2 := by
    obtain ⟨p1, p2', p3, p4, p5⟩ := hP
    exact ⟨fun k a1 a2 => (uM _ _ (by omega)).trans (p1 k a1 a2), fun k a => (uM _ _ (by omega)).trans (p2' k a), fun x a => (uN _ _ (by omega)).trans (p3 x a), fun x a => (uN _ _ (by omega)).trans (p4 x a), fun q k pq a1 a2 a3 a4 => ⟨(uM _ _ (by omega)).trans (p5 q k pq a1 a2 a3 a4).1, (uN _ _ (by omega)).trans (p5 q k pq a1 a2 a3 a4).2⟩⟩
  have Sc2 : ySc b h f p m hi g M1 N2 p (fun k => k) (hi - 1) := by
    refine ⟨fun k hk => ⟨by show k < m; omega, .inl hk, ?_⟩, fun j k h1 h2 => by show j ≠ k; omega⟩
    obtain ⟨y', y1, y2, y3⟩ := hpt k hk
    exact ⟨y', y1, ((P2.2.2.2.2 f k p hf hp hp4 hk).1).trans y2, ((P2.2.2.2.2 f k p hf hp hp4 hk).2).trans y3⟩
  have T2 : yT b h f p m hi F g M0 M1 N2 lo (g 1 (hi - 1)) := fun a a1 a2 => by omega
  have F2 : yF b h f p g lo hi M N M1 N2 := ⟨fun k _ => ⟨uM _ _ (by omega), uM _ _ (by omega)⟩, fun j _ => uM _ _ (by omega), fun j _ => uN _ _ (by omega), fun x _ => ⟨uN _ _ (by omega), uN _ _ (by omega), uN _ _ (by omega)⟩⟩
  have main := t_main hG hU 81 (by omega) (hi - 1) (by omega) (by omega) (by have := hlab (hi - 1) (by omega) (by omega); omega) 320 (by omega) (nI y) (.inr (.inr ⟨y, hy4, rfl⟩)) [] p (fun k => k) M1 N2 (by simp) u1 q2 P2 Sc2 T2
  have e34 := u1.2.2.1
  have e2' : M1.1 (b + 2) f = nI p := (u1.1.1 _ _ ((yA_ne hb).2.2.2.1 _)).trans hp
  have e5' : M1.1 (b + 5) f = nI (hi - 1) := (u1.1.1 _ _ (by unfold yA; omega)).trans h5
  have e4' : M1.1 (b + 4) f = nI y := (u1.1.1 _ _ ((yA_ne hb).2.2.2.2.1 _)).trans h4
  have cl : fX9_judge_40 (nI f) (nI 0) (mv_si M 4 5 (nI 0)) = mv_bind (tX9_typeOf (nI (hi - 1)) (nI y) M1) fun r11 M12 => some (.inl (nI (f + 1)), M12) := by
    rw [u2]
    unfold fX9_judge_40
    rw [lpK_loop]
    show lpK _ (gX9_judge_40 (nI f) (nI p) M1) = _
    generalize (fun (s : Int32 × Int32) M => gX9_judge_40 s.1 s.2 M) = lp
    unfold gX9_judge_40
    rw [y_get hx u1.1, e34, k_inb (by omega) (by omega), k_ck, nI_clamp (by omega), e2', if_pos (by rw [k_le (by omega) (by omega)]; exact Nat.le_refl _), y_get hx u1.1, k_ck, y_get hx u1.1, k_ck, e5', e4', lpK_bind, nI_1]
    rfl
  have rf : fX11_judge N = fX11_judge_71 N2 := by
    unfold fX11_judge
    rw [k_lt', show (0 : Int32) = nI 0 from rfl, v6]
    unfold fX11_judge_7
    refine lp_inr ?_
    show gX11_judge_7 (nI p) N1 = _
    have e66 : N1.1 66 (12 * h + f) = nI p := (v1.1 _ _ (by unfold zA; omega)).trans h66
    have e68 : N1.1 68 (12 * h + f) = nI (g 0 (hi - 1)) := (v1.1 _ _ (by unfold zA; omega)).trans h68
    have e65 : N1.1 65 (12 * h + f) = nI y := (v1.1 _ _ (by unfold zA; omega)).trans h65
    unfold gX11_judge_7
    simp (disch := omega) only [v3, e66, e68, e65, p2, k_iT, k_iF, Bool.false_eq_true, eq_self, Nat.add_zero, k_lt', k_bs, k_T, k_F, k_inb, k_ck, k_nz, ↓kN, kL, k_lt, k_le, k_eq, kn_le, kn_lt, kn_eq, kn_le', kn_lt', kn_eq', nI_clamp, nI_add, k_sub, k_mul, k_div, rd_hi, rd_mi, rd_hl, rd_ml, rd_hr, rd_mr, rd_si2, rd_sl1, rd_sl2, rd_sr1, rd_sr2]
  rw [cl, rf]
  have mk : tX9_typeOf (nI (hi - 1)) (nI y) M1 = RX9_typeOf 320 0 (nI (hi - 1)) (nI y) M1 := rfl
  rw [mk]
  unfold JT at main
  cases ho : RX9_typeOf 320 0 (nI (hi - 1)) (nI y) M1 with
  | none => rw [ho] at main; exact absurd main id
  | some r =>
    rw [ho] at main
    obtain ⟨r, M3⟩ := r
    rw [k_bs]
    rcases main with ⟨nb, pl, N3, w1, w2, w3⟩ | ⟨N3, w1, y', rfl, w2, w3, w4, w5, w6, w7, w8, w9⟩
    · exact ⟨_, N3, rfl, w1, .inl ⟨nb, pl, w2, w3⟩⟩
    · have hyy : y' = y := by
        rcases w3 with z | z | z
        · exact absurd z (nI_ne_nN (by omega))
        · rw [k_eq (by omega) (by omega)] at z; omega
        · exact absurd z.1 (nI_ne_nM (by omega))
      subst hyy
      have e36 : N3.1 62 36 = nI 0 := w5.2.2.2.1.1
      rw [hg1, show hi - 1 + 1 = hi by omega] at w8
      rw [show hi - 1 + 1 = hi by omega] at w7
      exact ⟨_, N3, rfl, w1.trans (T_end e36), .inr ⟨w4.1, w4.2.1, w4.2.2.1, w5.1, w5.2.1, w5.2.2.1, w6, w7, yF_trans F2 w8, w9⟩⟩
end TM
