/-! TYPES: an expression's own type is told -/
def nM : Int32 := -2
def wW (w : Int32) : Prop := w = nN ∨ w = nM ∨ ∃ y, y ≤ 4 ∧ w = nI y
def yT (b h f p m hi F : Nat) (g : Nat → Nat → Nat) (M0 M N : mv_M) (lo nd : Nat) : Prop := ∀ a, lo ≤ a → a < nd → NTy b h f p m hi F g M0 M N a
def yQ (b h : Nat) (M0 N0 : mv_M) (f p m hi F : Nat) (g : Nat → Nat → Nat) (lo c : Nat) (w : Int32) (L : List (Nat × Int32 × Int32)) (sc : Nat) (S : Nat → Nat) (M N : mv_M) (r : Int32) (M' N' : mv_M) : Prop := ∃ y, r = nI y ∧ y ≤ 4 ∧ (w = nN ∨ w = nI y ∨ (w = nM ∧ 0 < y)) ∧ yO b M0 f sc S M' ∧ zO h N0 f L sc S N' ∧ yP b h F M0 N0 M' N' ∧ yT b h f p m hi F g M0 M' N' lo (c + 1) ∧ yF b h f p g (g 1 c) (c + 1) M N M' N' ∧ M'.1 (b + 13) c = nI y
def ySp (b h : Nat) (M0 N0 : mv_M) (f p m hi F : Nat) (g : Nat → Nat → Nat) (lo c k0 B : Nat) : Prop := ∀ k, k0 ≤ k → ∀ w, wW w → ∀ (L : List (Nat × Int32 × Int32)) (sc : Nat) (S : Nat → Nat) (M N : mv_M), L.length ≤ B → yO b M0 f sc S M → zO h N0 f ((1, nI (g 0 c), w) :: L) sc S N → yP b h F M0 N0 M N → ySc b h f p m hi g M N sc S c → yT b h f p m hi F g M0 M N lo (g 1 c) → JT b h M0 N0 f N (RX9_typeOf k 0 (nI c) w M) (yQ b h M0 N0 f p m hi F g lo c w L sc S M N)
def oQ (b h : Nat) (M0 N0 : mv_M) (f p m hi F : Nat) (g : Nat → Nat → Nat) (lo c : Nat) (w : Int32) (L : List (Nat × Int32 × Int32)) (sc : Nat) (S : Nat → Nat) (M N : mv_M) (r : Int32) (M' N' : mv_M) : Prop := (r = nN ∨ ∃ y, y ≤ 4 ∧ r = nI y ∧ nt b h f p m hi F g M0 M' N' c y) ∧ (M0.1 (b + 8) c = nI 308 → r = M0.1 (b + 13) c) ∧ yO b M0 f sc S M' ∧ (∃ sc' S', zO h N0 f ((4, nI (g 0 c), w) :: L) sc' S' N' ∧ (∀ k, k < sc → S' k = S k) ∧ sc ≤ sc') ∧ yP b h F M0 N0 M' N' ∧ yT b h f p m hi F g M0 M' N' lo c ∧ yF b h f p g (g 1 c) (c + 1) M N M' N' ∧ fX11_onShut (nI (g 0 c)) w (mv_si N' 62 36 (nI L.length)) = fX11_onShut_162 (nI (g 0 c)) w r (mv_si (mv_si N' 62 36 (nI L.length)) 62 44 (nI sc))
section TF
variable {b h n cnt f m nd F ND sc lo hi xl xh an p c k : Nat} {M M' M0 M1 N N' N0 N1 : mv_M} {T S : Nat → Nat} {g : Nat → Nat → Nat} {lab : Nat → Nat} {L : List (Nat × Int32 × Int32)} {w : Int32}
theorem nt_congr {a y : Nat} (hn : nt b h f p m hi F g M0 M N a y) (e13 : ∀ k, g 1 a ≤ k → k < a → M'.1 (b + 13) k = M.1 (b + 13) k) (e9 : M'.1 (b + 9) a = M.1 (b + 9) a) (e7 : ∀ nm, (IS g p hi a nm ∨ (p ≤ nm ∧ g 2 nm = a)) → nm < m → M'.1 (b + 7) (f * 16 + nm) = M.1 (b + 7) (f * 16 + nm) ∧ N'.1 70 (16 * (12 * h + f) + nm) = N.1 70 (16 * (12 * h + f) + nm)) (e72 : N'.1 72 (g 0 a) = N.1 72 (g 0 a)) (e74 : N'.1 74 (g 0 a) = N.1 74 (g 0 a)) : nt b h f p m hi F g M0 M' N' a y := by
  rcases hn with z | z | ⟨z1, nm, z2, z3, z4, z5, z6, z7⟩ | ⟨z1, q, pq, e, z2, z3, z4, z5, z6, z7, z8, z9, zA, zB⟩ | ⟨c1, c2, z1, z2, z0, z3, z4, z5⟩ | ⟨c1, c2, c3, z1, z2, z3, z0, z4, z5, z6, z7, z8, z9, zA⟩
  · exact .inl z
  · exact .inr (.inl z)
  · have w := e7 nm (.inl z3) z2
    exact .inr (.inr (.inl ⟨z1, nm, z2, z3, e9.trans z4, e72.trans z5, w.1.trans z6, w.2.trans z7⟩))
  · refine .inr (.inr (.inr (.inl ⟨z1, q, pq, e, z2, e9.trans z3, e74.trans z4, z5, z6, z7, z8, z9, zA, fun k hk => ?_⟩)))
    obtain ⟨u1, u0, yk, u2, u3, u4⟩ := zB k hk
    exact ⟨u1, u0, yk, u2, (e13 _ u0 u1).trans u3, u4⟩
  · refine .inr (.inr (.inr (.inr (.inl ⟨c1, c2, z1, z2, z0, z3, z4, ?_⟩))))
    have d1 := e13 c1 z0 (by omega)
    have d2 := e13 c2 (by omega) (by omega)
    rcases z5 with ⟨u1, u2, u3, u4⟩ | ⟨u1, y1, y2, u2, u3, u4, u5, u6⟩ | ⟨u1, m0, y1, u2, u3, u4, u5, u6, u7, u8, u9, uA⟩ | ⟨u1, m0, y1, u2, u3, u4, u5, u6, u7, u8, u9, uA, uB, uC, uD, uE⟩
    · exact .inl ⟨u1, u2, d1.trans u3, d2.trans u4⟩
    · exact .inr (.inl ⟨u1, y1, y2, u2, u3, u4, d1.trans u5, d2.trans u6⟩)
    · have w := e7 m0 (.inr ⟨u2, u5⟩) u3
      exact .inr (.inr (.inl ⟨u1, m0, y1, u2, u3, u4, u5, u6, d1.trans u7, w.1.trans u8, w.2.trans u9, d2.trans uA⟩))
    · have w := e7 m0 (.inr ⟨u2, u5⟩) (by omega)
      have w' := e7 (m0 + 1) (.inr ⟨by omega, u6⟩) u3
      exact .inr (.inr (.inr ⟨u1, m0, y1, u2, u3, u4, u5, u6, u7, u8, d1.trans u9, w.1.trans uA, w.2.trans uB, w'.1.trans uC, w'.2.trans uD, d2.trans uE⟩))
  · exact .inr (.inr (.inr (.inr (.inr ⟨c1, c2, c3, z1, z2, z3, z0, z4, z5, z6, z7, (e13 c1 z0 (by omega)).trans z8, (e13 c2 (by omega) (by omega)).trans z9, (e13 c3 (by omega) (by omega)).trans zA⟩))))
theorem g0_ne (a : TI b T n g lo hi xl xh p m an M N) {j k : Nat} (h1 : lo ≤ j) (h2 : j < hi) (h3 : lo ≤ k) (h4 : k < hi) (hne : j ≠ k) : g 0 j ≠ g 0 k := by
  by_cases hl : j < k
  · exact (a k h3 h4).2.2.1 j h1 hl
  · exact fun z => (a j h1 h2).2.2.1 k h3 (by omega) z.symm
/-- what is typed stays so while the next subtree is typed -/
theorem yT_frame (a : TI b T n g lo hi xl xh p m an M0 N0) (hm : m ≤ 16) (hc : lo ≤ c) (hc2 : c < hi) (ht : yT b h f p m hi F g M0 M N lo (g 1 c)) (hf : yF b h f p g (g 1 c) (c + 1) M N M' N') : yT b h f p m hi F g M0 M' N' lo (g 1 c) := by
  intro k k1 k2
  obtain ⟨y, y1, y2, y3, y4⟩ := ht k k1 k2
  have hcc := (a c hc hc2).2.2.2.2.1
  have hx : ∀ j, g 1 c ≤ j → j < c + 1 → g 0 k ≠ g 0 j := fun j j1 j2 => g0_ne a k1 (by omega) (by omega) (by omega) (by omega)
  obtain ⟨x1, x2, x3⟩ := hf.2.2.2 (g 0 k) hx
  have hk := hf.1 k (by omega)
  refine ⟨y, y1, hk.1.trans y2, x1.trans y3, nt_congr y4 (fun j _ j2 => (hf.1 j (by omega)).1) hk.2 (fun nm z zm => ?_) x2 x3⟩
  have key : ∀ nm', p ≤ nm' → nm' < 16 → g 1 c ≤ g 2 nm' → g 2 nm' < c + 1 → nm ≠ nm' := by
    intro nm' u1 u2 u3 u4 e
    subst e
    rcases z with z | ⟨z1, z2⟩
    · exact IS_out a hc hc2 k2 z u1 ⟨u3, u4⟩
    · omega
  exact ⟨hf.2.1 _ (fun nm' u1 u2 u3 u4 => by have := key nm' u1 u2 u3 u4; omega), hf.2.2.1 _ (fun nm' u1 u2 u3 u4 => by have := key nm' u1 u2 u3 u4; omega)⟩
/-- names that stand at a node keep their types while what is in it is typed -/
theorem ySc_frame {a nd e : Nat} (hm : m ≤ 16) (hs : ySc b h f p m hi g M N sc S a) (hf : yF b h f p g nd e M N M' N') (he : e ≤ a + 1) : ySc b h f p m hi g M' N' sc S a := by
  refine ⟨fun k hk => ?_, hs.2⟩
  obtain ⟨s1, s2, y, s3, s4, s5⟩ := hs.1 k hk
  have key : ∀ nm', p ≤ nm' → nm' < 16 → nd ≤ g 2 nm' → g 2 nm' < e → S k ≠ nm' := by
    intro nm' u1 u2 u3 u4 e
    subst e
    rcases s2 with z | ⟨z1, z2, z3, z4, z5⟩
    · omega
    · omega
  exact ⟨s1, s2, y, s3, (hf.2.1 _ (fun nm' u1 u2 u3 u4 => by have := key nm' u1 u2 u3 u4; omega)).trans s4, (hf.2.2.1 _ (fun nm' u1 u2 u3 u4 => by have := key nm' u1 u2 u3 u4; omega)).trans s5⟩
theorem ySc_in {a c : Nat} (hT : TI b T n g lo hi xl xh p m an M0 N0) (ha : lo ≤ a) (h1 : g 1 a ≤ c) (h2 : c ≤ a) (hs : ySc b h f p m hi g M N sc S a) : ySc b h f p m hi g M N sc S c := by
  refine ⟨fun k hk => ?_, hs.2⟩
  obtain ⟨s1, s2, s3⟩ := hs.1 k hk
  exact ⟨s1, IS_in hT ha h1 h2 s2, s3⟩
theorem zO_less {s : Nat} {a w : Int32} {sc' : Nat} {S' : Nat → Nat} (hr : zO h N0 f ((s, a, w) :: L) sc' S' N) (h1 : ∀ k, k < sc → S' k = S k) (h2 : sc ≤ sc') : zO h N0 f L sc S (mv_si (mv_si N 62 36 (nI L.length)) 62 44 (nI sc)) := by
  obtain ⟨a1, a2, a3, ⟨a4, a5⟩, a6, a7, a8⟩ := hr
  refine ⟨zW_si (zW_si a1 (by unfold zA; omega)) (by unfold zA; omega), by simp (disch := omega) only [rd_hi, rd_mi, rd_hl, rd_ml, rd_hr, rd_mr, rd_si2, rd_sl1, rd_sl2, rd_sr1, rd_sr2]; exact a2, by simp (disch := omega) only [rd_hi, rd_mi, rd_hl, rd_ml, rd_hr, rd_mr, rd_si2, rd_sl1, rd_sl2, rd_sr1, rd_sr2]; exact a3, ⟨by simp (disch := omega) only [rd_hi, rd_mi, rd_hl, rd_ml, rd_hr, rd_mr, rd_si2, rd_sl1, rd_sl2, rd_sr1, rd_sr2], sk3_congr a5.2.2.2 (fun c k hc hk => by simp (disch := omega) only [rd_hi, rd_mi, rd_hl, rd_ml, rd_hr, rd_mr, rd_si2, rd_sl1, rd_sl2, rd_sr1, rd_sr2])⟩, by simp (disch := omega) only [rd_hi, rd_mi, rd_hl, rd_ml, rd_hr, rd_mr, rd_si2, rd_sl1, rd_sl2, rd_sr1, rd_sr2], by omega, fun k hk => by simp (disch := omega) only [rd_hi, rd_mi, rd_hl, rd_ml, rd_hr, rd_mr, rd_si2, rd_sl1, rd_sl2, rd_sr1, rd_sr2]; rw [← h1 k hk]; exact a8 k (by omega)⟩
theorem nI_ne_nN {y : Nat} (h : y < 2 ^ 31) : nI y ≠ nN := fun e => by rw [kn_eq h] at e; exact e
theorem nI_ne_nM {y : Nat} (h : y < 2 ^ 31) : nI y ≠ nM := fun e => by
  have := congrArg Int32.toInt e
  rw [nI_toInt h, show nM.toInt = -2 by decide] at this
  omega
theorem nI_ne_m1 {y : Nat} (h : y < 2 ^ 31) : ¬ nI y = (-1 : Int32) := nI_ne_nN h
theorem nI_ne_m2 {y : Nat} (h : y < 2 ^ 31) : ¬ nI y = (-2 : Int32) := nI_ne_nM h
set_option maxHeartbeats 2000000 in
theorem t_fin {R : Int32 → Int32 → mv_M → Option (Int32 × mv_M)} {r : Int32} (hG : yG b h M0 N0 T n cnt F ND) (hU : yU b h M0 N0 T n F ND f lo hi xl xh an p m g lab) (hc : lo ≤ c) (hc2 : c < hi) (hw : wW w) (hl : L.length < 3000) (hq : oQ b h M0 N0 f p m hi F g lo c w L sc S M N r M' N') : JT b h M0 N0 f N' (mv_getp (M'.2.2 4 2) fun b6 => mv_chk (mv_inb (nI c) 1000) <| mv_let (mv_si M' (b6 + 13) (nI c).toNatClampNeg r) fun M8 => if w = (-1) then fX9_typeOf_60 R (nI c) r M8 else if w = r then fX9_typeOf_60 R (nI c) r M8 else if w = (-2) then if r ≤ 0 then fX9_typeOf_64 R (nI c) r M8 else fX9_typeOf_60 R (nI c) r M8 else fX9_typeOf_64 R (nI c) r M8) (yQ b h M0 N0 f p m hi F g lo c w L sc S M N) := by
  obtain ⟨q1, q308, q2, ⟨sc', S', q3, q4, q5⟩, q6, q7, q8, q9⟩ := hq
  have hx := hG.1
  have hb := hx.1
  have hT := hU.2.2.2.2.2.2.2.2.2.1
  have hND := hx.2.2.2.2.1.2
  have hhi := hU.2.1
  have hm := hU.2.2.2.2.2.2.2.1
  obtain ⟨x1, x2, x3, x4, x5, t, t1, t2, t3, t4⟩ := hT c hc hc2
  have hxr := hU.2.2.1
  have hh := hG.2.1
  rw [y_get hx q2.1, k_inb (by omega) (by omega), k_ck, k_lt', nI_clamp (by omega)]
  have q3' := zO_less (sc := sc) (S := S) q3 q4 q5
  have n75 : N'.1 75 (g 0 c) = nI (lx_st T n t) := (q3.1.1 75 _ (by unfold zA; omega)).trans t3
  have y2 : yO b M0 f sc S (mv_si M' (b + 13) c r) := by
    obtain ⟨u1, u2, u3, u4, u5, u6⟩ := q2
    exact ⟨yW_si u1 (by unfold yA; omega), by simp (disch := omega) only [rd_hi, rd_mi, rd_hl, rd_ml, rd_hr, rd_mr, rd_si2, rd_sl1, rd_sl2, rd_sr1, rd_sr2]; exact u2, by simp (disch := omega) only [rd_hi, rd_mi, rd_hl, rd_ml, rd_hr, rd_mr, rd_si2, rd_sl1, rd_sl2, rd_sr1, rd_sr2]; exact u3, by simp (disch := omega) only [rd_hi, rd_mi, rd_hl, rd_ml, rd_hr, rd_mr, rd_si2, rd_sl1, rd_sl2, rd_sr1, rd_sr2]; exact u4, u5, fun k hk => by simp (disch := omega) only [rd_hi, rd_mi, rd_hl, rd_ml, rd_hr, rd_mr, rd_si2, rd_sl1, rd_sl2, rd_sr1, rd_sr2]; exact u6 k hk⟩
  -- both tell
  have bad : fX11_onShut_162 (nI (g 0 c)) w r (mv_si (mv_si N' 62 36 (nI L.length)) 62 44 (nI sc)) = fX11_onShut_191 (nI (g 0 c)) r (mv_si (mv_si N' 62 36 (nI L.length)) 62 44 (nI sc)) → JT b h M0 N0 f N' (fX9_typeOf_77 R (nI c) r (mv_si M' (b + 13) c r)) (yQ b h M0 N0 f p m hi F g lo c w L sc S M N) := by
    intro e
    obtain ⟨M2, e1, e2⟩ := yO_tell (v := 5) hx y2 (show c < ND by omega) t1 t2 (by omega) (by omega)
    have e1' : fX9_tell 5 (nI c) (mv_si M' (b + 13) c r) = some ((), M2) := e1
    unfold fX9_typeOf_77
    rw [e1', k_bs]
    have z1 : zD h N0 f 5 (lx_st T n t) (mv_si (mv_si (mv_si (mv_si (mv_si N' 62 36 (nI L.length)) 62 44 (nI sc)) 62 9 (nI 5)) 62 10 (nI (lx_st T n t))) 76 (g 0 c) r) := by
      obtain ⟨a1, a2, a3, _⟩ := q3'
      exact ⟨zW_si (zW_si (zW_si a1 (by unfold zA; omega)) (by unfold zA; omega)) (by unfold zA; omega), by simp (disch := omega) only [rd_hi, rd_mi, rd_hl, rd_ml, rd_hr, rd_mr, rd_si2, rd_sl1, rd_sl2, rd_sr1, rd_sr2], by omega, by omega, by simp (disch := omega) only [rd_hi, rd_mi, rd_hl, rd_ml, rd_hr, rd_mr, rd_si2, rd_sl1, rd_sl2, rd_sr1, rd_sr2], by simp (disch := omega) only [rd_hi, rd_mi, rd_hl, rd_ml, rd_hr, rd_mr, rd_si2, rd_sl1, rd_sl2, rd_sr1, rd_sr2]; exact q3.2.2.1⟩
    refine JT_dead (nb := 5) (pl := lx_st T n t) (ok_some e2) ((T_go ((z_g4 q3 hl).trans ?_)).trans (T_fault z1)) z1
    have a2 : N'.1 62 9 = nI 0 := q3.2.1
    rw [q9, e]
    unfold fX11_onShut_191 fX11_onShut_202 fX11_stop
    simp (disch := omega) only [a2, n75, k_iT, k_iF, Bool.false_eq_true, eq_self, Nat.add_zero, k_lt', k_bs, k_T, k_F, k_inb, k_ck, k_nz, ↓kN, kL, k_lt, k_le, k_eq, kn_le, kn_lt, kn_eq, kn_le', kn_lt', kn_eq', nI_clamp, nI_add, k_sub, k_mul, k_div, rd_hi, rd_mi, rd_hl, rd_ml, rd_hr, rd_mr, rd_si2, rd_sl1, rd_sl2, rd_sr1, rd_sr2]
  -- both are content
  have good : ∀ y, r = nI y → y ≤ 4 → nt b h f p m hi F g M0 M' N' c y → (w = nN ∨ w = nI y ∨ (w = nM ∧ 0 < y)) → fX11_onShut_162 (nI (g 0 c)) w r (mv_si (mv_si N' 62 36 (nI L.length)) 62 44 (nI sc)) = fX11_onShut_202 (nI (g 0 c)) r (mv_si (mv_si N' 62 36 (nI L.length)) 62 44 (nI sc)) → JT b h M0 N0 f N' (some (r, mv_si M' (b + 13) c r)) (yQ b h M0 N0 f p m hi F g lo c w L sc S M N) := by
    intro y hy hy4 hnt hwy e
    have z1 : zO h N0 f L sc S (mv_si (mv_si (mv_si N' 62 36 (nI L.length)) 62 44 (nI sc)) 76 (g 0 c) r) := zO_si q3' (by unfold zA; omega) (by omega)
    have eP : fX11_judge_71 N' = fX11_judge_71 (mv_si (mv_si (mv_si N' 62 36 (nI L.length)) 62 44 (nI sc)) 76 (g 0 c) r) := by
      refine T_go ((z_g4 q3 hl).trans ?_)
      rw [q9, e]
      unfold fX11_onShut_202
      simp (disch := omega) only [k_iT, k_iF, Bool.false_eq_true, eq_self, Nat.add_zero, k_lt', k_bs, k_T, k_F, k_inb, k_ck, k_nz, ↓kN, kL, k_lt, k_le, k_eq, kn_le, kn_lt, kn_eq, kn_le', kn_lt', kn_eq', nI_clamp, nI_add, k_sub, k_mul, k_div, rd_hi, rd_mi, rd_hl, rd_ml, rd_hr, rd_mr, rd_si2, rd_sl1, rd_sl2, rd_sr1, rd_sr2]
    refine JT_step eP (JT_some ⟨y, hy, hy4, hwy, y2, z1, ?_, ?_, ?_, by simp (disch := omega) only [rd_hi, rd_mi, rd_hl, rd_ml, rd_hr, rd_mr, rd_si2, rd_sl1, rd_sl2, rd_sr1, rd_sr2]; exact hy⟩)
    · obtain ⟨p1, p2, p3, p4, p5⟩ := q6
      refine ⟨fun k u1 u2 => by simp (disch := omega) only [rd_hi, rd_mi, rd_hl, rd_ml, rd_hr, rd_mr, rd_si2, rd_sl1, rd_sl2, rd_sr1, rd_sr2]; exact p1 k u1 u2, fun k u => ?_, fun x u => by simp (disch := omega) only [rd_hi, rd_mi, rd_hl, rd_ml, rd_hr, rd_mr, rd_si2, rd_sl1, rd_sl2, rd_sr1, rd_sr2]; exact p3 x u, fun x u => by simp (disch := omega) only [rd_hi, rd_mi, rd_hl, rd_ml, rd_hr, rd_mr, rd_si2, rd_sl1, rd_sl2, rd_sr1, rd_sr2]; exact p4 x u, fun q k pq u1 u2 u3 u4 => by simp (disch := omega) only [rd_hi, rd_mi, rd_hl, rd_ml, rd_hr, rd_mr, rd_si2, rd_sl1, rd_sl2, rd_sr1, rd_sr2]; exact p5 q k pq u1 u2 u3 u4⟩
      by_cases ek : k = c
      · subst ek; simp (disch := omega) only [rd_hi, rd_mi, rd_hl, rd_ml, rd_hr, rd_mr, rd_si2, rd_sl1, rd_sl2, rd_sr1, rd_sr2]; exact q308 u
      · simp (disch := omega) only [rd_hi, rd_mi, rd_hl, rd_ml, rd_hr, rd_mr, rd_si2, rd_sl1, rd_sl2, rd_sr1, rd_sr2]; exact p2 k u
    · intro a a1 a2
      by_cases ea : a = c
      · subst ea
        exact ⟨y, hy4, by simp (disch := omega) only [rd_hi, rd_mi, rd_hl, rd_ml, rd_hr, rd_mr, rd_si2, rd_sl1, rd_sl2, rd_sr1, rd_sr2]; exact hy, by simp (disch := omega) only [rd_hi, rd_mi, rd_hl, rd_ml, rd_hr, rd_mr, rd_si2, rd_sl1, rd_sl2, rd_sr1, rd_sr2]; exact hy, nt_congr hnt (fun k _ k2 => by simp (disch := omega) only [rd_hi, rd_mi, rd_hl, rd_ml, rd_hr, rd_mr, rd_si2, rd_sl1, rd_sl2, rd_sr1, rd_sr2]) (by simp (disch := omega) only [rd_hi, rd_mi, rd_hl, rd_ml, rd_hr, rd_mr, rd_si2, rd_sl1, rd_sl2, rd_sr1, rd_sr2]) (fun nm _ _ => ⟨by simp (disch := omega) only [rd_hi, rd_mi, rd_hl, rd_ml, rd_hr, rd_mr, rd_si2, rd_sl1, rd_sl2, rd_sr1, rd_sr2], by simp (disch := omega) only [rd_hi, rd_mi, rd_hl, rd_ml, rd_hr, rd_mr, rd_si2, rd_sl1, rd_sl2, rd_sr1, rd_sr2]⟩) (by simp (disch := omega) only [rd_hi, rd_mi, rd_hl, rd_ml, rd_hr, rd_mr, rd_si2, rd_sl1, rd_sl2, rd_sr1, rd_sr2]) (by simp (disch := omega) only [rd_hi, rd_mi, rd_hl, rd_ml, rd_hr, rd_mr, rd_si2, rd_sl1, rd_sl2, rd_sr1, rd_sr2])⟩
      · obtain ⟨y', v1, v2, v3, v4⟩ := q7 a a1 (by omega)
        have := g0_ne hT a1 (show a < hi by omega) hc hc2 ea
        exact ⟨y', v1, by simp (disch := omega) only [rd_hi, rd_mi, rd_hl, rd_ml, rd_hr, rd_mr, rd_si2, rd_sl1, rd_sl2, rd_sr1, rd_sr2]; exact v2, by simp (disch := omega) only [rd_hi, rd_mi, rd_hl, rd_ml, rd_hr, rd_mr, rd_si2, rd_sl1, rd_sl2, rd_sr1, rd_sr2]; exact v3, nt_congr v4 (fun k _ k2 => by simp (disch := omega) only [rd_hi, rd_mi, rd_hl, rd_ml, rd_hr, rd_mr, rd_si2, rd_sl1, rd_sl2, rd_sr1, rd_sr2]) (by simp (disch := omega) only [rd_hi, rd_mi, rd_hl, rd_ml, rd_hr, rd_mr, rd_si2, rd_sl1, rd_sl2, rd_sr1, rd_sr2]) (fun nm _ _ => ⟨by simp (disch := omega) only [rd_hi, rd_mi, rd_hl, rd_ml, rd_hr, rd_mr, rd_si2, rd_sl1, rd_sl2, rd_sr1, rd_sr2], by simp (disch := omega) only [rd_hi, rd_mi, rd_hl, rd_ml, rd_hr, rd_mr, rd_si2, rd_sl1, rd_sl2, rd_sr1, rd_sr2]⟩) (by simp (disch := omega) only [rd_hi, rd_mi, rd_hl, rd_ml, rd_hr, rd_mr, rd_si2, rd_sl1, rd_sl2, rd_sr1, rd_sr2]) (by simp (disch := omega) only [rd_hi, rd_mi, rd_hl, rd_ml, rd_hr, rd_mr, rd_si2, rd_sl1, rd_sl2, rd_sr1, rd_sr2])⟩
    · obtain ⟨f1, f2, f3, f4⟩ := q8
      refine ⟨fun k u => by simp (disch := omega) only [rd_hi, rd_mi, rd_hl, rd_ml, rd_hr, rd_mr, rd_si2, rd_sl1, rd_sl2, rd_sr1, rd_sr2]; exact f1 k u, fun j u => by simp (disch := omega) only [rd_hi, rd_mi, rd_hl, rd_ml, rd_hr, rd_mr, rd_si2, rd_sl1, rd_sl2, rd_sr1, rd_sr2]; exact f2 j u, fun j u => by simp (disch := omega) only [rd_hi, rd_mi, rd_hl, rd_ml, rd_hr, rd_mr, rd_si2, rd_sl1, rd_sl2, rd_sr1, rd_sr2]; exact f3 j u, fun x u => ?_⟩
      have := u c (by omega) (by omega)
      simp (disch := omega) only [rd_hi, rd_mi, rd_hl, rd_ml, rd_hr, rd_mr, rd_si2, rd_sl1, rd_sl2, rd_sr1, rd_sr2]
      exact f4 x u
  have cN : ((-1 : Int32) = nN) := rfl
  have cM : ((-2 : Int32) = nM) := rfl
  rcases q1 with rfl | ⟨y, y4, rfl, hnt⟩
  · -- a pair in a pair in a pair
    have eb : fX11_onShut_162 (nI (g 0 c)) w nN (mv_si (mv_si N' 62 36 (nI L.length)) 62 44 (nI sc)) = fX11_onShut_191 (nI (g 0 c)) nN (mv_si (mv_si N' 62 36 (nI L.length)) 62 44 (nI sc)) := by
      unfold fX11_onShut_162
      rw [if_pos (show nN = -1 from rfl)]
    have k60 : ∀ X, fX9_typeOf_60 R (nI c) nN X = fX9_typeOf_77 R (nI c) nN X := fun X => by
      unfold fX9_typeOf_60 fX9_typeOf_65
      rw [if_neg (by decide), if_pos (show nN = -1 from rfl)]
    have k64 : ∀ X, fX9_typeOf_64 R (nI c) nN X = fX9_typeOf_77 R (nI c) nN X := fun X => by
      unfold fX9_typeOf_64 fX9_typeOf_65
      rw [if_pos rfl]
    simp only [k60, k64, ite_self]
    exact bad eb
  · have k60 : ∀ X, fX9_typeOf_60 R (nI c) (nI y) X = some (nI y, X) := fun X => by
      unfold fX9_typeOf_60 fX9_typeOf_65
      rw [if_neg (by decide), if_neg (nI_ne_m1 (by omega))]
    have k64 : ∀ X, fX9_typeOf_64 R (nI c) (nI y) X = fX9_typeOf_77 R (nI c) (nI y) X := fun X => by
      unfold fX9_typeOf_64 fX9_typeOf_65
      rw [if_pos rfl]
    simp only [k60, k64]
    rcases hw with rfl | rfl | ⟨yw, hy4, rfl⟩
    · rw [if_pos (show nN = -1 from rfl)]
      refine good y rfl y4 hnt (.inl rfl) ?_
      unfold fX11_onShut_162 fX11_onShut_180
      rw [if_neg (nI_ne_m1 (by omega)), if_pos (by decide), if_neg (by decide)]
    · rw [if_neg (by decide), if_neg (fun e => nI_ne_nM (by omega) e.symm), if_pos (show nM = -2 from rfl)]
      by_cases h0 : y = 0
      · subst h0
        rw [if_pos (by decide)]
        refine bad ?_
        unfold fX11_onShut_162 fX11_onShut_180
        rw [if_neg (by decide), if_pos (by decide), if_pos (by decide), if_pos (by decide)]
      · rw [if_neg (by rw [show (0 : Int32) = nI 0 from rfl, k_le (by omega) (by omega)]; omega)]
        refine good y rfl y4 hnt (.inr (.inr ⟨rfl, by omega⟩)) ?_
        unfold fX11_onShut_162 fX11_onShut_180
        rw [if_neg (nI_ne_m1 (by omega)), if_pos (by decide), if_pos (by decide), if_neg (by rw [show (0 : Int32) = nI 0 from rfl, k_eq (by omega) (by omega)]; exact h0)]
    · rw [if_neg (nI_ne_m1 (by omega))]
      have eneg : ¬ nI yw < 0 := by rw [show (0 : Int32) = nI 0 from rfl, k_lt (by omega) (by omega)]; omega
      by_cases hyw : yw = y
      · subst hyw
        rw [if_pos rfl]
        refine good yw rfl y4 hnt (.inr (.inl rfl)) ?_
        unfold fX11_onShut_162 fX11_onShut_180
        rw [if_neg (nI_ne_m1 (by omega)), if_neg eneg, if_pos rfl, if_neg (nI_ne_m2 (by omega))]
      · rw [if_neg (by rw [k_eq (by omega) (by omega)]; exact hyw), if_neg (nI_ne_m2 (by omega))]
        refine bad ?_
        unfold fX11_onShut_162
        rw [if_neg (nI_ne_m1 (by omega)), if_neg eneg, if_neg (by rw [k_eq (by omega) (by omega)]; omega)]
end TF
