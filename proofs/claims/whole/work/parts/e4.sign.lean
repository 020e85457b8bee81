/-! RUNS: signs, if -/
def apl (s : Nat) (a c : Int32) : Int32 := if s = 42 then a * c else if s = 43 then a + c else if s = 45 then a - c else if s = 60 then (if c ≤ a then 0 else 1) else if a = c then 1 else 0
section RY
variable {b h F ND n m pr cl m' pr' cl' m2 pr2 cl2 k t t' fr x st st' mx dp dd dd' kp kp' d tn tn' e i ty y f c c1 c2 c3 s : Nat} {P : Nat → Nat → Nat} {it ff ff' ff2 : Nat → Nat} {M N M' N' M1 N1 M2 N2 M3 N3 : mv_M} {Z Z' : Nat → Nat → Prop} {v op a w : Int32} {Wt Gt : Option (Unit × mv_M)}
theorem pN_sg (hp : pN P F f c) (hs : sgK (P 0 c)) : pC P c (P 1 c) ∧ pC P c (P 2 c) ∧ P 5 (P 1 c) = 0 ∧ P 5 (P 2 c) = 0 ∧ P 5 c = 0 := by
  unfold pN at hp
  unfold sgK at hs
  rcases hp with z | z | ⟨z, _⟩ | ⟨z, _⟩ | ⟨z, y⟩ | ⟨z, _⟩ | ⟨z, _⟩ | ⟨z, _⟩ | ⟨z, _⟩
  · omega
  · omega
  · omega
  · omega
  · exact y
  all_goals omega
theorem pN_if (hp : pN P F f c) (hs : P 0 c = 301) : pC P c (P 1 c) ∧ pC P c (P 2 c) ∧ pC P c (P 3 c) ∧ P 5 (P 1 c) = 0 ∧ P 5 (P 2 c) = P 5 c ∧ P 5 (P 3 c) = P 5 c := by
  unfold pN sgK at hp
  rcases hp with z | z | ⟨z, _⟩ | ⟨z, _⟩ | ⟨z, _⟩ | ⟨z, _⟩ | ⟨z, _⟩ | ⟨z, _⟩ | ⟨_, z⟩
  · omega
  · omega
  · omega
  · omega
  · omega
  · omega
  · omega
  · omega
  · exact z
theorem pN_let (hp : pN P F f c) (hs : P 0 c = 304) : pC P c (P 1 c) ∧ pC P c (P 2 c) ∧ P 5 (P 2 c) = P 5 c ∧ P 9 f ≤ P 3 c ∧ P 3 c < P 10 f ∧ P 13 (16 * f + P 3 c) = P 5 (P 1 c) ∧ P 14 (16 * f + P 3 c) = c ∧ P 2 c + 1 = c ∧ P 7 (P 2 c) = P 1 c + 1 := by
  unfold pN sgK at hp
  rcases hp with z | z | ⟨z, _⟩ | ⟨z, _⟩ | ⟨z, _⟩ | ⟨z, _⟩ | ⟨_, z⟩ | ⟨z, _⟩ | ⟨z, _⟩
  · omega
  · omega
  · omega
  · omega
  · omega
  · omega
  · exact z
  · omega
  · omega
theorem pN_case (hp : pN P F f c) (hs : P 0 c = 306) : pC P c (P 1 c) ∧ pC P c (P 2 c) ∧ P 5 (P 2 c) = P 5 c ∧ P 9 f ≤ P 3 c ∧ P 3 c + 1 < P 10 f ∧ 0 < P 5 (P 1 c) ∧ P 13 (16 * f + P 3 c) = (P 5 (P 1 c) - 1) / 2 ∧ P 13 (16 * f + (P 3 c + 1)) = (P 5 (P 1 c) - 1) % 2 ∧ P 14 (16 * f + P 3 c) = c ∧ P 14 (16 * f + (P 3 c + 1)) = c ∧ P 2 c + 1 = c ∧ P 7 (P 2 c) = P 1 c + 1 := by
  unfold pN sgK at hp
  rcases hp with z | z | ⟨z, _⟩ | ⟨z, _⟩ | ⟨z, _⟩ | ⟨z, _⟩ | ⟨z, _⟩ | ⟨_, z⟩ | ⟨z, _⟩
  · omega
  · omega
  · omega
  · omega
  · omega
  · omega
  · omega
  · exact z
  · omega
theorem pN_name (hp : pN P F f c) (hs : P 0 c = 2) : P 1 c < P 10 f ∧ P 13 (16 * f + P 1 c) = P 5 c ∧ pS P f c (P 1 c) := by
  unfold pN sgK at hp
  rcases hp with z | z | ⟨_, z⟩ | ⟨z, _⟩ | ⟨z, _⟩ | ⟨z, _⟩ | ⟨z, _⟩ | ⟨z, _⟩ | ⟨z, _⟩
  · omega
  · omega
  · exact z
  all_goals omega
theorem pN_call (hp : pN P F f c) (hs : P 0 c = 5) : P 1 c < F ∧ P 3 c = P 9 (P 1 c) ∧ P 5 c = P 11 (P 1 c) ∧ ∀ k, k < P 3 c → pC P c (ar P c k) ∧ P 5 (ar P c k) = P 13 (16 * P 1 c + k) := by
  unfold pN sgK at hp
  rcases hp with z | z | ⟨z, _⟩ | ⟨_, z⟩ | ⟨z, _⟩ | ⟨z, _⟩ | ⟨z, _⟩ | ⟨z, _⟩ | ⟨z, _⟩
  · omega
  · omega
  · omega
  · exact z
  all_goals omega
theorem pN_pair (hp : pN P F f c) (hs : P 0 c = 6) : pC P c (P 1 c) ∧ pC P c (P 2 c) ∧ P 5 (P 1 c) ≤ 1 ∧ P 5 (P 2 c) ≤ 1 ∧ P 5 c = 1 + 2 * P 5 (P 1 c) + P 5 (P 2 c) := by
  unfold pN sgK at hp
  rcases hp with z | z | ⟨z, _⟩ | ⟨z, _⟩ | ⟨z, _⟩ | ⟨_, z⟩ | ⟨z, _⟩ | ⟨z, _⟩ | ⟨z, _⟩
  · omega
  · omega
  · omega
  · omega
  · omega
  · exact z
  all_goals omega
theorem c_reckon {a c : Int32} (hs : sgK s) : fX2_reckon (nI s) a c M = some (apl s a c, M) := by
  unfold fX2_reckon apl
  rcases hs with rfl | rfl | rfl | rfl | rfl
  · rw [if_neg (by decide), if_pos (by decide), if_neg (by decide), if_pos (by decide)]
  · rw [if_neg (by decide), if_neg (by decide), if_pos (by decide), if_neg (by decide), if_neg (by decide), if_pos (by decide)]
  · rw [if_pos (by decide), if_pos (by decide)]
  · rw [if_neg (show ¬ nI 60 = (42 : Int32) by decide), if_neg (show ¬ nI 60 = (43 : Int32) by decide), if_neg (show ¬ nI 60 = (45 : Int32) by decide), if_pos (show nI 60 = (60 : Int32) by decide)]
    show _ = some (if c ≤ a then 0 else 1, M)
    split <;> rfl
  · rw [if_neg (show ¬ nI 4 = (42 : Int32) by decide), if_neg (show ¬ nI 4 = (43 : Int32) by decide), if_neg (show ¬ nI 4 = (45 : Int32) by decide), if_neg (show ¬ nI 4 = (60 : Int32) by decide)]
    show _ = some (if a = c then 1 else 0, M)
    split <;> rfl
theorem r_pop5 (e36 : N.1 62 36 = nI (t + 1)) (ht : t < 3000) (e74 : N.1 62 74 = nI 0) (hs : sgK s) (hk : tk3 N t (nI 5) (nI (lx_tk s)) w) (e82 : N.1 62 82 = nI (d + 1)) (hd : d < 3000) : gX11_goes_0 N = some (.inl (), mv_si (mv_si (mv_si (mv_si N 62 36 (nI t)) 62 82 (nI d)) 62 77 (nI 0)) 62 78 (apl s (N.1 105 d) (N.1 62 78))) := by
  rw [r_pp e36 ht e74 hk]
  unfold gO fX11_goes_276 fX11_goes_394 fX11_gives apl
  rw [if_neg (by decide), if_neg (by decide), if_neg (by decide), if_neg (by decide), if_pos (by decide)]
  rcases hs with rfl | rfl | rfl | rfl | rfl
  · have l : lx_tk 43 = 19 := rfl
    rw [l]
    simp (disch := omega) only [↓reduceIte, Nat.add_sub_cancel, e82, k_iT, k_iF, Bool.false_eq_true, eq_self, Nat.add_zero, k_lt', k_bs, k_T, k_F, k_inb, k_ck, k_nz, ↓kN, kL, k_lt, k_le, k_eq, kn_le, kn_lt, kn_eq, kn_le', kn_lt', kn_eq', nI_clamp, nI_add, k_sub, k_mul, k_div, rd_hi, rd_mi, rd_hl, rd_ml, rd_hr, rd_mr, rd_si2, rd_sl1, rd_sl2, rd_sr1, rd_sr2]
  · have l : lx_tk 45 = 20 := rfl
    rw [l]
    simp (disch := omega) only [↓reduceIte, Nat.add_sub_cancel, e82, k_iT, k_iF, Bool.false_eq_true, eq_self, Nat.add_zero, k_lt', k_bs, k_T, k_F, k_inb, k_ck, k_nz, ↓kN, kL, k_lt, k_le, k_eq, kn_le, kn_lt, kn_eq, kn_le', kn_lt', kn_eq', nI_clamp, nI_add, k_sub, k_mul, k_div, rd_hi, rd_mi, rd_hl, rd_ml, rd_hr, rd_mr, rd_si2, rd_sl1, rd_sl2, rd_sr1, rd_sr2]
  · have l : lx_tk 42 = 21 := rfl
    rw [l]
    simp (disch := omega) only [↓reduceIte, Nat.add_sub_cancel, e82, k_iT, k_iF, Bool.false_eq_true, eq_self, Nat.add_zero, k_lt', k_bs, k_T, k_F, k_inb, k_ck, k_nz, ↓kN, kL, k_lt, k_le, k_eq, kn_le, kn_lt, kn_eq, kn_le', kn_lt', kn_eq', nI_clamp, nI_add, k_sub, k_mul, k_div, rd_hi, rd_mi, rd_hl, rd_ml, rd_hr, rd_mr, rd_si2, rd_sl1, rd_sl2, rd_sr1, rd_sr2]
  · have l : lx_tk 60 = 22 := rfl
    rw [l]
    by_cases u : N.1 62 78 ≤ N.1 105 d
    · simp (disch := omega) only [↓reduceIte, Nat.add_sub_cancel, e82, u, k_iT, k_iF, Bool.false_eq_true, eq_self, Nat.add_zero, k_lt', k_bs, k_T, k_F, k_inb, k_ck, k_nz, ↓kN, kL, k_lt, k_le, k_eq, kn_le, kn_lt, kn_eq, kn_le', kn_lt', kn_eq', nI_clamp, nI_add, k_sub, k_mul, k_div, rd_hi, rd_mi, rd_hl, rd_ml, rd_hr, rd_mr, rd_si2, rd_sl1, rd_sl2, rd_sr1, rd_sr2]
    · simp (disch := omega) only [↓reduceIte, Nat.add_sub_cancel, e82, u, k_iT, k_iF, Bool.false_eq_true, eq_self, Nat.add_zero, k_lt', k_bs, k_T, k_F, k_inb, k_ck, k_nz, ↓kN, kL, k_lt, k_le, k_eq, kn_le, kn_lt, kn_eq, kn_le', kn_lt', kn_eq', nI_clamp, nI_add, k_sub, k_mul, k_div, rd_hi, rd_mi, rd_hl, rd_ml, rd_hr, rd_mr, rd_si2, rd_sl1, rd_sl2, rd_sr1, rd_sr2]
  · have l : lx_tk 4 = 12 := rfl
    rw [l]
    by_cases u : N.1 105 d = N.1 62 78
    · simp (disch := omega) only [↓reduceIte, Nat.add_sub_cancel, e82, u, k_iT, k_iF, Bool.false_eq_true, eq_self, Nat.add_zero, k_lt', k_bs, k_T, k_F, k_inb, k_ck, k_nz, ↓kN, kL, k_lt, k_le, k_eq, kn_le, kn_lt, kn_eq, kn_le', kn_lt', kn_eq', nI_clamp, nI_add, k_sub, k_mul, k_div, rd_hi, rd_mi, rd_hl, rd_ml, rd_hr, rd_mr, rd_si2, rd_sl1, rd_sl2, rd_sr1, rd_sr2]
    · simp (disch := omega) only [↓reduceIte, Nat.add_sub_cancel, e82, u, k_iT, k_iF, Bool.false_eq_true, eq_self, Nat.add_zero, k_lt', k_bs, k_T, k_F, k_inb, k_ck, k_nz, ↓kN, kL, k_lt, k_le, k_eq, kn_le, kn_lt, kn_eq, kn_le', kn_lt', kn_eq', nI_clamp, nI_add, k_sub, k_mul, k_div, rd_hi, rd_mi, rd_hl, rd_ml, rd_hr, rd_mr, rd_si2, rd_sl1, rd_sl2, rd_sr1, rd_sr2]
-- the class at a sign
theorem sg_0 (hb : b = 9 ∨ b = 24) (h76 : M.2.2 7 6 = some b) (e52 : M.1 52 d = nI fr) (e53 : M.1 53 d = nI 0) (hd : d < 150) (hx : x < 1000) (e9 : M.1 (b + 9) x = nI c) : fX2_goOnSign (nI x) (nI d) M = fX2_enter (nI c) (nI fr) (mv_si M 53 d (nI 1)) := by
  have gp : ∀ {γ : Type} (K : Nat → Option γ), mv_getp (some b) K = K b := fun K => gp_b hb
  unfold fX2_goOnSign fX2_nextPhase
  simp (disch := omega) only [↓reduceIte, e52, e53, h76, gp, e9, bind_id, k_iT, k_iF, Bool.false_eq_true, eq_self, Nat.add_zero, k_lt', k_bs, k_T, k_F, k_inb, k_ck, k_nz, ↓kN, kL, k_lt, k_le, k_eq, kn_le, kn_lt, kn_eq, kn_le', kn_lt', kn_eq', nI_clamp, nI_add, k_sub, k_mul, k_div, rd_hi, rd_mi, rd_hl, rd_ml, rd_hr, rd_mr, rd_si2, rd_sl1, rd_sl2, rd_sr1, rd_sr2]
theorem sg_1 (hb : b = 9 ∨ b = 24) (h76 : M.2.2 7 6 = some b) (e52 : M.1 52 d = nI fr) (e53 : M.1 53 d = nI 1) (hd : d < 150) (hx : x < 1000) (e9 : M.1 (b + 10) x = nI c) : fX2_goOnSign (nI x) (nI d) M = fX2_enter (nI c) (nI fr) (mv_si (mv_si M 53 d (nI 2)) 54 d (M.1 7 9)) := by
  have gp : ∀ {γ : Type} (K : Nat → Option γ), mv_getp (some b) K = K b := fun K => gp_b hb
  unfold fX2_goOnSign fX2_nextPhase
  simp (disch := omega) only [↓reduceIte, e52, e53, h76, gp, e9, bind_id, k_iT, k_iF, Bool.false_eq_true, eq_self, Nat.add_zero, k_lt', k_bs, k_T, k_F, k_inb, k_ck, k_nz, ↓kN, kL, k_lt, k_le, k_eq, kn_le, kn_lt, kn_eq, kn_le', kn_lt', kn_eq', nI_clamp, nI_add, k_sub, k_mul, k_div, rd_hi, rd_mi, rd_hl, rd_ml, rd_hr, rd_mr, rd_si2, rd_sl1, rd_sl2, rd_sr1, rd_sr2]
theorem sg_2 (hb : b = 9 ∨ b = 24) (h76 : M.2.2 7 6 = some b) (e52 : M.1 52 d = nI fr) (e53 : M.1 53 d = nI 2) (hd : d < 150) (hx : x < 1000) (hs : sgK s) (e8 : M.1 (b + 8) x = nI s) : fX2_goOnSign (nI x) (nI d) M = fX2_leave (apl s (M.1 54 d) (M.1 7 9)) (mv_si M 53 d (nI 3)) := by
  have gp : ∀ {γ : Type} (K : Nat → Option γ), mv_getp (some b) K = K b := fun K => gp_b hb
  unfold fX2_goOnSign fX2_nextPhase
  simp (disch := omega) only [↓reduceIte, e52, e53, h76, gp, e8, c_reckon hs, bind_id, k_iT, k_iF, Bool.false_eq_true, eq_self, Nat.add_zero, k_lt', k_bs, k_T, k_F, k_inb, k_ck, k_nz, ↓kN, kL, k_lt, k_le, k_eq, kn_le, kn_lt, kn_eq, kn_le', kn_lt', kn_eq', nI_clamp, nI_add, k_sub, k_mul, k_div, rd_hi, rd_mi, rd_hl, rd_ml, rd_hr, rd_mr, rd_si2, rd_sl1, rd_sl2, rd_sr1, rd_sr2]
/-- nothing of the zone before a control step -/
theorem Ow_k (hE : ∀ Z, Ex P it n Z m pr cl ff M N m' pr' cl' ff' M' N') (hf : fr ≤ cl) (hc : ¬ Ow P m M fr c) : ¬ Ow P m' M' fr c := fun z => by
  rcases (hE (fun _ _ => False)).2.2.2.2.2.2 fr c hf z with y | y
  · exact hc y
  · exact y
theorem SS_k {m pr cl st mx dp dd t kp st' dd' t' kp' : Nat} (hS : SS b h P F ND it n m pr cl ff st mx dp dd t kp M N) (e2 : M'.2 = M.2) (eM : ∀ a p, ¬ kC a p → M'.1 a p = M.1 a p) (e3 : N'.2 = N.2) (eN : ∀ a p, ¬ kR' a p → N'.1 a p = N.1 a p) (hc : (st' ≤ mx ∧ mx ≤ 20000 ∧ dp ≤ 150 ∧ dd' ≤ 150 ∧ t' ≤ 5 * dp + 40 ∧ kp' ≤ dp) ∧ (M'.1 7 3 = nI st' ∧ N'.1 62 70 = nI st') ∧ (M'.1 7 8 = nI dp ∧ N'.1 62 72 = nI dp) ∧ (M'.1 7 5 = nI dd' ∧ N'.1 62 73 = nI dd') ∧ (M'.1 7 2 = nI 0 ∧ N'.1 62 74 = nI 0) ∧ N'.1 62 36 = nI t' ∧ N'.1 62 82 = nI kp') : SS b h P F ND it n m pr cl ff st' mx dp dd' t' kp' M' N' ∧ (∀ Z, Ex P it n Z m pr cl ff M N m pr cl ff M' N') ∧ gF M N M' N' := by
  have c := hS.2.2.2
  have key : ∀ Z, _ := fun Z => SS_c (Z := Z) (st' := st') (mx' := mx) (dp' := dp) (dd' := dd') (t' := t') (kp' := kp') hS e2 eM e3 eN ⟨hc.1, hc.2.1, ⟨(eM _ _ (by unfold kC; omega)).trans c.2.2.1.1, (eN _ _ (by unfold kR'; omega)).trans c.2.2.1.2⟩, hc.2.2.1, hc.2.2.2.1, hc.2.2.2.2.1, hc.2.2.2.2.2.1, hc.2.2.2.2.2.2⟩
  exact ⟨(key (fun _ _ => False)).1, fun Z => (key Z).2.1, (key (fun _ _ => False)).2.2⟩
theorem ev_sign (ih : EV b h P F ND it n k) (hkk : mx - st ≤ k + 1) (hS : SS b h P F ND it n m pr cl ff st mx dp dd (t + 1) kp M N) (hk : tk3 N t (nI 1) (nI (P 6 x)) (nI fr)) (hx : xX P F it n m cl ff M N x fr) (ho : ∀ c, P 7 x ≤ c → c ≤ x → ¬ Ow P m M fr c) (h1 : st < mx) (h2 : dp < 150) (htn : tn + 3 * (mx - st) < 1000000) (k3 : sgK (P 0 x)) : RO b h P F ND it n (zo P m M fr x) m pr cl ff st mx dp t kp (P 5 x) tn M N (fX2_workOut_8 (nI tn) (eW M x fr st dp dd)) (fX11_goes_0 N) := by
  have hc' := hS.2.2.2
  have hW := hS.1.1
  have hs := hS.1.2.1
  have hb := hS.1.2.2.1.1
  have bd := hS.2.2.2.1
  have hfr := hx.1
  obtain ⟨s1, s2, s3, s4, s5, ⟨s6, s7, s8⟩, s9⟩ := j_enter (x := x) (fr := fr) hS h1 h2
  generalize hM1 : eW M x fr st dp dd = M1 at s1 s2 s3 s4 s6 s7 s8 ⊢
  have hr := r_enter hc' h1 h2 hk
  generalize hN1 : eR N st dp dd t = N1 at s1 s2 s3 s5 s9 hr
  generalize hdd : max dd (dp + 1) = dd1 at s1
  have hx1 := Ex_x (s2 (fun _ _ => False)) hx
  obtain ⟨⟨x1, x2, x3, x4, x5, x6⟩, q1, q2, q3, q4⟩ := SS_node s1 hx1
  obtain ⟨p1, p2, p3, p4, p5⟩ := pN_sg q1 k3
  obtain ⟨a1, a2⟩ := q2.2.1 (.inl k3)
  obtain ⟨y9, y10, y72, y73⟩ := q3.2.2.2.2.2.2.2.2.1 (.inl k3)
  have y74 := q3.2.2.2.2.2.2.2.2.2.1 k3
  have e71 : N1.1 71 (P 6 x) = nI 1 := by
    rw [q3.2.2.2.1]
    rcases k3 with z | z | z | z | z <;> rw [z] <;> rfl
  have hg0 : ∀ X d', Pg b h P F ND X N1 → X.1 51 d' = nI x → d' < 150 → fX2_goOn (nI d') X = fX2_goOnSign (nI x) (nI d') X := by
    intro X d' hp he hd
    rw [go_at hp hx.2.1 hx.2.2.1 hx.2.2.2.1 he hd]
    unfold sgK at k3
    rw [if_neg (by omega), if_neg (by omega), if_neg (by omega), if_neg (by omega), if_neg (by omega), if_neg (by omega), if_neg (by omega), if_neg (by omega)]
  obtain ⟨⟨b1, b2, b3, b4, b5, b6⟩, ⟨b7, b8⟩, ⟨b9, bA⟩, ⟨bB, bC⟩, ⟨bD, bE⟩, ⟨bF, bG⟩, bH, bI⟩ := s1.2.2.2
  -- the first part
  have w0 := wk_1 (w := nI fr) e71 x6 bH (by omega)
  rw [y74, y73, y72] at w0
  generalize hN2 : pT (pT (pT (pT N1 (t + 1) (nI 5) (nI (lx_tk (P 0 x))) (nI 0)) (t + 1 + 1) (nI 1) (nI (P 6 (P 2 x))) (nI fr)) (t + 1 + 2) (nI 4) (nI 0) (nI 0)) (t + 1 + 3) (nI 1) (nI (P 6 (P 1 x))) (nI fr) = N2 at w0
  have gN : fX11_goes_0 N = fX11_goes_0 N2 := G_go (hr.trans (by rw [w0, k_bs]))
  have t0 : tk3 N2 t (nI 2) (nI 0) (nI 0) := by rw [← hN2]; exact tk3_p (tk3_p (tk3_p (tk3_p s9 (by omega)) (by omega)) (by omega)) (by omega)
  have t1 : tk3 N2 (t + 1) (nI 5) (nI (lx_tk (P 0 x))) (nI 0) := by rw [← hN2]; exact tk3_p (tk3_p (tk3_p pT_top (by omega)) (by omega)) (by omega)
  have t2 : tk3 N2 (t + 2) (nI 1) (nI (P 6 (P 2 x))) (nI fr) := by rw [← hN2]; exact tk3_p (tk3_p pT_top (by omega)) (by omega)
  have t3 : tk3 N2 (t + 3) (nI 4) (nI 0) (nI 0) := by rw [← hN2]; exact tk3_p pT_top (by omega)
  have t4 : tk3 N2 (t + 4) (nI 1) (nI (P 6 (P 1 x))) (nI fr) := by rw [← hN2]; exact pT_top
  have eN2 : ∀ a p, ¬ ((a = 62 ∧ p = 36) ∨ ((a = 81 ∨ a = 82 ∨ a = 85) ∧ t < p)) → N2.1 a p = N1.1 a p := by
    intro a p u
    rw [← hN2, pT_s (by omega), pT_s (by omega), pT_s (by omega), pT_s (by omega)]
  have z36 : N2.1 62 36 = nI (t + 5) := by rw [← hN2]; exact pT_36
  obtain ⟨S2, E2, g2⟩ := SS_k (M' := mv_si M1 53 dp (nI 1)) (N' := N2) (st' := st + 1) (dd' := dd1) (t' := t + 5) (kp' := kp) s1 rfl (fun a p u => by unfold kC at u; simp (disch := omega) only [rd_hi, rd_mi, rd_hl, rd_ml, rd_hr, rd_mr, rd_si2, rd_sl1, rd_sl2, rd_sr1, rd_sr2]) (by rw [← hN2]; rfl) (fun a p u => eN2 a p (by unfold kR' at u; omega)) ⟨⟨b1, b2, b3, b4, by omega, b6⟩, ⟨by simp (disch := omega) only [rd_hi, rd_mi, rd_hl, rd_ml, rd_hr, rd_mr, rd_si2, rd_sl1, rd_sl2, rd_sr1, rd_sr2]; exact b7, (eN2 _ _ (by omega)).trans b8⟩, ⟨by simp (disch := omega) only [rd_hi, rd_mi, rd_hl, rd_ml, rd_hr, rd_mr, rd_si2, rd_sl1, rd_sl2, rd_sr1, rd_sr2]; exact bB, (eN2 _ _ (by omega)).trans bC⟩, ⟨by simp (disch := omega) only [rd_hi, rd_mi, rd_hl, rd_ml, rd_hr, rd_mr, rd_si2, rd_sl1, rd_sl2, rd_sr1, rd_sr2]; exact bD, (eN2 _ _ (by omega)).trans bE⟩, ⟨by simp (disch := omega) only [rd_hi, rd_mi, rd_hl, rd_ml, rd_hr, rd_mr, rd_si2, rd_sl1, rd_sl2, rd_sr1, rd_sr2]; exact bF, (eN2 _ _ (by omega)).trans bG⟩, z36, (eN2 _ _ (by omega)).trans bI⟩
  have E02 : ∀ Z, Ex P it n Z m pr cl ff M N m pr cl ff (mv_si M1 53 dp (nI 1)) N2 := fun Z => Ex_tr (s2 Z) (E2 Z) (fun _ _ _ z => z)
  have hx2 := Ex_x (E02 (fun _ _ => False)) hx
  have pr1 := in_seg hW hx.2.1 hx.2.2.1 hx.2.2.2.1 p1
  have pr2 := in_seg hW hx.2.1 hx.2.2.1 hx.2.2.2.1 p2
  have l1 := q4 _ p1.1 (Nat.le_of_lt p1.2.1)
  have l2 := q4 _ p2.1 (Nat.le_of_lt p2.2.1)
  have lc2 := lam_at hW hx.2.1 pr2.1 pr2.2
  have kn : (P 0 x ≠ 304 ∧ P 0 x ≠ 306) ∨ P 1 x < P 7 (x - 1) := by unfold sgK at k3; omega
  have xa := xX_sub hW hs hx2 p1.1 p1.2.1 (fun k k1 k2 => by have := lc2 k (by omega) (by omega); omega) kn
  obtain ⟨Mc, en1, R1⟩ := ih m pr cl ff (st + 1) mx (dp + 1) dd1 (t + 4) kp (tn + 1) (P 1 x) fr _ N2 (by omega) S2 t4 xa (fun c u1 u2 => Ow_k E02 hfr (ho c (by omega) (by have := p1.2.1; omega))) (by omega)
  have wa : fX2_workOut_8 (nI tn) M1 = fX2_workOut_8 (nI (tn + 1)) Mc := W_go (by omega) bB h2 bF (by rw [hg0 M1 dp s1.1 s6 h2, sg_0 hb s1.1.2.2.2 s7 s8 h2 (by omega) y9, en1])
  rw [wa, gN]
  rcases R1 with ⟨M', N', r1, r2, r3⟩ | ⟨M3, N3, m3, pr3, cl3, ff3, st3, dd3, tn3, r1, r2, ⟨r3, r4⟩, r5, r6, r7, ⟨r8, r9⟩, rA, rB, rC⟩
  · exact RO_f2 r1 r2 (E02 (fun _ _ => False)) (gF_tr s3 g2) r3
  rw [r1, r2]
  have E03 := Ex_tr (E02 (zo P m M fr x)) r6 (zo_in (E02 _) l1 (by have := p1.2.1; omega))
  have g03 := gF_tr (gF_tr s3 g2) r7
  obtain ⟨⟨d1, d2, d3, d4, d5, d6⟩, ⟨d7, d8⟩, ⟨d9, dA⟩, ⟨dB, dC⟩, ⟨dD, dE⟩, ⟨dF, dG⟩, dH, dI⟩ := r5.2.2.2
  have f51 : M3.1 51 dp = nI x := (r8 51 dp (by omega) (by omega)).trans (by simp (disch := omega) only [rd_hi, rd_mi, rd_hl, rd_ml, rd_hr, rd_mr, rd_si2, rd_sl1, rd_sl2, rd_sr1, rd_sr2]; exact s6)
  have f52 : M3.1 52 dp = nI fr := (r8 52 dp (by omega) (by omega)).trans (by simp (disch := omega) only [rd_hi, rd_mi, rd_hl, rd_ml, rd_hr, rd_mr, rd_si2, rd_sl1, rd_sl2, rd_sr1, rd_sr2]; exact s7)
  have f53 : M3.1 53 dp = nI 1 := (r8 53 dp (by omega) (by omega)).trans (by simp (disch := omega) only [rd_hi, rd_mi, rd_hl, rd_ml, rd_hr, rd_mr, rd_si2, rd_sl1, rd_sl2, rd_sr1, rd_sr2])
  have mn3 := (r5.1.2.2.1.2.2.2.2.2 _ hx.2.1).2.2.2 x hx.2.2.1 hx.2.2.2.1
  obtain ⟨_, z10, _, _⟩ := mn3.2.2.2.2.2.2.2.2.1 (.inl k3)
  -- the second part
  have u3 : tk3 N3 (t + 3) (nI 4) (nI 0) (nI 0) := tk3_s t3 r9 (by omega)
  have gK := G_go (r_pop4 (t := t + 3) dH (by omega) dG u3 dI (by omega))
  generalize hv1 : N3.1 62 78 = v1 at rA gK
  generalize hN4 : mv_si (mv_si (mv_si N3 62 36 (nI (t + 3))) 105 kp v1) 62 82 (nI (kp + 1)) = N4 at gK
  have eN4 : ∀ a p, ¬ ((a = 62 ∧ (p = 36 ∨ p = 82)) ∨ (a = 105 ∧ p = kp)) → N4.1 a p = N3.1 a p := by
    intro a p u
    rw [← hN4]; simp (disch := omega) only [rd_hi, rd_mi, rd_hl, rd_ml, rd_hr, rd_mr, rd_si2, rd_sl1, rd_sl2, rd_sr1, rd_sr2]
  obtain ⟨S4, E4, g4⟩ := SS_k (M' := mv_si (mv_si M3 53 dp (nI 2)) 54 dp v1) (N' := N4) (st' := st3) (dd' := dd3) (t' := t + 3) (kp' := kp + 1) r5 rfl (fun a p u => by unfold kC at u; simp (disch := omega) only [rd_hi, rd_mi, rd_hl, rd_ml, rd_hr, rd_mr, rd_si2, rd_sl1, rd_sl2, rd_sr1, rd_sr2]) (by rw [← hN4]; rfl) (fun a p u => eN4 a p (by unfold kR' at u; omega)) ⟨⟨d1, d2, d3, d4, by omega, by omega⟩, ⟨by simp (disch := omega) only [rd_hi, rd_mi, rd_hl, rd_ml, rd_hr, rd_mr, rd_si2, rd_sl1, rd_sl2, rd_sr1, rd_sr2]; exact d7, (eN4 _ _ (by omega)).trans d8⟩, ⟨by simp (disch := omega) only [rd_hi, rd_mi, rd_hl, rd_ml, rd_hr, rd_mr, rd_si2, rd_sl1, rd_sl2, rd_sr1, rd_sr2]; exact dB, (eN4 _ _ (by omega)).trans dC⟩, ⟨by simp (disch := omega) only [rd_hi, rd_mi, rd_hl, rd_ml, rd_hr, rd_mr, rd_si2, rd_sl1, rd_sl2, rd_sr1, rd_sr2]; exact dD, (eN4 _ _ (by omega)).trans dE⟩, ⟨by simp (disch := omega) only [rd_hi, rd_mi, rd_hl, rd_ml, rd_hr, rd_mr, rd_si2, rd_sl1, rd_sl2, rd_sr1, rd_sr2]; exact dF, (eN4 _ _ (by omega)).trans dG⟩, by rw [← hN4]; simp (disch := omega) only [rd_hi, rd_mi, rd_hl, rd_ml, rd_hr, rd_mr, rd_si2, rd_sl1, rd_sl2, rd_sr1, rd_sr2], by rw [← hN4]; simp (disch := omega) only [rd_hi, rd_mi, rd_hl, rd_ml, rd_hr, rd_mr, rd_si2, rd_sl1, rd_sl2, rd_sr1, rd_sr2]⟩
  have E34 := E4 (zo P m M fr x)
  have E04 := Ex_tr E03 E34 (fun _ _ _ z => z)
  have hx4 := Ex_x E04 hx
  have kn2 : (P 0 x ≠ 304 ∧ P 0 x ≠ 306) ∨ P 2 x < P 7 (x - 1) := by unfold sgK at k3; omega
  have xb := xX_sub hW hs hx4 p2.1 p2.2.1 (fun k k1 k2 => by omega) kn2
  have u2 : tk3 N4 (t + 2) (nI 1) (nI (P 6 (P 2 x))) (nI fr) := by
    obtain ⟨o1, o2, o3⟩ := tk3_s t2 r9 (show t + 2 < t + 4 by omega)
    exact ⟨(eN4 _ _ (by omega)).trans o1, (eN4 _ _ (by omega)).trans o2, (eN4 _ _ (by omega)).trans o3⟩
  have ho4 : ∀ c, P 7 (P 2 x) ≤ c → c ≤ P 2 x → ¬ Ow P m3 (mv_si (mv_si M3 53 dp (nI 2)) 54 dp v1) fr c := by
    intro c v1 v2
    have hcl3 : fr ≤ cl3 := Nat.le_trans hfr E03.1.2.2
    refine Ow_k E4 hcl3 (fun z => ?_)
    rcases r6.2.2.2.2.2.2 fr c hfr z with y | y | ⟨_, y1, y2⟩
    · exact Ow_k E02 hfr (ho c (by omega) (by omega)) y
    · exact Ow_k E02 hfr (ho c (by omega) (by omega)) y
    · omega
  obtain ⟨Md, en2, R2⟩ := ih m3 pr3 cl3 ff3 st3 mx (dp + 1) dd3 (t + 2) (kp + 1) (tn3 + 1) (P 2 x) fr _ N4 (by omega) S4 u2 xb ho4 (by omega)
  have wb : fX2_workOut_8 (nI tn3) M3 = fX2_workOut_8 (nI (tn3 + 1)) Md := by
    refine W_go (by omega) dB h2 dF ?_
    rw [go_at r5.1 hx.2.1 hx.2.2.1 hx.2.2.2.1 f51 h2]
    unfold sgK at k3
    rw [if_neg (by omega), if_neg (by omega), if_neg (by omega), if_neg (by omega), if_neg (by omega), if_neg (by omega), if_neg (by omega), if_neg (by omega), sg_1 hb r5.1.2.2.2 f52 f53 h2 (by omega) z10, rA, en2]
  rw [wb, gK]
  rcases R2 with ⟨M', N', o1, o2, o3⟩ | ⟨M5, N5, m5, pr5, cl5, ff5, st5, dd5, tn5, o1, o2, ⟨o3, o4⟩, o5, o6, o7, ⟨o8, o9⟩, oA, oB, oC⟩
  · exact RO_f2 o1 o2 E04 (gF_tr g03 g4) o3
  rw [o1, o2]
  have E05 := Ex_tr E04 o6 (zo_in E04 l2 (by have := p2.2.1; omega))
  have g05 := gF_tr (gF_tr g03 g4) o7
  obtain ⟨⟨i1, i2, i3, i4, i5, i6⟩, ⟨i7, i8⟩, ⟨i9, iA⟩, ⟨iB, iC⟩, ⟨iD, iE⟩, ⟨iF, iG⟩, iH, iI⟩ := o5.2.2.2
  have j51 : M5.1 51 dp = nI x := (o8 51 dp (by omega) (by omega)).trans (by simp (disch := omega) only [rd_hi, rd_mi, rd_hl, rd_ml, rd_hr, rd_mr, rd_si2, rd_sl1, rd_sl2, rd_sr1, rd_sr2]; exact f51)
  have j52 : M5.1 52 dp = nI fr := (o8 52 dp (by omega) (by omega)).trans (by simp (disch := omega) only [rd_hi, rd_mi, rd_hl, rd_ml, rd_hr, rd_mr, rd_si2, rd_sl1, rd_sl2, rd_sr1, rd_sr2]; exact f52)
  have j53 : M5.1 53 dp = nI 2 := (o8 53 dp (by omega) (by omega)).trans (by simp (disch := omega) only [rd_hi, rd_mi, rd_hl, rd_ml, rd_hr, rd_mr, rd_si2, rd_sl1, rd_sl2, rd_sr1, rd_sr2])
  have j54 : M5.1 54 dp = v1 := (o8 54 dp (by omega) (by omega)).trans (by simp (disch := omega) only [rd_hi, rd_mi, rd_hl, rd_ml, rd_hr, rd_mr, rd_si2, rd_sl1, rd_sl2, rd_sr1, rd_sr2])
  have j105 : N5.1 105 kp = v1 := (o9.2 kp (by omega)).trans (by rw [← hN4]; simp (disch := omega) only [rd_hi, rd_mi, rd_hl, rd_ml, rd_hr, rd_mr, rd_si2, rd_sl1, rd_sl2, rd_sr1, rd_sr2])
  have mn5 := (o5.1.2.2.1.2.2.2.2.2 _ hx.2.1).2.2.2 x hx.2.2.1 hx.2.2.2.1
  have tA : ∀ {j op a w}, tk3 N2 j op a w → j < t + 2 → tk3 N5 j op a w := by
    intro j op a w z hj
    obtain ⟨z1, z2, z3⟩ := tk3_s z r9 (by omega)
    exact tk3_s ⟨(eN4 _ _ (by omega)).trans z1, (eN4 _ _ (by omega)).trans z2, (eN4 _ _ (by omega)).trans z3⟩ o9 hj
  have gA := G_go (r_pop5 (t := t + 1) (d := kp) iH (by omega) iG k3 (tA t1 (by omega)) iI (by omega))
  rw [j105] at gA
  generalize hv2 : N5.1 62 78 = v2 at oA gA
  generalize hvr : apl (P 0 x) v1 v2 = vr at gA
  generalize hN6 : mv_si (mv_si (mv_si (mv_si N5 62 36 (nI (t + 1))) 62 82 (nI kp)) 62 77 (nI 0)) 62 78 vr = N6 at gA
  have eN6 : ∀ a p, ¬ (a = 62 ∧ (p = 36 ∨ p = 82 ∨ p = 77 ∨ p = 78)) → N6.1 a p = N5.1 a p := by
    intro a p u
    rw [← hN6]; simp (disch := omega) only [rd_hi, rd_mi, rd_hl, rd_ml, rd_hr, rd_mr, rd_si2, rd_sl1, rd_sl2, rd_sr1, rd_sr2]
  obtain ⟨S6, E6, g6⟩ := SS_k (M' := mv_si M5 53 dp (nI 3)) (N' := N6) (st' := st5) (dd' := dd5) (t' := t + 1) (kp' := kp) o5 rfl (fun a p u => by unfold kC at u; simp (disch := omega) only [rd_hi, rd_mi, rd_hl, rd_ml, rd_hr, rd_mr, rd_si2, rd_sl1, rd_sl2, rd_sr1, rd_sr2]) (by rw [← hN6]; rfl) (fun a p u => eN6 a p (by unfold kR' at u; omega)) ⟨⟨i1, i2, i3, i4, by omega, by omega⟩, ⟨by simp (disch := omega) only [rd_hi, rd_mi, rd_hl, rd_ml, rd_hr, rd_mr, rd_si2, rd_sl1, rd_sl2, rd_sr1, rd_sr2]; exact i7, (eN6 _ _ (by omega)).trans i8⟩, ⟨by simp (disch := omega) only [rd_hi, rd_mi, rd_hl, rd_ml, rd_hr, rd_mr, rd_si2, rd_sl1, rd_sl2, rd_sr1, rd_sr2]; exact iB, (eN6 _ _ (by omega)).trans iC⟩, ⟨by simp (disch := omega) only [rd_hi, rd_mi, rd_hl, rd_ml, rd_hr, rd_mr, rd_si2, rd_sl1, rd_sl2, rd_sr1, rd_sr2]; exact iD, (eN6 _ _ (by omega)).trans iE⟩, ⟨by simp (disch := omega) only [rd_hi, rd_mi, rd_hl, rd_ml, rd_hr, rd_mr, rd_si2, rd_sl1, rd_sl2, rd_sr1, rd_sr2]; exact iF, (eN6 _ _ (by omega)).trans iG⟩, by rw [← hN6]; simp (disch := omega) only [rd_hi, rd_mi, rd_hl, rd_ml, rd_hr, rd_mr, rd_si2, rd_sl1, rd_sl2, rd_sr1, rd_sr2], by rw [← hN6]; simp (disch := omega) only [rd_hi, rd_mi, rd_hl, rd_ml, rd_hr, rd_mr, rd_si2, rd_sl1, rd_sl2, rd_sr1, rd_sr2]⟩
  have w3 : fX2_goOn (nI dp) M5 = some ((), mv_si (mv_si (mv_si M5 53 dp (nI 3)) 7 9 vr) 7 8 (nI dp)) := by
    rw [go_at o5.1 hx.2.1 hx.2.2.1 hx.2.2.2.1 j51 h2]
    have k3' := k3
    unfold sgK at k3'
    rw [if_neg (by omega), if_neg (by omega), if_neg (by omega), if_neg (by omega), if_neg (by omega), if_neg (by omega), if_neg (by omega), if_neg (by omega), sg_2 hb o5.1.2.2.2 j52 j53 h2 (by omega) k3 mn5.1, j54, oA, hvr]
    exact c_leave (by simp (disch := omega) only [rd_hi, rd_mi, rd_hl, rd_ml, rd_hr, rd_mr, rd_si2, rd_sl1, rd_sl2, rd_sr1, rd_sr2]; exact iB)
  obtain ⟨n1, n2, n3⟩ := tA t0 (show t < t + 2 by omega)
  refine RO_done (v := vr) (tn' := tn5 + 1) S6 ⟨(eN6 _ _ (by omega)).trans n1, (eN6 _ _ (by omega)).trans n2, (eN6 _ _ (by omega)).trans n3⟩ (Ex_tr E05 (E6 (zo P m M fr x)) (fun _ _ _ z => z)) (gF_tr g05 g6) (fun a i z hi => ?_) ⟨fun a i z hi => ?_, fun i hi => ?_⟩ (by rw [← hN6]; simp (disch := omega) only [rd_hi, rd_mi, rd_hl, rd_ml, rd_hr, rd_mr, rd_si2, rd_sl1, rd_sl2, rd_sr1, rd_sr2]) (by rw [← hN6]; simp (disch := omega) only [rd_hi, rd_mi, rd_hl, rd_ml, rd_hr, rd_mr, rd_si2, rd_sl1, rd_sl2, rd_sr1, rd_sr2]; rw [p5]; rfl) (.inl p5) (by omega) (by omega) (by omega) (by omega) (W_go (by omega) iB h2 iF w3) gA
  · simp (disch := omega) only [rd_hi, rd_mi, rd_hl, rd_ml, rd_hr, rd_mr, rd_si2, rd_sl1, rd_sl2, rd_sr1, rd_sr2]
    rw [o8 a i z (by omega)]
    simp (disch := omega) only [rd_hi, rd_mi, rd_hl, rd_ml, rd_hr, rd_mr, rd_si2, rd_sl1, rd_sl2, rd_sr1, rd_sr2]
    rw [r8 a i z (by omega)]
    simp (disch := omega) only [rd_hi, rd_mi, rd_hl, rd_ml, rd_hr, rd_mr, rd_si2, rd_sl1, rd_sl2, rd_sr1, rd_sr2]
    exact s4 a i z hi
  · rw [eN6 _ _ (by omega), o9.1 a i z (by omega), eN4 _ _ (by omega), r9.1 a i z (by omega), eN2 _ _ (by omega)]
    exact s5.1 a i z hi
  · rw [eN6 _ _ (by omega), o9.2 i (by omega), eN4 _ _ (by omega), r9.2 i (by omega), eN2 _ _ (by omega)]
    exact s5.2 i hi
end RY
