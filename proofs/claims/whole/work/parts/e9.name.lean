/-! RUNS: names; a thing is needed -/
section RD1
variable {b h F ND n m pr cl m' pr' cl' m2 pr2 cl2 k t t' fr x st st' mx dp dd dd' kp kp' d tn tn' e i ty y y1 y2 f c c1 c2 c3 s nm p : Nat} {P : Nat → Nat → Nat} {it ff ff' ff2 : Nat → Nat} {M N M' N' M1 N1 M2 N2 M3 N3 : mv_M} {Z Z' : Nat → Nat → Prop} {v op a w r : Int32} {Wt Gt : Option (Unit × mv_M)}
theorem iw_d (hk : k < 1540) (hs : M.1 57 k = nI 2) : fX2_isToBeWorked (nI k) M = some (0, mv_si (mv_si M 59 k (nI 1)) 7 9 (M.1 58 k)) := by
  have v1 : vp_nar .boolean (nI 1) = nI 1 := vp1
  have ch : ∀ X, fX7_has (nI k) X = some (1, X) := fun X => c_has hk
  unfold fX2_isToBeWorked
  simp (disch := omega) only [↓reduceIte, ch, hs, v1, k_iT, k_iF, Bool.false_eq_true, eq_self, Nat.add_zero, k_lt', k_bs, k_T, k_F, k_inb, k_ck, k_nz, ↓kN, kL, k_lt, k_le, k_eq, kn_le, kn_lt, kn_eq, kn_le', kn_lt', kn_eq', nI_clamp, nI_add, k_sub, k_mul, k_div, rd_hi, rd_mi, rd_hl, rd_ml, rd_hr, rd_mr, rd_si2, rd_sl1, rd_sl2, rd_sr1, rd_sr2]
theorem iw_w (hk : k < 1500) (hs : M.1 57 k = nI 0) : fX2_isToBeWorked (nI k) M = some (1, mv_si (mv_si M 59 k (nI 1)) 57 k (nI 1)) := by
  have v1 : vp_nar .boolean (nI 1) = nI 1 := vp1
  have ch : ∀ X, fX7_has (nI k) X = some (1, X) := fun X => c_has (by omega)
  unfold fX2_isToBeWorked
  simp (disch := omega) only [↓reduceIte, ch, hs, v1, k_iT, k_iF, Bool.false_eq_true, eq_self, Nat.add_zero, k_lt', k_bs, k_T, k_F, k_inb, k_ck, k_nz, ↓kN, kL, k_lt, k_le, k_eq, kn_le, kn_lt, kn_eq, kn_le', kn_lt', kn_eq', nI_clamp, nI_add, k_sub, k_mul, k_div, rd_hi, rd_mi, rd_hl, rd_ml, rd_hr, rd_mr, rd_si2, rd_sl1, rd_sl2, rd_sr1, rd_sr2]
theorem iw_u (hk : k < 1540) (hs : M.1 57 k = nI s) (h1 : s = 1 ∨ s = 3) : fX2_isToBeWorked (nI k) M = some (0, mv_si (mv_si M 59 k (nI 1)) 7 2 (nI 2)) := by
  have v1 : vp_nar .boolean (nI 1) = nI 1 := vp1
  have ch : ∀ X, fX7_has (nI k) X = some (1, X) := fun X => c_has hk
  unfold fX2_isToBeWorked fX2_isToBeWorked_75
  rcases h1 with rfl | rfl
  · simp (disch := omega) only [↓reduceIte, ch, hs, v1, k_iT, k_iF, Bool.false_eq_true, eq_self, Nat.add_zero, k_lt', k_bs, k_T, k_F, k_inb, k_ck, k_nz, ↓kN, kL, k_lt, k_le, k_eq, kn_le, kn_lt, kn_eq, kn_le', kn_lt', kn_eq', nI_clamp, nI_add, k_sub, k_mul, k_div, rd_hi, rd_mi, rd_hl, rd_ml, rd_hr, rd_mr, rd_si2, rd_sl1, rd_sl2, rd_sr1, rd_sr2]
  · simp (disch := omega) only [↓reduceIte, ch, hs, v1, k_iT, k_iF, Bool.false_eq_true, eq_self, Nat.add_zero, k_lt', k_bs, k_T, k_F, k_inb, k_ck, k_nz, ↓kN, kL, k_lt, k_le, k_eq, kn_le, kn_lt, kn_eq, kn_le', kn_lt', kn_eq', nI_clamp, nI_add, k_sub, k_mul, k_div, rd_hi, rd_mi, rd_hl, rd_ml, rd_hr, rd_mr, rd_si2, rd_sl1, rd_sl2, rd_sr1, rd_sr2]
theorem rn_d (hy : y < 1540) (hs : N.1 97 y = nI 2) : fX11_need (nI y) N = some ((), mv_si (mv_si (mv_si N 100 y (nI 1)) 62 77 (N.1 98 y)) 62 78 (N.1 99 y)) := by
  have v1 : vp_nar .boolean (nI 1) = nI 1 := vp1
  unfold fX11_need fX11_gives
  simp (disch := omega) only [↓reduceIte, hs, v1, k_iT, k_iF, Bool.false_eq_true, eq_self, Nat.add_zero, k_lt', k_bs, k_T, k_F, k_inb, k_ck, k_nz, ↓kN, kL, k_lt, k_le, k_eq, kn_le, kn_lt, kn_eq, kn_le', kn_lt', kn_eq', nI_clamp, nI_add, k_sub, k_mul, k_div, rd_hi, rd_mi, rd_hl, rd_ml, rd_hr, rd_mr, rd_si2, rd_sl1, rd_sl2, rd_sr1, rd_sr2]
theorem rn_w (hy : y < 1540) (hs : N.1 97 y = nI 0) (h36 : N.1 62 36 = nI t) (ht : t < 2900) : fX11_need (nI y) N = some ((), pT (pT (mv_si (mv_si N 100 y (nI 1)) 97 y (nI 1)) t (nI 3) (nI y) (nI 0)) (t + 1) (nI 1) (N.1 95 y) (N.1 96 y)) := by
  have v1 : vp_nar .boolean (nI 1) = nI 1 := vp1
  have q : ∀ a w, fX11_task (nI 3) a w (mv_si (mv_si N 100 y (nI 1)) 97 y (nI 1)) = some ((), pT (mv_si (mv_si N 100 y (nI 1)) 97 y (nI 1)) t (nI 3) a w) := fun a w => r_task (by simp (disch := omega) only [rd_hi, rd_mi, rd_hl, rd_ml, rd_hr, rd_mr, rd_si2, rd_sl1, rd_sl2, rd_sr1, rd_sr2]; exact h36) (by omega)
  unfold fX11_need
  simp (disch := omega) only [↓reduceIte, hs, v1, q, k_iT, k_iF, Bool.false_eq_true, eq_self, Nat.add_zero, k_lt', k_bs, k_T, k_F, k_inb, k_ck, k_nz, ↓kN, kL, k_lt, k_le, k_eq, kn_le, kn_lt, kn_eq, kn_le', kn_lt', kn_eq', nI_clamp, nI_add, k_sub, k_mul, k_div, rd_hi, rd_mi, rd_hl, rd_ml, rd_hr, rd_mr, rd_si2, rd_sl1, rd_sl2, rd_sr1, rd_sr2]
  rw [r_task (t := t + 1) pT_36 (by omega), k_bs, pT_s (by omega), pT_s (by omega)]
  simp (disch := omega) only [rd_hi, rd_mi, rd_hl, rd_ml, rd_hr, rd_mr, rd_si2, rd_sl1, rd_sl2, rd_sr1, rd_sr2]
theorem rn_u (hy : y < 1540) (hs : N.1 97 y = nI s) (h1 : s = 1 ∨ s = 3) : fX11_need (nI y) N = some ((), mv_si (mv_si N 100 y (nI 1)) 62 74 (nI 2)) := by
  have v1 : vp_nar .boolean (nI 1) = nI 1 := vp1
  unfold fX11_need
  rcases h1 with rfl | rfl
  · simp (disch := omega) only [↓reduceIte, hs, v1, k_iT, k_iF, Bool.false_eq_true, eq_self, Nat.add_zero, k_lt', k_bs, k_T, k_F, k_inb, k_ck, k_nz, ↓kN, kL, k_lt, k_le, k_eq, kn_le, kn_lt, kn_eq, kn_le', kn_lt', kn_eq', nI_clamp, nI_add, k_sub, k_mul, k_div, rd_hi, rd_mi, rd_hl, rd_ml, rd_hr, rd_mr, rd_si2, rd_sl1, rd_sl2, rd_sr1, rd_sr2]
  · simp (disch := omega) only [↓reduceIte, hs, v1, k_iT, k_iF, Bool.false_eq_true, eq_self, Nat.add_zero, k_lt', k_bs, k_T, k_F, k_inb, k_ck, k_nz, ↓kN, kL, k_lt, k_le, k_eq, kn_le, kn_lt, kn_eq, kn_le', kn_lt', kn_eq', nI_clamp, nI_add, k_sub, k_mul, k_div, rd_hi, rd_mi, rd_hl, rd_ml, rd_hr, rd_mr, rd_si2, rd_sl1, rd_sl2, rd_sr1, rd_sr2]
theorem wk_7 (h71 : N.1 71 x = nI 7) (hx : x < 2002) (e72 : N.1 72 x = nI nm) (hf : fr ≤ 1500) (hn : nm < 16) (e103 : N.1 103 (16 * fr + nm) = nI y) : wkR (nI x) (nI fr) N = fX11_need (nI y) N := by
  unfold wkR
  simp (disch := omega) only [↓reduceIte, h71, e72, e103, bind_id, k_iT, k_iF, Bool.false_eq_true, eq_self, Nat.add_zero, k_lt', k_bs, k_T, k_F, k_inb, k_ck, k_nz, ↓kN, kL, k_lt, k_le, k_eq, kn_le, kn_lt, kn_eq, kn_le', kn_lt', kn_eq', nI_clamp, nI_add, k_sub, k_mul, k_div, rd_hi, rd_mi, rd_hl, rd_ml, rd_hr, rd_mr, rd_si2, rd_sl1, rd_sl2, rd_sr1, rd_sr2]
theorem nm_0 (hb : b = 9 ∨ b = 24) (h76 : M.2.2 7 6 = some b) (e52 : M.1 52 d = nI fr) (e53 : M.1 53 d = nI 0) (hd : d < 150) (hx : x < 1000) (e9 : M.1 (b + 9) x = nI nm) (hf : fr ≤ 1500) (hn : nm < 16) (e50 : M.1 50 (16 * fr + nm) = nI k) (hk : k < 1540) : fX2_goOnName (nI x) (nI d) M = mv_bind (fX2_isToBeWorked (nI k) (mv_si M 53 d (nI 1))) fun r8 M9 => if r8 = 0 then (if (M9.1 7 2) = 0 then fX2_leave (M9.1 7 9) M9 else some ((), M9)) else mv_chk (mv_inb (nI k) 1500) <| mv_chk (mv_inb (nI k) 1500) <| fX2_enter (M9.1 55 k) (M9.1 56 k) M9 := by
  have gp : ∀ {γ : Type} (K : Nat → Option γ), mv_getp (some b) K = K b := fun K => gp_b hb
  have ct : ∀ X, fX2_thingOf (nI fr) (nI nm) X = some (X.1 50 (16 * fr + nm), X) := fun X => c_thingOf hf hn
  unfold fX2_goOnName fX2_nextPhase
  simp (disch := omega) only [↓reduceIte, e52, e53, h76, gp, e9, ct, e50, bind_id, Nat.zero_add, k_iT, k_iF, Bool.false_eq_true, eq_self, Nat.add_zero, k_lt', k_bs, k_T, k_F, k_inb, k_ck, k_nz, ↓kN, kL, k_lt, k_le, k_eq, kn_le, kn_lt, kn_eq, kn_le', kn_lt', kn_eq', nI_clamp, nI_add, k_sub, k_mul, k_div, rd_hi, rd_mi, rd_hl, rd_ml, rd_hr, rd_mr, rd_si2, rd_sl1, rd_sl2, rd_sr1, rd_sr2]
  rfl
theorem nm_1 (hb : b = 9 ∨ b = 24) (h76 : M.2.2 7 6 = some b) (e52 : M.1 52 d = nI fr) (e53 : M.1 53 d = nI 1) (hd : d < 150) (hx : x < 1000) (e9 : M.1 (b + 9) x = nI nm) (hf : fr ≤ 1500) (hn : nm < 16) (e50 : M.1 50 (16 * fr + nm) = nI k) (hk : k < 1540) (e2 : M.1 7 2 = nI 0) : fX2_goOnName (nI x) (nI d) M = fX2_leave (M.1 7 9) (mv_si (mv_si (mv_si M 53 d (nI 2)) 57 k (nI 2)) 58 k (M.1 7 9)) := by
  have gp : ∀ {γ : Type} (K : Nat → Option γ), mv_getp (some b) K = K b := fun K => gp_b hb
  have ct : ∀ X, fX2_thingOf (nI fr) (nI nm) X = some (X.1 50 (16 * fr + nm), X) := fun X => c_thingOf hf hn
  have ch : ∀ X, fX7_has (nI k) X = some (1, X) := fun X => c_has hk
  unfold fX2_goOnName fX2_nextPhase fX2_settle
  simp (disch := omega) only [↓reduceIte, e52, e53, h76, gp, e9, ct, e50, ch, e2, bind_id, k_iT, k_iF, Bool.false_eq_true, eq_self, Nat.add_zero, k_lt', k_bs, k_T, k_F, k_inb, k_ck, k_nz, ↓kN, kL, k_lt, k_le, k_eq, kn_le, kn_lt, kn_eq, kn_le', kn_lt', kn_eq', nI_clamp, nI_add, k_sub, k_mul, k_div, rd_hi, rd_mi, rd_hl, rd_ml, rd_hr, rd_mr, rd_si2, rd_sl1, rd_sl2, rd_sr1, rd_sr2]
theorem go_name (hP : Pg b h P F ND M N) (hf : f < F) (h1 : P 15 f ≤ x) (h2 : x ≤ P 12 f) (e51 : M.1 51 d = nI x) (hd : d < 150) (hk : P 0 x = 2) : fX2_goOn (nI d) M = fX2_goOnName (nI x) (nI d) M := by
  rw [go_at hP hf h1 h2 e51 hd, if_pos hk]
/-- the same counters and control -/
theorem SS_m (hS : SS b h P F ND it n m pr cl ff st mx dp dd t kp M N) (g : gF M N M' N') (hC : Cr P F it n m pr cl ff M' N') (e7 : ∀ p, p ≠ 9 → M'.1 7 p = M.1 7 p) (e8 : ∀ p, M'.1 8 p = M.1 8 p) (eN : ∀ p, p ≠ 77 → p ≠ 78 → N'.1 62 p = N.1 62 p) : SS b h P F ND it n m pr cl ff st mx dp dd t kp M' N' := by
  obtain ⟨⟨m1, m2⟩, ⟨m3, m4⟩, m5, m6⟩ := hS.2.2.1
  obtain ⟨c1, ⟨c7, c8⟩, ⟨c9, cA⟩, ⟨cB, cC⟩, ⟨cD, cE⟩, ⟨cF, cG⟩, cH, cI⟩ := hS.2.2.2
  exact ⟨Pg_F hS.1 g, hC, ⟨⟨(e8 _).trans m1, (eN _ (by omega) (by omega)).trans m2⟩, ⟨(e8 _).trans m3, (eN _ (by omega) (by omega)).trans m4⟩, (e7 _ (by omega)).trans m5, (eN _ (by omega) (by omega)).trans m6⟩, c1, ⟨(e7 _ (by omega)).trans c7, (eN _ (by omega) (by omega)).trans c8⟩, ⟨(e7 _ (by omega)).trans c9, (eN _ (by omega) (by omega)).trans cA⟩, ⟨(e7 _ (by omega)).trans cB, (eN _ (by omega) (by omega)).trans cC⟩, ⟨(e7 _ (by omega)).trans cD, (eN _ (by omega) (by omega)).trans cE⟩, ⟨(e7 _ (by omega)).trans cF, (eN _ (by omega) (by omega)).trans cG⟩, (eN _ (by omega) (by omega)).trans cH, (eN _ (by omega) (by omega)).trans cI⟩
theorem SS_mark (hS : SS b h P F ND it n m pr cl ff st mx dp dd t kp M N) (ho : oT P it n m M k ty) : SS b h P F ND it n m pr cl ff st mx dp dd t kp (mv_si M 59 k (nI 1)) (mv_si N 100 (fi k) (nI 1)) ∧ (∀ Z, Ex P it n Z m pr cl ff M N m pr cl ff (mv_si M 59 k (nI 1)) (mv_si N 100 (fi k) (nI 1))) ∧ gF M N (mv_si M 59 k (nI 1)) (mv_si N 100 (fi k) (nI 1)) := by
  have g : gF M N (mv_si M 59 k (nI 1)) (mv_si N 100 (fi k) (nI 1)) := ⟨⟨rfl, fun a p u => by unfold cAr at u; simp (disch := omega) only [rd_hi, rd_mi, rd_hl, rd_ml, rd_hr, rd_mr, rd_si2, rd_sl1, rd_sl2, rd_sr1, rd_sr2]⟩, rfl, fun a p u => by unfold rAr at u; simp (disch := omega) only [rd_hi, rd_mi, rd_hl, rd_ml, rd_hr, rd_mr, rd_si2, rd_sl1, rd_sl2, rd_sr1, rd_sr2]⟩
  have key := fun Z => Cr_up (Z := Z) (M' := mv_si M 59 k (nI 1)) (N' := mv_si N 100 (fi k) (nI 1)) hS.2.1 ho (fun a p u1 u2 => by simp (disch := omega) only [rd_hi, rd_mi, rd_hl, rd_ml, rd_hr, rd_mr, rd_si2, rd_sl1, rd_sl2, rd_sr1, rd_sr2]) (fun a p u1 u2 => by simp (disch := omega) only [rd_hi, rd_mi, rd_hl, rd_ml, rd_hr, rd_mr, rd_si2, rd_sl1, rd_sl2, rd_sr1, rd_sr2]) (by
    obtain ⟨s, a1, a2, a3, a4, a5, a6⟩ := hS.2.1.2.2.1 k ty ho
    refine ⟨s, by simp (disch := omega) only [rd_hi, rd_mi, rd_hl, rd_ml, rd_hr, rd_mr, rd_si2, rd_sl1, rd_sl2, rd_sr1, rd_sr2]; exact a1, by simp (disch := omega) only [rd_hi, rd_mi, rd_hl, rd_ml, rd_hr, rd_mr, rd_si2, rd_sl1, rd_sl2, rd_sr1, rd_sr2]; exact a2, a3, a4, by simp (disch := omega) only [rd_hi, rd_mi, rd_hl, rd_ml, rd_hr, rd_mr, rd_si2, rd_sl1, rd_sl2, rd_sr1, rd_sr2], fun z => ?_⟩
    obtain ⟨e1, e2, e3⟩ := a6 z
    refine ⟨by simp (disch := omega) only [rd_hi, rd_mi, rd_hl, rd_ml, rd_hr, rd_mr, rd_si2, rd_sl1, rd_sl2, rd_sr1, rd_sr2]; exact e1, by simp (disch := omega) only [rd_hi, rd_mi, rd_hl, rd_ml, rd_hr, rd_mr, rd_si2, rd_sl1, rd_sl2, rd_sr1, rd_sr2]; exact e2, ?_⟩
    rw [rd_mi (by omega)]
    exact vV_m (Nat.le_refl _) (Nat.le_refl _) (fun _ _ => by simp (disch := omega) only [rd_hi, rd_mi, rd_hl, rd_ml, rd_hr, rd_mr, rd_si2, rd_sl1, rd_sl2, rd_sr1, rd_sr2]) (fun _ _ => ⟨by simp (disch := omega) only [rd_hi, rd_mi, rd_hl, rd_ml, rd_hr, rd_mr, rd_si2, rd_sl1, rd_sl2, rd_sr1, rd_sr2], by simp (disch := omega) only [rd_hi, rd_mi, rd_hl, rd_ml, rd_hr, rd_mr, rd_si2, rd_sl1, rd_sl2, rd_sr1, rd_sr2], by simp (disch := omega) only [rd_hi, rd_mi, rd_hl, rd_ml, rd_hr, rd_mr, rd_si2, rd_sl1, rd_sl2, rd_sr1, rd_sr2], by simp (disch := omega) only [rd_hi, rd_mi, rd_hl, rd_ml, rd_hr, rd_mr, rd_si2, rd_sl1, rd_sl2, rd_sr1, rd_sr2]⟩) e3) (fun z => by rw [rd_mi (by omega)] at z; exact z)
  exact ⟨SS_m hS g (key (fun _ _ => False)).1 (fun p _ => by simp (disch := omega) only [rd_hi, rd_mi, rd_hl, rd_ml, rd_hr, rd_mr, rd_si2, rd_sl1, rd_sl2, rd_sr1, rd_sr2]) (fun p => by simp (disch := omega) only [rd_hi, rd_mi, rd_hl, rd_ml, rd_hr, rd_mr, rd_si2, rd_sl1, rd_sl2, rd_sr1, rd_sr2]) (fun p _ _ => by simp (disch := omega) only [rd_hi, rd_mi, rd_hl, rd_ml, rd_hr, rd_mr, rd_si2, rd_sl1, rd_sl2, rd_sr1, rd_sr2]), fun Z => (key Z).2, g⟩
theorem SS_wk (hS : SS b h P F ND it n m pr cl ff st mx dp dd t kp M N) (ho : oT P it n m M k ty) (hkm : k < m) (h57 : M.1 57 k = nI 0) : SS b h P F ND it n m pr cl ff st mx dp dd t kp (mv_si M 57 k (nI 1)) (mv_si N 97 (fi k) (nI 1)) ∧ (∀ Z, Ex P it n Z m pr cl ff M N m pr cl ff (mv_si M 57 k (nI 1)) (mv_si N 97 (fi k) (nI 1))) ∧ gF M N (mv_si M 57 k (nI 1)) (mv_si N 97 (fi k) (nI 1)) ∧ ∀ x fr, M.1 55 k = nI x → x < 1000 → M.1 56 k = nI fr → P 7 x ≤ x → ∀ c, P 7 x ≤ c → c ≤ x → ¬ Ow P m (mv_si M 57 k (nI 1)) fr c := by
  have g : gF M N (mv_si M 57 k (nI 1)) (mv_si N 97 (fi k) (nI 1)) := ⟨⟨rfl, fun a p u => by unfold cAr at u; simp (disch := omega) only [rd_hi, rd_mi, rd_hl, rd_ml, rd_hr, rd_mr, rd_si2, rd_sl1, rd_sl2, rd_sr1, rd_sr2]⟩, rfl, fun a p u => by unfold rAr at u; simp (disch := omega) only [rd_hi, rd_mi, rd_hl, rd_ml, rd_hr, rd_mr, rd_si2, rd_sl1, rd_sl2, rd_sr1, rd_sr2]⟩
  have key := fun Z => Cr_up (Z := Z) (M' := mv_si M 57 k (nI 1)) (N' := mv_si N 97 (fi k) (nI 1)) hS.2.1 ho (fun a p u1 u2 => by simp (disch := omega) only [rd_hi, rd_mi, rd_hl, rd_ml, rd_hr, rd_mr, rd_si2, rd_sl1, rd_sl2, rd_sr1, rd_sr2]) (fun a p u1 u2 => by simp (disch := omega) only [rd_hi, rd_mi, rd_hl, rd_ml, rd_hr, rd_mr, rd_si2, rd_sl1, rd_sl2, rd_sr1, rd_sr2]) (by
    obtain ⟨s, a1, a2, a3, a4, a5, a6⟩ := hS.2.1.2.2.1 k ty ho
    refine ⟨1, by simp (disch := omega) only [rd_hi, rd_mi, rd_hl, rd_ml, rd_hr, rd_mr, rd_si2, rd_sl1, rd_sl2, rd_sr1, rd_sr2], by simp (disch := omega) only [rd_hi, rd_mi, rd_hl, rd_ml, rd_hr, rd_mr, rd_si2, rd_sl1, rd_sl2, rd_sr1, rd_sr2], by omega, fun _ => hkm, by simp (disch := omega) only [rd_hi, rd_mi, rd_hl, rd_ml, rd_hr, rd_mr, rd_si2, rd_sl1, rd_sl2, rd_sr1, rd_sr2]; exact a5, fun z => by omega⟩) (fun z => h57)
  refine ⟨SS_m hS g (key (fun _ _ => False)).1 (fun p _ => by simp (disch := omega) only [rd_hi, rd_mi, rd_hl, rd_ml, rd_hr, rd_mr, rd_si2, rd_sl1, rd_sl2, rd_sr1, rd_sr2]) (fun p => by simp (disch := omega) only [rd_hi, rd_mi, rd_hl, rd_ml, rd_hr, rd_mr, rd_si2, rd_sl1, rd_sl2, rd_sr1, rd_sr2]) (fun p _ _ => by simp (disch := omega) only [rd_hi, rd_mi, rd_hl, rd_ml, rd_hr, rd_mr, rd_si2, rd_sl1, rd_sl2, rd_sr1, rd_sr2]), fun Z => (key Z).2, g, ?_⟩
  intro x fr e55 hx e56 h7 c c1 c2 hO
  obtain ⟨j, y, o1, o2, o3, o4, o5, o6, o7⟩ := hO
  by_cases ej : j = k
  · subst ej
    rw [rd_hi ⟨rfl, rfl⟩, k_eq (by omega) (by omega)] at o2
    omega
  · rw [rd_mi (by omega)] at o2 o3 o5
    have := hS.2.1.2.2.2 j k y x fr o1 hkm ej o2 h57 o3 e55 o4 hx o5 e56
    omega
theorem SS_set (hS : SS b h P F ND it n m pr cl ff st mx dp dd t kp M N) (ho : oT P it n m M k ty) (hv : vV P it n m pr M N v ty) : SS b h P F ND it n m pr cl ff st mx dp dd t kp (mv_si (mv_si M 57 k (nI 2)) 58 k v) (mv_si (mv_si (mv_si N 97 (fi k) (nI 2)) 98 (fi k) (nI (kD ty))) 99 (fi k) v) ∧ (∀ Z, Ex P it n Z m pr cl ff M N m pr cl ff (mv_si (mv_si M 57 k (nI 2)) 58 k v) (mv_si (mv_si (mv_si N 97 (fi k) (nI 2)) 98 (fi k) (nI (kD ty))) 99 (fi k) v)) ∧ gF M N (mv_si (mv_si M 57 k (nI 2)) 58 k v) (mv_si (mv_si (mv_si N 97 (fi k) (nI 2)) 98 (fi k) (nI (kD ty))) 99 (fi k) v) := by
  have g : gF M N (mv_si (mv_si M 57 k (nI 2)) 58 k v) (mv_si (mv_si (mv_si N 97 (fi k) (nI 2)) 98 (fi k) (nI (kD ty))) 99 (fi k) v) := ⟨⟨rfl, fun a p u => by unfold cAr at u; simp (disch := omega) only [rd_hi, rd_mi, rd_hl, rd_ml, rd_hr, rd_mr, rd_si2, rd_sl1, rd_sl2, rd_sr1, rd_sr2]⟩, rfl, fun a p u => by unfold rAr at u; simp (disch := omega) only [rd_hi, rd_mi, rd_hl, rd_ml, rd_hr, rd_mr, rd_si2, rd_sl1, rd_sl2, rd_sr1, rd_sr2]⟩
  have key := fun Z => Cr_up (Z := Z) (M' := mv_si (mv_si M 57 k (nI 2)) 58 k v) (N' := mv_si (mv_si (mv_si N 97 (fi k) (nI 2)) 98 (fi k) (nI (kD ty))) 99 (fi k) v) hS.2.1 ho (fun a p u1 u2 => by simp (disch := omega) only [rd_hi, rd_mi, rd_hl, rd_ml, rd_hr, rd_mr, rd_si2, rd_sl1, rd_sl2, rd_sr1, rd_sr2]) (fun a p u1 u2 => by simp (disch := omega) only [rd_hi, rd_mi, rd_hl, rd_ml, rd_hr, rd_mr, rd_si2, rd_sl1, rd_sl2, rd_sr1, rd_sr2]) (by
    obtain ⟨s, a1, a2, a3, a4, a5, a6⟩ := hS.2.1.2.2.1 k ty ho
    refine ⟨2, by simp (disch := omega) only [rd_hi, rd_mi, rd_hl, rd_ml, rd_hr, rd_mr, rd_si2, rd_sl1, rd_sl2, rd_sr1, rd_sr2], by simp (disch := omega) only [rd_hi, rd_mi, rd_hl, rd_ml, rd_hr, rd_mr, rd_si2, rd_sl1, rd_sl2, rd_sr1, rd_sr2], by omega, fun z => by omega, by simp (disch := omega) only [rd_hi, rd_mi, rd_hl, rd_ml, rd_hr, rd_mr, rd_si2, rd_sl1, rd_sl2, rd_sr1, rd_sr2]; exact a5, fun z => ⟨by simp (disch := omega) only [rd_hi, rd_mi, rd_hl, rd_ml, rd_hr, rd_mr, rd_si2, rd_sl1, rd_sl2, rd_sr1, rd_sr2], by simp (disch := omega) only [rd_hi, rd_mi, rd_hl, rd_ml, rd_hr, rd_mr, rd_si2, rd_sl1, rd_sl2, rd_sr1, rd_sr2], ?_⟩⟩
    rw [rd_hi ⟨rfl, rfl⟩]
    exact vV_m (Nat.le_refl _) (Nat.le_refl _) (fun _ _ => by simp (disch := omega) only [rd_hi, rd_mi, rd_hl, rd_ml, rd_hr, rd_mr, rd_si2, rd_sl1, rd_sl2, rd_sr1, rd_sr2]) (fun _ _ => ⟨by simp (disch := omega) only [rd_hi, rd_mi, rd_hl, rd_ml, rd_hr, rd_mr, rd_si2, rd_sl1, rd_sl2, rd_sr1, rd_sr2], by simp (disch := omega) only [rd_hi, rd_mi, rd_hl, rd_ml, rd_hr, rd_mr, rd_si2, rd_sl1, rd_sl2, rd_sr1, rd_sr2], by simp (disch := omega) only [rd_hi, rd_mi, rd_hl, rd_ml, rd_hr, rd_mr, rd_si2, rd_sl1, rd_sl2, rd_sr1, rd_sr2], by simp (disch := omega) only [rd_hi, rd_mi, rd_hl, rd_ml, rd_hr, rd_mr, rd_si2, rd_sl1, rd_sl2, rd_sr1, rd_sr2]⟩) hv) (fun z => by rw [rd_mi (by omega), rd_hi ⟨rfl, rfl⟩, k_eq (by omega) (by omega)] at z; omega)
  exact ⟨SS_m hS g (key (fun _ _ => False)).1 (fun p _ => by simp (disch := omega) only [rd_hi, rd_mi, rd_hl, rd_ml, rd_hr, rd_mr, rd_si2, rd_sl1, rd_sl2, rd_sr1, rd_sr2]) (fun p => by simp (disch := omega) only [rd_hi, rd_mi, rd_hl, rd_ml, rd_hr, rd_mr, rd_si2, rd_sl1, rd_sl2, rd_sr1, rd_sr2]) (fun p _ _ => by simp (disch := omega) only [rd_hi, rd_mi, rd_hl, rd_ml, rd_hr, rd_mr, rd_si2, rd_sl1, rd_sl2, rd_sr1, rd_sr2]), fun Z => (key Z).2, g⟩
/-- a name's binder is no more waited for -/
theorem Ow_up (hW : WFp P F ND) (hC : Cr P F it n m pr cl ff M N) (hf : fr ≤ cl) (ho : ¬ Ow P m M fr x) (hs : pS P (ff fr) x nm) (hp : P 9 (ff fr) ≤ nm) : ¬ Ow P m M fr (P 14 (16 * ff fr + nm)) := by
  intro z
  obtain ⟨j, y, o1, o2, o3, o4, o5, o6, o7⟩ := z
  rcases hs with w | ⟨w1, w2, w3, w4, w5⟩
  · omega
  obtain ⟨y', f', a1, a2, a3, a4, a5, a6⟩ := hC.2.1 j o1
  have hcl := hC.1
  rw [o3, k_eq (by omega) (by omega)] at a1
  subst a1
  have hf' := a6.1
  rw [o5, k_eq (by omega) (by omega)] at a3
  subst a3
  have l := lam_at hW a6.2.1 a6.2.2.1 a6.2.2.2.1 _ o6 o7
  exact ho ⟨j, y, o1, o2, o3, o4, o5, by omega, by omega⟩
theorem ev_name (ih : EV b h P F ND it n k) (hkk : mx - st ≤ k + 1) (hS : SS b h P F ND it n m pr cl ff st mx dp dd (t + 1) kp M N) (hk : tk3 N t (nI 1) (nI (P 6 x)) (nI fr)) (hx : xX P F it n m cl ff M N x fr) (ho : ∀ c, P 7 x ≤ c → c ≤ x → ¬ Ow P m M fr c) (h1 : st < mx) (h2 : dp < 150) (htn : tn + 3 * (mx - st) < 1000000) (k3 : P 0 x = 2) : RO b h P F ND it n (zo P m M fr x) m pr cl ff st mx dp t kp (P 5 x) tn M N (fX2_workOut_8 (nI tn) (eW M x fr st dp dd)) (fX11_goes_0 N) := by
  have hc' := hS.2.2.2
  have hW := hS.1.1
  have hs := hS.1.2.1
  have hb := hS.1.2.2.1.1
  have bd := hS.2.2.2.1
  have hfr := hx.1
  obtain ⟨s1, s2, s3, s4, s5, ⟨s6, s7, s8⟩, s9⟩ := j_enter (x := x) (fr := fr) hS h1 h2
  generalize hM1 : eW M x fr st dp dd = M1 at s1 s2 s3 s4 s6 s7 s8 ⊢
  have hr := r_enter hc' h1 h2 hk
  generalize hN1 : eR N st dp dd t = N1 at s1 s2 s3 s5 s9 hr
  generalize hdd : max dd (dp + 1) = dd1 at s1
  have hx1 := Ex_x (s2 (fun _ _ => False)) hx
  obtain ⟨⟨x1, x2, x3, x4, x5, x6⟩, q1, q2, q3, q4⟩ := SS_node s1 hx1
  obtain ⟨p1, p2, p3⟩ := pN_name q1 k3
  have h16 := (hW.2.2.2 _ hx.2.1).2.2.1
  obtain ⟨y9, y72⟩ := q3.2.2.2.2.2.2.1 k3
  have e71 : N1.1 71 (P 6 x) = nI 7 := by rw [q3.2.2.2.1, k3]; rfl
  obtain ⟨⟨b1, b2, b3, b4, b5, b6⟩, ⟨b7, b8⟩, ⟨b9, bA⟩, ⟨bB, bC⟩, ⟨bD, bE⟩, ⟨bF, bG⟩, bH, bI⟩ := s1.2.2.2
  obtain ⟨hnm, kk, e50, e103, oK⟩ := hx1.2.2.2.2 x x3 (Nat.le_refl _) k3 (by rcases p3 with z | z; exact .inl z; exact .inr z.2.2.2.2)
  rw [p2] at oK
  have hkb := oT_b s1.2.1.1.1 s1.2.1.1.2.2.2 oK
  have hfb := fi_b hkb
  obtain ⟨S2, E2, g2⟩ := SS_k (M' := mv_si M1 53 dp (nI 1)) (N' := N1) (st' := st + 1) (dd' := dd1) (t' := t + 1) (kp' := kp) s1 rfl (fun a p u => by unfold kC at u; simp (disch := omega) only [rd_hi, rd_mi, rd_hl, rd_ml, rd_hr, rd_mr, rd_si2, rd_sl1, rd_sl2, rd_sr1, rd_sr2]) rfl (fun a p u => rfl) ⟨⟨b1, b2, b3, b4, by omega, b6⟩, ⟨by simp (disch := omega) only [rd_hi, rd_mi, rd_hl, rd_ml, rd_hr, rd_mr, rd_si2, rd_sl1, rd_sl2, rd_sr1, rd_sr2]; exact b7, b8⟩, ⟨by simp (disch := omega) only [rd_hi, rd_mi, rd_hl, rd_ml, rd_hr, rd_mr, rd_si2, rd_sl1, rd_sl2, rd_sr1, rd_sr2]; exact bB, bC⟩, ⟨by simp (disch := omega) only [rd_hi, rd_mi, rd_hl, rd_ml, rd_hr, rd_mr, rd_si2, rd_sl1, rd_sl2, rd_sr1, rd_sr2]; exact bD, bE⟩, ⟨by simp (disch := omega) only [rd_hi, rd_mi, rd_hl, rd_ml, rd_hr, rd_mr, rd_si2, rd_sl1, rd_sl2, rd_sr1, rd_sr2]; exact bF, bG⟩, bH, bI⟩
  have oK2 := Ex_o (E2 (fun _ _ => False)) oK
  obtain ⟨S3, E3, g3⟩ := SS_mark S2 oK2
  have E03 : ∀ Z, Ex P it n Z m pr cl ff M N m pr cl ff _ _ := fun Z => Ex_tr (Ex_tr (s2 Z) (E2 Z) (fun _ _ _ z => z)) (E3 Z) (fun _ _ _ z => z)
  have g03 := gF_tr (gF_tr s3 g2) g3
  have oK3 := Ex_o (E3 (fun _ _ => False)) oK2
  obtain ⟨s, a1, a2, a3, a4, a5, a6⟩ := s1.2.1.2.2.1 kk _ oK
  have w0 := wk_7 e71 x6 y72 x5 hnm e103
  have n0 := nm_0 hb s1.1.2.2.2 s7 s8 h2 (by omega) y9 x5 hnm e50 hkb
  have g0 := go_name s1.1 hx.2.1 hx.2.2.1 hx.2.2.2.1 s6 h2 k3
  by_cases hs2 : s = 2
  · -- its value is there
    subst hs2
    obtain ⟨v1, v2, v3⟩ := a6 rfl
    rw [rn_d hfb a2] at w0
    rw [iw_d hkb (by simp (disch := omega) only [rd_hi, rd_mi, rd_hl, rd_ml, rd_hr, rd_mr, rd_si2, rd_sl1, rd_sl2, rd_sr1, rd_sr2]; exact a1), k_bs, if_pos rfl, if_pos (by simp (disch := omega) only [rd_hi, rd_mi, rd_hl, rd_ml, rd_hr, rd_mr, rd_si2, rd_sl1, rd_sl2, rd_sr1, rd_sr2]; exact bF), rd_hi ⟨rfl, rfl⟩, c_leave (d := dp) (by simp (disch := omega) only [rd_hi, rd_mi, rd_hl, rd_ml, rd_hr, rd_mr, rd_si2, rd_sl1, rd_sl2, rd_sr1, rd_sr2]; exact bB)] at n0
    have gN := G_go (hr.trans (by rw [w0, k_bs]))
    have wa := W_go (tn := tn) (by omega) bB h2 bF (g0.trans n0)
    rw [rd_mi (by omega), v1] at wa
    rw [v2] at gN
    generalize N1.1 99 (fi kk) = v at *
    obtain ⟨S4, E4, g4⟩ := SS_k (M' := mv_si (mv_si (mv_si M1 53 dp (nI 1)) 59 kk (nI 1)) 7 9 v) (N' := mv_si (mv_si (mv_si N1 100 (fi kk) (nI 1)) 62 77 (nI (kD (P 5 x)))) 62 78 v) (st' := st + 1) (dd' := dd1) (t' := t + 1) (kp' := kp) S3 rfl (fun a p u => by unfold kC at u; simp (disch := omega) only [rd_hi, rd_mi, rd_hl, rd_ml, rd_hr, rd_mr, rd_si2, rd_sl1, rd_sl2, rd_sr1, rd_sr2]) rfl (fun a p u => by unfold kR' at u; simp (disch := omega) only [rd_hi, rd_mi, rd_hl, rd_ml, rd_hr, rd_mr, rd_si2, rd_sl1, rd_sl2, rd_sr1, rd_sr2]) ⟨⟨b1, b2, b3, b4, by omega, b6⟩, ⟨by simp (disch := omega) only [rd_hi, rd_mi, rd_hl, rd_ml, rd_hr, rd_mr, rd_si2, rd_sl1, rd_sl2, rd_sr1, rd_sr2]; exact b7, by simp (disch := omega) only [rd_hi, rd_mi, rd_hl, rd_ml, rd_hr, rd_mr, rd_si2, rd_sl1, rd_sl2, rd_sr1, rd_sr2]; exact b8⟩, ⟨by simp (disch := omega) only [rd_hi, rd_mi, rd_hl, rd_ml, rd_hr, rd_mr, rd_si2, rd_sl1, rd_sl2, rd_sr1, rd_sr2]; exact bB, by simp (disch := omega) only [rd_hi, rd_mi, rd_hl, rd_ml, rd_hr, rd_mr, rd_si2, rd_sl1, rd_sl2, rd_sr1, rd_sr2]; exact bC⟩, ⟨by simp (disch := omega) only [rd_hi, rd_mi, rd_hl, rd_ml, rd_hr, rd_mr, rd_si2, rd_sl1, rd_sl2, rd_sr1, rd_sr2]; exact bD, by simp (disch := omega) only [rd_hi, rd_mi, rd_hl, rd_ml, rd_hr, rd_mr, rd_si2, rd_sl1, rd_sl2, rd_sr1, rd_sr2]; exact bE⟩, ⟨by simp (disch := omega) only [rd_hi, rd_mi, rd_hl, rd_ml, rd_hr, rd_mr, rd_si2, rd_sl1, rd_sl2, rd_sr1, rd_sr2]; exact bF, by simp (disch := omega) only [rd_hi, rd_mi, rd_hl, rd_ml, rd_hr, rd_mr, rd_si2, rd_sl1, rd_sl2, rd_sr1, rd_sr2]; exact bG⟩, by simp (disch := omega) only [rd_hi, rd_mi, rd_hl, rd_ml, rd_hr, rd_mr, rd_si2, rd_sl1, rd_sl2, rd_sr1, rd_sr2]; exact bH, by simp (disch := omega) only [rd_hi, rd_mi, rd_hl, rd_ml, rd_hr, rd_mr, rd_si2, rd_sl1, rd_sl2, rd_sr1, rd_sr2]; exact bI⟩
    refine RO_done (v := v) (tn' := tn + 1) S4 ⟨by simp (disch := omega) only [rd_hi, rd_mi, rd_hl, rd_ml, rd_hr, rd_mr, rd_si2, rd_sl1, rd_sl2, rd_sr1, rd_sr2]; exact s9.1, by simp (disch := omega) only [rd_hi, rd_mi, rd_hl, rd_ml, rd_hr, rd_mr, rd_si2, rd_sl1, rd_sl2, rd_sr1, rd_sr2]; exact s9.2.1, by simp (disch := omega) only [rd_hi, rd_mi, rd_hl, rd_ml, rd_hr, rd_mr, rd_si2, rd_sl1, rd_sl2, rd_sr1, rd_sr2]; exact s9.2.2⟩ (Ex_tr (E03 _) (E4 (zo P m M fr x)) (fun _ _ _ z => z)) (gF_tr g03 g4) (fun a i z hi => by simp (disch := omega) only [rd_hi, rd_mi, rd_hl, rd_ml, rd_hr, rd_mr, rd_si2, rd_sl1, rd_sl2, rd_sr1, rd_sr2]; exact s4 a i z hi) ⟨fun a i z hi => by simp (disch := omega) only [rd_hi, rd_mi, rd_hl, rd_ml, rd_hr, rd_mr, rd_si2, rd_sl1, rd_sl2, rd_sr1, rd_sr2]; exact s5.1 a i z hi, fun i hi => by simp (disch := omega) only [rd_hi, rd_mi, rd_hl, rd_ml, rd_hr, rd_mr, rd_si2, rd_sl1, rd_sl2, rd_sr1, rd_sr2]; exact s5.2 i hi⟩ (by simp (disch := omega) only [rd_hi, rd_mi, rd_hl, rd_ml, rd_hr, rd_mr, rd_si2, rd_sl1, rd_sl2, rd_sr1, rd_sr2]) (by simp (disch := omega) only [rd_hi, rd_mi, rd_hl, rd_ml, rd_hr, rd_mr, rd_si2, rd_sl1, rd_sl2, rd_sr1, rd_sr2]) (Ex_v (Ex_tr (Ex_tr (E2 (fun _ _ => False)) (E3 (fun _ _ => False)) (fun _ _ _ z => z)) (E4 (fun _ _ => False)) (fun _ _ _ z => z)) (by rw [v1] at v3; exact v3)) (by omega) (by omega) (by omega) (by omega) wa gN
  by_cases hs0 : s = 0
  · -- it is to be worked out
    subst hs0
    have hkm := a4 rfl
    obtain ⟨S4, E4, g4, O4⟩ := SS_wk S3 oK3 hkm (by simp (disch := omega) only [rd_hi, rd_mi, rd_hl, rd_ml, rd_hr, rd_mr, rd_si2, rd_sl1, rd_sl2, rd_sr1, rd_sr2]; exact a1)
    have hm5 := s1.2.1.1.1
    obtain ⟨c, f', u1, u2, u3, u4, u5, u6⟩ := s1.2.1.2.1 kk hkm
    have fk := fi_lt (k := kk) (by omega)
    rw [rn_w hfb a2 bH (by omega), fk, u4, u5] at w0
    rw [iw_w (by omega) (by simp (disch := omega) only [rd_hi, rd_mi, rd_hl, rd_ml, rd_hr, rd_mr, rd_si2, rd_sl1, rd_sl2, rd_sr1, rd_sr2]; exact a1), k_bs, if_neg (by decide), k_inb (by omega) (by omega), k_ck, k_ck, show (mv_si (mv_si (mv_si M1 53 dp (nI 1)) 59 kk (nI 1)) 57 kk (nI 1)).1 55 kk = nI c by simp (disch := omega) only [rd_hi, rd_mi, rd_hl, rd_ml, rd_hr, rd_mr, rd_si2, rd_sl1, rd_sl2, rd_sr1, rd_sr2]; exact u1, show (mv_si (mv_si (mv_si M1 53 dp (nI 1)) 59 kk (nI 1)) 57 kk (nI 1)).1 56 kk = nI f' by simp (disch := omega) only [rd_hi, rd_mi, rd_hl, rd_ml, rd_hr, rd_mr, rd_si2, rd_sl1, rd_sl2, rd_sr1, rd_sr2]; exact u3] at n0
    rw [fk] at S4 E4 g4 S3 E3 g3 E03 g03
    generalize hN4 : mv_si (mv_si N1 100 (40 + kk) (nI 1)) 97 (40 + kk) (nI 1) = N4 at S4 E4 g4 w0
    generalize hN5 : pT (pT N4 (t + 1) (nI 3) (nI (40 + kk)) (nI 0)) (t + 1 + 1) (nI 1) (nI (P 6 c)) (nI f') = N5 at w0
    have gN : fX11_goes_0 N = fX11_goes_0 N5 := G_go (hr.trans (by rw [w0, k_bs]))
    have eN5 : ∀ a p, ¬ ((a = 62 ∧ p = 36) ∨ ((a = 81 ∨ a = 82 ∨ a = 85) ∧ t < p)) → N5.1 a p = N4.1 a p := by
      intro a p u
      rw [← hN5, pT_s (by omega), pT_s (by omega)]
    have eN4 : ∀ a p, ¬ (a = 100 ∨ a = 97) → N4.1 a p = N1.1 a p := by
      intro a p u
      rw [← hN4]; simp (disch := omega) only [rd_hi, rd_mi, rd_hl, rd_ml, rd_hr, rd_mr, rd_si2, rd_sl1, rd_sl2, rd_sr1, rd_sr2]
    generalize hM4 : mv_si (mv_si (mv_si M1 53 dp (nI 1)) 59 kk (nI 1)) 57 kk (nI 1) = M4 at S4 E4 g4 O4 n0
    have eM4 : ∀ a p, ¬ (a = 57 ∨ a = 59) → M4.1 a p = (mv_si M1 53 dp (nI 1)).1 a p := by
      intro a p u
      rw [← hM4, rd_mi (by omega), rd_mi (by omega)]
    obtain ⟨⟨d1, d2, d3, d4, d5, d6⟩, ⟨d7, d8⟩, ⟨d9, dA⟩, ⟨dB, dC⟩, ⟨dD, dE⟩, ⟨dF, dG⟩, dH, dI⟩ := S4.2.2.2
    obtain ⟨S5, E5, g5⟩ := SS_k (M' := M4) (N' := N5) (st' := st + 1) (dd' := dd1) (t' := t + 3) (kp' := kp) S4 rfl (fun a p u => rfl) (by rw [← hN5]; rfl) (fun a p u => eN5 a p (by unfold kR' at u; omega)) ⟨⟨d1, d2, d3, d4, by omega, d6⟩, ⟨d7, (eN5 _ _ (by omega)).trans d8⟩, ⟨dB, (eN5 _ _ (by omega)).trans dC⟩, ⟨dD, (eN5 _ _ (by omega)).trans dE⟩, ⟨dF, (eN5 _ _ (by omega)).trans dG⟩, by rw [← hN5]; exact pT_36, (eN5 _ _ (by omega)).trans dI⟩
    have E05 : ∀ Z, Ex P it n Z m pr cl ff M N m pr cl ff M4 N5 := fun Z => Ex_tr (Ex_tr (E03 Z) (E4 Z) (fun _ _ _ z => z)) (E5 Z) (fun _ _ _ z => z)
    have g05 := gF_tr (gF_tr g03 g4) g5
    have E15 : ∀ Z, Ex P it n Z m pr cl ff M1 N1 m pr cl ff M4 N5 := fun Z => Ex_tr (Ex_tr (Ex_tr (E2 Z) (E3 Z) (fun _ _ _ z => z)) (E4 Z) (fun _ _ _ z => z)) (E5 Z) (fun _ _ _ z => z)
    have xc := Ex_x (E15 (fun _ _ => False)) u6
    have h7c : P 7 c ≤ c := ((hW.2.2.2 _ u6.2.1).2.2.2.2.2.2.2.2.2 c u6.2.2.1 u6.2.2.2.1).2.2.2.1
    have hoc := O4 c f' (by simp (disch := omega) only [rd_hi, rd_mi, rd_hl, rd_ml, rd_hr, rd_mr, rd_si2, rd_sl1, rd_sl2, rd_sr1, rd_sr2]; exact u1) u2 (by simp (disch := omega) only [rd_hi, rd_mi, rd_hl, rd_ml, rd_hr, rd_mr, rd_si2, rd_sl1, rd_sl2, rd_sr1, rd_sr2]; exact u3) h7c
    have t2 : tk3 N5 (t + 2) (nI 1) (nI (P 6 c)) (nI f') := by rw [← hN5]; exact pT_top
    have t1 : tk3 N5 (t + 1) (nI 3) (nI (40 + kk)) (nI 0) := by rw [← hN5]; exact tk3_p pT_top (by omega)
    obtain ⟨Mc, en1, R1⟩ := ih m pr cl ff (st + 1) mx (dp + 1) dd1 (t + 2) kp (tn + 1) c f' M4 N5 (by omega) S5 t2 xc hoc (by omega)
    have wa : fX2_workOut_8 (nI tn) M1 = fX2_workOut_8 (nI (tn + 1)) Mc := W_go (by omega) bB h2 bF (g0.trans (n0.trans en1))
    rw [wa, gN]
    -- whose nodes are in whose zone
    have hkO : ∀ i, P 7 c ≤ i → i ≤ c → Ow P m M f' i := by
      intro i i1 i2
      rcases (s2 (fun _ _ => False)).2.2.2.2.2.2 f' i u6.1 ⟨kk, c, hkm, a1, u1, u2, u3, i1, i2⟩ with z | z
      · exact z
      · exact z.elim
    have hzone : ∀ f d, f ≤ cl → zo P m M4 f' c f d → Ow P m M f d := by
      intro f d hf z
      rcases z with z | ⟨z1, z2, z3⟩
      · rcases (E05 (fun _ _ => False)).2.2.2.2.2.2 f d hf z with y | y
        · exact y
        · exact y.elim
      · rw [z1]; exact hkO d z2 z3
    rcases R1 with ⟨M', N', r1, r2, r3⟩ | ⟨M6, N6, m6, pr6, cl6, ff6, st6, dd6, tn6, r1, r2, ⟨r3, r4⟩, r5, r6, r7, ⟨r8, r9⟩, rA, rB, rC⟩
    · exact RO_f2 r1 r2 (E05 (fun _ _ => False)) g05 r3
    rw [r1, r2]
    have E06 := Ex_tr (E05 (zo P m M fr x)) r6 (fun f d hf z => .inl (hzone f d hf z))
    have g06 := gF_tr g05 r7
    obtain ⟨⟨i1, i2, i3, i4, i5, i6⟩, ⟨i7, i8⟩, ⟨i9, iA⟩, ⟨iB, iC⟩, ⟨iD, iE⟩, ⟨iF, iG⟩, iH, iI⟩ := r5.2.2.2
    have j51 : M6.1 51 dp = nI x := (r8 51 dp (by omega) (by omega)).trans ((eM4 _ _ (by omega)).trans (by simp (disch := omega) only [rd_hi, rd_mi, rd_hl, rd_ml, rd_hr, rd_mr, rd_si2, rd_sl1, rd_sl2, rd_sr1, rd_sr2]; exact s6))
    have j52 : M6.1 52 dp = nI fr := (r8 52 dp (by omega) (by omega)).trans ((eM4 _ _ (by omega)).trans (by simp (disch := omega) only [rd_hi, rd_mi, rd_hl, rd_ml, rd_hr, rd_mr, rd_si2, rd_sl1, rd_sl2, rd_sr1, rd_sr2]; exact s7))
    have j53 : M6.1 53 dp = nI 1 := (r8 53 dp (by omega) (by omega)).trans ((eM4 _ _ (by omega)).trans (by simp (disch := omega) only [rd_hi, rd_mi, rd_hl, rd_ml, rd_hr, rd_mr, rd_si2, rd_sl1, rd_sl2, rd_sr1, rd_sr2]))
    have j50 : M6.1 50 (16 * fr + P 1 x) = nI kk := by
      refine (r6.2.2.2.2.2.1 fr (P 1 x) hfr hnm ?_).trans ((eM4 _ _ (by omega)).trans (by simp (disch := omega) only [rd_hi, rd_mi, rd_hl, rd_ml, rd_hr, rd_mr, rd_si2, rd_sl1, rd_sl2, rd_sr1, rd_sr2]; exact e50))
      by_cases hp9 : P 1 x < P 9 (ff fr)
      · exact .inl hp9
      · exact .inr (fun z => Ow_up hW hS.2.1 hfr (ho x x3 (Nat.le_refl _)) p3 (by omega) (hzone _ _ hfr z))
    have mn6 := (r5.1.2.2.1.2.2.2.2.2 _ hx.2.1).2.2.2 x hx.2.2.1 hx.2.2.2.1
    obtain ⟨z9, _⟩ := mn6.2.2.2.2.2.2.1 k3
    have etc : P 5 c = P 5 x := oT_u s1.2.1.1.1 (.inl ⟨hkm, c, u1, u2, rfl⟩) oK
    rw [etc] at rB rC
    have oK6 := Ex_o r6 (Ex_o (E15 (fun _ _ => False)) oK)
    -- it is settled
    have gK := G_go (r_pop3 (t := t + 1) (y := 40 + kk) iH (by omega) iG (tk3_s t1 r9 (by omega)) (by omega))
    rw [rB] at gK
    obtain ⟨S7, E7, g7⟩ := SS_k (M' := mv_si M6 53 dp (nI 2)) (N' := mv_si N6 62 36 (nI (t + 1))) (st' := st6) (dd' := dd6) (t' := t + 1) (kp' := kp) r5 rfl (fun a p u => by unfold kC at u; simp (disch := omega) only [rd_hi, rd_mi, rd_hl, rd_ml, rd_hr, rd_mr, rd_si2, rd_sl1, rd_sl2, rd_sr1, rd_sr2]) rfl (fun a p u => by unfold kR' at u; simp (disch := omega) only [rd_hi, rd_mi, rd_hl, rd_ml, rd_hr, rd_mr, rd_si2, rd_sl1, rd_sl2, rd_sr1, rd_sr2]) ⟨⟨i1, i2, i3, i4, by omega, by omega⟩, ⟨by simp (disch := omega) only [rd_hi, rd_mi, rd_hl, rd_ml, rd_hr, rd_mr, rd_si2, rd_sl1, rd_sl2, rd_sr1, rd_sr2]; exact i7, by simp (disch := omega) only [rd_hi, rd_mi, rd_hl, rd_ml, rd_hr, rd_mr, rd_si2, rd_sl1, rd_sl2, rd_sr1, rd_sr2]; exact i8⟩, ⟨by simp (disch := omega) only [rd_hi, rd_mi, rd_hl, rd_ml, rd_hr, rd_mr, rd_si2, rd_sl1, rd_sl2, rd_sr1, rd_sr2]; exact iB, by simp (disch := omega) only [rd_hi, rd_mi, rd_hl, rd_ml, rd_hr, rd_mr, rd_si2, rd_sl1, rd_sl2, rd_sr1, rd_sr2]; exact iC⟩, ⟨by simp (disch := omega) only [rd_hi, rd_mi, rd_hl, rd_ml, rd_hr, rd_mr, rd_si2, rd_sl1, rd_sl2, rd_sr1, rd_sr2]; exact iD, by simp (disch := omega) only [rd_hi, rd_mi, rd_hl, rd_ml, rd_hr, rd_mr, rd_si2, rd_sl1, rd_sl2, rd_sr1, rd_sr2]; exact iE⟩, ⟨by simp (disch := omega) only [rd_hi, rd_mi, rd_hl, rd_ml, rd_hr, rd_mr, rd_si2, rd_sl1, rd_sl2, rd_sr1, rd_sr2]; exact iF, by simp (disch := omega) only [rd_hi, rd_mi, rd_hl, rd_ml, rd_hr, rd_mr, rd_si2, rd_sl1, rd_sl2, rd_sr1, rd_sr2]; exact iG⟩, by simp (disch := omega) only [rd_hi, rd_mi, rd_hl, rd_ml, rd_hr, rd_mr, rd_si2, rd_sl1, rd_sl2, rd_sr1, rd_sr2], by simp (disch := omega) only [rd_hi, rd_mi, rd_hl, rd_ml, rd_hr, rd_mr, rd_si2, rd_sl1, rd_sl2, rd_sr1, rd_sr2]; exact iI⟩
    have vC7 := Ex_v (E7 (fun _ _ => False)) rC
    rw [rA] at vC7
    obtain ⟨S8, E8, g8⟩ := SS_set S7 (Ex_o (E7 (fun _ _ => False)) oK6) vC7
    rw [fk] at S8 E8 g8
    have vC8 := Ex_v (E8 (fun _ _ => False)) vC7
    generalize hv : N6.1 62 78 = v at *
    generalize hN8 : mv_si (mv_si (mv_si (mv_si N6 62 36 (nI (t + 1))) 97 (40 + kk) (nI 2)) 98 (40 + kk) (nI (kD (P 5 x)))) 99 (40 + kk) v = N8 at S8 E8 g8 gK vC8
    generalize hM8 : mv_si (mv_si (mv_si M6 53 dp (nI 2)) 57 kk (nI 2)) 58 kk v = M8 at S8 E8 g8 vC8
    have eN8 : ∀ a p, ¬ ((a = 62 ∧ p = 36) ∨ a = 97 ∨ a = 98 ∨ a = 99) → N8.1 a p = N6.1 a p := by
      intro a p u
      rw [← hN8]; simp (disch := omega) only [rd_hi, rd_mi, rd_hl, rd_ml, rd_hr, rd_mr, rd_si2, rd_sl1, rd_sl2, rd_sr1, rd_sr2]
    have w3 : fX2_goOn (nI dp) M6 = some ((), mv_si (mv_si M8 7 9 v) 7 8 (nI dp)) := by
      rw [go_name r5.1 hx.2.1 hx.2.2.1 hx.2.2.2.1 j51 h2 k3, nm_1 hb r5.1.2.2.2 j52 j53 h2 (by omega) z9 x5 hnm j50 hkb iF, rA, hM8]
      exact c_leave (by rw [← hM8]; simp (disch := omega) only [rd_hi, rd_mi, rd_hl, rd_ml, rd_hr, rd_mr, rd_si2, rd_sl1, rd_sl2, rd_sr1, rd_sr2]; exact iB)
    have tD := tk3_s (i := t) (N := N5) (by rw [← hN5]; exact tk3_p (tk3_p ⟨(eN4 _ _ (by omega)).trans s9.1, (eN4 _ _ (by omega)).trans s9.2.1, (eN4 _ _ (by omega)).trans s9.2.2⟩ (by omega)) (by omega)) r9 (show t < t + 2 by omega)
    refine RO_done (v := v) (tn' := tn6 + 1) S8 ⟨(eN8 _ _ (by omega)).trans tD.1, (eN8 _ _ (by omega)).trans tD.2.1, (eN8 _ _ (by omega)).trans tD.2.2⟩ (Ex_tr (Ex_tr E06 (E7 (zo P m M fr x)) (fun _ _ _ z => z)) (E8 (zo P m M fr x)) (fun _ _ _ z => z)) (gF_tr (gF_tr g06 g7) g8) (fun a i z hi => ?_) ⟨fun a i z hi => ?_, fun i hi => ?_⟩ ((eN8 _ _ (by omega)).trans hv) ((eN8 _ _ (by omega)).trans rB) vC8 (by omega) (by omega) (by omega) (by omega) (W_go (by omega) iB h2 iF w3) gK
    · rw [← hM8]
      simp (disch := omega) only [rd_hi, rd_mi, rd_hl, rd_ml, rd_hr, rd_mr, rd_si2, rd_sl1, rd_sl2, rd_sr1, rd_sr2]
      rw [r8 a i z (by omega), eM4 _ _ (by omega)]
      simp (disch := omega) only [rd_hi, rd_mi, rd_hl, rd_ml, rd_hr, rd_mr, rd_si2, rd_sl1, rd_sl2, rd_sr1, rd_sr2]
      exact s4 a i z hi
    · rw [eN8 _ _ (by omega), r9.1 a i z (by omega), eN5 _ _ (by omega), eN4 _ _ (by omega)]
      exact s5.1 a i z hi
    · rw [eN8 _ _ (by omega), r9.2 i (by omega), eN5 _ _ (by omega), eN4 _ _ (by omega)]
      exact s5.2 i hi
  · -- it has no value
    have hs13 : s = 1 ∨ s = 3 := by omega
    rw [rn_u hfb a2 hs13] at w0
    rw [iw_u hkb (by simp (disch := omega) only [rd_hi, rd_mi, rd_hl, rd_ml, rd_hr, rd_mr, rd_si2, rd_sl1, rd_sl2, rd_sr1, rd_sr2]; exact a1) hs13, k_bs, if_pos rfl, if_neg (by rw [rd_hi ⟨rfl, rfl⟩]; decide)] at n0
    have gN := G_go (hr.trans (by rw [w0, k_bs]))
    have wa := W_go (tn := tn) (by omega) bB h2 bF (g0.trans n0)
    refine RO_f2 (wa.trans (W_end (e := 2) (by simp (disch := omega) only [rd_hi, rd_mi, rd_hl, rd_ml, rd_hr, rd_mr, rd_si2, rd_sl1, rd_sl2, rd_sr1, rd_sr2]) (by omega) (by omega))) (gN.trans (G_end (e := 2) (by simp (disch := omega) only [rd_hi, rd_mi, rd_hl, rd_ml, rd_hr, rd_mr, rd_si2, rd_sl1, rd_sl2, rd_sr1, rd_sr2]) (by omega) (by omega))) (E03 (fun _ _ => False)) g03 (Fn_c (e := 2) S3 rfl (fun a p u => by unfold kC at u; simp (disch := omega) only [rd_hi, rd_mi, rd_hl, rd_ml, rd_hr, rd_mr, rd_si2, rd_sl1, rd_sl2, rd_sr1, rd_sr2]) rfl (fun a p u => by unfold kR' at u; simp (disch := omega) only [rd_hi, rd_mi, rd_hl, rd_ml, rd_hr, rd_mr, rd_si2, rd_sl1, rd_sl2, rd_sr1, rd_sr2]) (by simp (disch := omega) only [rd_hi, rd_mi, rd_hl, rd_ml, rd_hr, rd_mr, rd_si2, rd_sl1, rd_sl2, rd_sr1, rd_sr2]) (by simp (disch := omega) only [rd_hi, rd_mi, rd_hl, rd_ml, rd_hr, rd_mr, rd_si2, rd_sl1, rd_sl2, rd_sr1, rd_sr2]) (by omega) (by simp (disch := omega) only [rd_hi, rd_mi, rd_hl, rd_ml, rd_hr, rd_mr, rd_si2, rd_sl1, rd_sl2, rd_sr1, rd_sr2]; rw [b7, b8]) (by simp (disch := omega) only [rd_hi, rd_mi, rd_hl, rd_ml, rd_hr, rd_mr, rd_si2, rd_sl1, rd_sl2, rd_sr1, rd_sr2]; rw [bD, bE]))
end RD1
