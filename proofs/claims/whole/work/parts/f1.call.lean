/-! RUNS: calls -/
section RF1
variable {b h F ND n m pr cl pq cq pq' cq' m' pr' cl' m2 pr2 cl2 k t t' fr x st st' mx dp dd dd' kp kp' d tn tn' e i ty y y1 y2 f c c1 c2 c3 s nm p j q g cf A : Nat} {P : Nat → Nat → Nat} {it ff ff' ff2 : Nat → Nat} {M N M' N' M0 N0 M1 N1 M2 N2 M3 N3 : mv_M} {Z Z' : Nat → Nat → Prop} {v op a w r : Int32} {Wt Gt : Option (Unit × mv_M)}
theorem go_call (hP : Pg b h P F ND M N) (hf : f < F) (h1 : P 15 f ≤ x) (h2 : x ≤ P 12 f) (e51 : M.1 51 d = nI x) (hd : d < 150) (hk : P 0 x = 5) : fX2_goOn (nI d) M = fX2_goOnCall (nI x) (nI d) M := by
  rw [go_at hP hf h1 h2 e51 hd, if_neg (by omega), if_neg (by omega), if_pos hk]
theorem ca_f (e53 : M.1 53 d = nI 0) (hd : d < 150) (h4 : M.1 7 4 = nI 1500) : fX2_goOnCall (nI x) (nI d) M = some ((), mv_si (mv_si M 53 d (nI 1)) 7 2 (nI 5)) := by
  unfold fX2_goOnCall fX2_nextPhase fX2_goOnCall_46
  simp (disch := omega) only [↓reduceIte, e53, h4, k_iT, k_iF, Bool.false_eq_true, eq_self, Nat.add_zero, k_lt', k_bs, k_T, k_F, k_inb, k_ck, k_nz, ↓kN, kL, k_lt, k_le, k_eq, kn_le, kn_lt, kn_eq, kn_le', kn_lt', kn_eq', nI_clamp, nI_add, k_sub, k_mul, k_div, rd_hi, rd_mi, rd_hl, rd_ml, rd_hr, rd_mr, rd_si2, rd_sl1, rd_sl2, rd_sr1, rd_sr2]
theorem ca_0 (hb : b = 9 ∨ b = 24) (h76 : M.2.2 7 6 = some b) (e53 : M.1 53 d = nI 0) (hd : d < 150) (hx : x < 1000) (h4 : M.1 7 4 = nI cl) (hc : cl < 1500) (e9 : M.1 (b + 9) x = nI q) (eF : M.1 b 0 = nI F) (hq : q < F) (hF : F ≤ 12) : fX2_goOnCall (nI x) (nI d) M = fX2_goOnCall_81 (nI x) (nI d) (nI (cl + 1)) (M.1 (b + 10) x) (nI 0) (mv_si (mv_si M 53 d (nI 1)) 7 4 (nI (cl + 1))) := by
  have gp : ∀ {γ : Type} (K : Nat → Option γ), mv_getp (some b) K = K b := fun K => gp_b hb
  unfold fX2_goOnCall fX2_nextPhase fX4_hasFunction
  simp (disch := omega) only [↓reduceIte, e53, h4, h76, gp, e9, eF, k_iT, k_iF, Bool.false_eq_true, eq_self, Nat.add_zero, k_lt', k_bs, k_T, k_F, k_inb, k_ck, k_nz, ↓kN, kL, k_lt, k_le, k_eq, kn_le, kn_lt, kn_eq, kn_le', kn_lt', kn_eq', nI_clamp, nI_add, k_sub, k_mul, k_div, rd_hi, rd_mi, rd_hl, rd_ml, rd_hr, rd_mr, rd_si2, rd_sl1, rd_sl2, rd_sr1, rd_sr2]
theorem ca_1 (e53 : M.1 53 d = nI 1) (hd : d < 150) : fX2_goOnCall (nI x) (nI d) M = fX2_leave (M.1 7 9) (mv_si M 53 d (nI 2)) := by
  unfold fX2_goOnCall fX2_nextPhase
  simp (disch := omega) only [↓reduceIte, e53, bind_id, k_iT, k_iF, Bool.false_eq_true, eq_self, Nat.add_zero, k_lt', k_bs, k_T, k_F, k_inb, k_ck, k_nz, ↓kN, kL, k_lt, k_le, k_eq, kn_le, kn_lt, kn_eq, kn_le', kn_lt', kn_eq', nI_clamp, nI_add, k_sub, k_mul, k_div, rd_hi, rd_mi, rd_hl, rd_ml, rd_hr, rd_mr, rd_si2, rd_sl1, rd_sl2, rd_sr1, rd_sr2]
theorem ca_stop (hb : b = 9 ∨ b = 24) (h76 : M.2.2 7 6 = some b) (hx : x < 1000) (e11 : M.1 (b + 11) x = nI A) (hA : A < 16) : fX2_goOnCall_81 (nI x) (nI d) (nI cf) w (nI A) M = fX2_goOnCall_144 (nI x) (nI cf) M := by
  have gp : ∀ {γ : Type} (K : Nat → Option γ), mv_getp (some b) K = K b := fun K => gp_b hb
  unfold fX2_goOnCall_81
  refine lp_inr ?_
  show gX2_goOnCall_81 (nI x) (nI d) (nI cf) w (nI A) M = _
  unfold gX2_goOnCall_81
  simp (disch := omega) only [↓reduceIte, h76, gp, e11, k_iT, k_iF, Bool.false_eq_true, eq_self, Nat.add_zero, k_lt', k_bs, k_T, k_F, k_inb, k_ck, k_nz, ↓kN, kL, k_lt, k_le, k_eq, kn_le, kn_lt, kn_eq, kn_le', kn_lt', kn_eq', nI_clamp, nI_add, k_sub, k_mul, k_div, rd_hi, rd_mi, rd_hl, rd_ml, rd_hr, rd_mr, rd_si2, rd_sl1, rd_sl2, rd_sr1, rd_sr2]
theorem ca_go (hb : b = 9 ∨ b = 24) (h76 : M.2.2 7 6 = some b) (hx : x < 1000) (e11 : M.1 (b + 11) x = nI A) (hA : A < 16) (hj : j < A) (hN : M.1 b 8 = nI ND) (hc : c < ND) (hN2 : ND ≤ 1000) (e52 : M.1 52 d = nI fr) (hd : d < 150) (T : fX2_thingFor (nI c) (nI fr) M = some (r, M2)) (h762 : M2.2.2 7 6 = some b) (hcf : cf ≤ 1500) : fX2_goOnCall_81 (nI x) (nI d) (nI cf) (nI c) (nI j) M = fX2_goOnCall_81 (nI x) (nI d) (nI cf) ((mv_si M2 50 (16 * cf + j) r).1 (b + 12) c) (nI (j + 1)) (mv_si M2 50 (16 * cf + j) r) := by
  have gp : ∀ {γ : Type} (K : Nat → Option γ), mv_getp (some b) K = K b := fun K => gp_b hb
  have cb : ∀ v X, fX2_bind (nI cf) (nI j) v X = some ((), mv_si X 50 (16 * cf + j) v) := fun v X => c_bind hcf (by omega)
  have ch := c_hasN hN hc hN2
  unfold fX2_goOnCall_81
  refine lp_go ?_
  show gX2_goOnCall_81 (nI x) (nI d) (nI cf) (nI c) (nI j) M = _
  unfold gX2_goOnCall_81
  simp (disch := omega) only [↓reduceIte, h76, gp, e11, ch, e52, T, cb, h762, k_iT, k_iF, Bool.false_eq_true, eq_self, Nat.add_zero, k_lt', k_bs, k_T, k_F, k_inb, k_ck, k_nz, ↓kN, kL, k_lt, k_le, k_eq, kn_le, kn_lt, kn_eq, kn_le', kn_lt', kn_eq', nI_clamp, nI_add, k_sub, k_mul, k_div, rd_hi, rd_mi, rd_hl, rd_ml, rd_hr, rd_mr, rd_si2, rd_sl1, rd_sl2, rd_sr1, rd_sr2]
theorem ca_144 (hb : b = 9 ∨ b = 24) (h76 : M.2.2 7 6 = some b) (e2 : M.1 7 2 = nI 0) (hx : x < 1000) (e9 : M.1 (b + 9) x = nI q) (hq : q < 12) (e5 : M.1 (b + 5) q = nI c) : fX2_goOnCall_144 (nI x) (nI cf) M = fX2_enter (nI c) (nI cf) M := by
  have gp : ∀ {γ : Type} (K : Nat → Option γ), mv_getp (some b) K = K b := fun K => gp_b hb
  unfold fX2_goOnCall_144
  simp (disch := omega) only [↓reduceIte, h76, gp, e2, e9, e5, bind_id, k_iT, k_iF, Bool.false_eq_true, eq_self, Nat.add_zero, k_lt', k_bs, k_T, k_F, k_inb, k_ck, k_nz, ↓kN, kL, k_lt, k_le, k_eq, kn_le, kn_lt, kn_eq, kn_le', kn_lt', kn_eq', nI_clamp, nI_add, k_sub, k_mul, k_div, rd_hi, rd_mi, rd_hl, rd_ml, rd_hr, rd_mr, rd_si2, rd_sl1, rd_sl2, rd_sr1, rd_sr2]
theorem ca_144f (e2 : M.1 7 2 = nI 5) : fX2_goOnCall_144 (nI x) w M = some ((), M) := by
  unfold fX2_goOnCall_144
  simp (disch := omega) only [↓reduceIte, e2, k_iT, k_iF, Bool.false_eq_true, eq_self, Nat.add_zero, k_lt', k_bs, k_T, k_F, k_inb, k_ck, k_nz, ↓kN, kL, k_lt, k_le, k_eq, kn_le, kn_lt, kn_eq, kn_le', kn_lt', kn_eq', nI_clamp, nI_add, k_sub, k_mul, k_div, rd_hi, rd_mi, rd_hl, rd_ml, rd_hr, rd_mr, rd_si2, rd_sl1, rd_sl2, rd_sr1, rd_sr2]
theorem cd_f (h71 : N.1 71 y = nI 8) (hy : y < 2002) (h69 : N.1 62 69 = nI 1500) : wkR (nI y) w N = some ((), mv_si N 62 74 (nI 5)) := by
  unfold wkR fX11_called
  simp (disch := omega) only [↓reduceIte, h71, h69, k_iT, k_iF, Bool.false_eq_true, eq_self, Nat.add_zero, k_lt', k_bs, k_T, k_F, k_inb, k_ck, k_nz, ↓kN, kL, k_lt, k_le, k_eq, kn_le, kn_lt, kn_eq, kn_le', kn_lt', kn_eq', nI_clamp, nI_add, k_sub, k_mul, k_div, rd_hi, rd_mi, rd_hl, rd_ml, rd_hr, rd_mr, rd_si2, rd_sl1, rd_sl2, rd_sr1, rd_sr2]
theorem cd_0 (h71 : N.1 71 y = nI 8) (hy : y < 2002) (h69 : N.1 62 69 = nI cl) (hc : cl < 1500) : wkR (nI y) w N = fX11_called_34 (nI y) w (nI (cl + 1)) (nI 0) (mv_si N 62 69 (nI (cl + 1))) := by
  unfold wkR fX11_called
  simp (disch := omega) only [↓reduceIte, h71, h69, bind_id, k_iT, k_iF, Bool.false_eq_true, eq_self, Nat.add_zero, k_lt', k_bs, k_T, k_F, k_inb, k_ck, k_nz, ↓kN, kL, k_lt, k_le, k_eq, kn_le, kn_lt, kn_eq, kn_le', kn_lt', kn_eq', nI_clamp, nI_add, k_sub, k_mul, k_div, rd_hi, rd_mi, rd_hl, rd_ml, rd_hr, rd_mr, rd_si2, rd_sl1, rd_sl2, rd_sr1, rd_sr2]
theorem cd_stop (hy : y < 2002) (e73 : N.1 73 y = nI A) (hA : A < 16) (e74 : N.1 74 y = nI g) (hg : g < 24) (h36 : N.1 62 36 = nI t) (ht : t < 2900) : fX11_called_34 (nI y) w (nI cf) (nI A) N = some ((), pT N t (nI 1) (N.1 68 g) (nI cf)) := by
  have q : ∀ a w, fX11_task (nI 1) a w N = some ((), pT N t (nI 1) a w) := fun a w => r_task h36 (by omega)
  unfold fX11_called_34
  refine lp_out (t := ()) ?_
  show gX11_called_34 (nI y) w (nI cf) (nI A) N = _
  unfold gX11_called_34
  simp (disch := omega) only [↓reduceIte, e73, e74, q, k_iT, k_iF, Bool.false_eq_true, eq_self, Nat.add_zero, k_lt', k_bs, k_T, k_F, k_inb, k_ck, k_nz, ↓kN, kL, k_lt, k_le, k_eq, kn_le, kn_lt, kn_eq, kn_le', kn_lt', kn_eq', nI_clamp, nI_add, k_sub, k_mul, k_div, rd_hi, rd_mi, rd_hl, rd_ml, rd_hr, rd_mr, rd_si2, rd_sl1, rd_sl2, rd_sr1, rd_sr2]
theorem cd_go (hy : y < 2002) (e73 : N.1 73 y = nI A) (hA : A < 16) (hj : j < A) (e72 : N.1 72 y = nI g) (hg : g + A ≤ 2002) (e78 : N.1 78 (g + j) = nI y1) (T : fX11_thing (nI y1) w N = some (r, N2)) (hcf : cf ≤ 1500) : fX11_called_34 (nI y) w (nI cf) (nI j) N = fX11_called_34 (nI y) w (nI cf) (nI (j + 1)) (mv_si N2 103 (16 * cf + j) r) := by
  unfold fX11_called_34
  refine lp_go ?_
  show gX11_called_34 (nI y) w (nI cf) (nI j) N = _
  unfold gX11_called_34
  simp (disch := omega) only [↓reduceIte, e73, e72, e78, T, k_iT, k_iF, Bool.false_eq_true, eq_self, Nat.add_zero, k_lt', k_bs, k_T, k_F, k_inb, k_ck, k_nz, ↓kN, kL, k_lt, k_le, k_eq, kn_le, kn_lt, kn_eq, kn_le', kn_lt', kn_eq', nI_clamp, nI_add, k_sub, k_mul, k_div, rd_hi, rd_mi, rd_hl, rd_ml, rd_hr, rd_mr, rd_si2, rd_sl1, rd_sl2, rd_sr1, rd_sr2]
/-- the arguments lie side by side -/
theorem ar_lt (hA : ∀ k, k + 1 < A → P 7 (ar P x (k + 1)) = ar P x k + 1) (h7 : ∀ k, k < A → P 7 (ar P x k) ≤ ar P x k) : ∀ u, j < u → u < A → ar P x j < P 7 (ar P x u) := by
  intro u
  induction u with
  | zero => intro h1; omega
  | succ u ih =>
    intro h1 h2
    rw [hA u h2]
    by_cases e : u = j
    · subst e; omega
    · have a1 := ih (by omega) (by omega)
      have a2 := h7 u (by omega)
      omega
theorem ar_lam (hA : ∀ k, k + 1 < A → P 7 (ar P x (k + 1)) = ar P x k + 1) (h7 : ∀ k, k < A → P 7 (ar P x k) ≤ ar P x k) (hl : ∀ u, u < A → ∀ k, P 7 (ar P x u) ≤ k → k ≤ ar P x u → P 7 (ar P x u) ≤ P 7 k) : ∀ u, j ≤ u → u < A → ∀ k, ar P x j < k → k ≤ ar P x u → ar P x j < P 7 k := by
  intro u
  induction u with
  | zero => intro h1 h2 k k1 k2; obtain rfl : j = 0 := by omega
            omega
  | succ u ih =>
    intro h1 h2 k k1 k2
    by_cases e : j = u + 1
    · subst e; omega
    · by_cases hk : k ≤ ar P x u
      · exact ih (by omega) (by omega) k k1 hk
      · have a1 := hA u h2
        have a2 := hl (u + 1) h2 k (by omega) k2
        by_cases e2 : j = u
        · subst e2; omega
        · have a3 := ar_lt hA h7 u (show j < u by omega) (by omega)
          have a4 := h7 u (by omega)
          omega
/-- no room: the class goes through the arguments -/
theorem al_cf (hf : f < F) (hx1 : P 15 f ≤ x) (hx2 : x ≤ P 12 f) (k3 : P 0 x = 5) (hcf : cf ≤ 1500) (hfr : fr ≤ 1500) (hd : d < 150) : ∀ i j M w, j + i = P 3 x → Pg b h P F ND M N0 → M.1 8 0 = nI 1500 → M.1 7 2 = nI 5 → M.1 52 d = nI fr → (j < P 3 x → w = nI (ar P x j)) → ∃ M', fX2_goOnCall_81 (nI x) (nI d) (nI cf) w (nI j) M = some ((), M') ∧ M'.2 = M.2 ∧ ∀ a p, ¬ (a = 50 ∧ 16 * cf ≤ p) → M'.1 a p = M.1 a p := by
  intro i
  induction i with
  | zero =>
    intro j M w hj hP h80 h72 e52 hw
    have hW := hP.1
    have hR := hP.2.2.1
    have wf := hW.2.2.2 f hf
    have pn := (wf.2.2.2.2.2.2.2.2.2 x hx1 hx2).2.2.2.2.2
    obtain ⟨q1, q2, q3, q4⟩ := pN_call pn k3
    have mn := (hR.2.2.2.2.2 f hf).2.2.2 x hx1 hx2
    obtain ⟨_, _, n11, _⟩ := mn.2.2.2.2.2.2.2.1 k3
    have h4 := (hW.2.2.2 _ q1).1
    obtain rfl : j = P 3 x := by omega
    refine ⟨M, ?_, rfl, fun _ _ _ => rfl⟩
    rw [ca_stop hR.1 hP.2.2.2 (by have := wf.2.2.2.2.2.1; have := hW.2.2.1; omega) n11 (by omega), ca_144f h72]
  | succ i ih =>
    intro j M w hj hP h80 h72 e52 hw
    have hW := hP.1
    have hR := hP.2.2.1
    have hb := hR.1
    have wf := hW.2.2.2 f hf
    have h16 := wf.2.2.1
    have hND := hW.2.2.1
    have pn := (wf.2.2.2.2.2.2.2.2.2 x hx1 hx2).2.2.2.2.2
    obtain ⟨q1, q2, q3, q4⟩ := pN_call pn k3
    have mn := (hR.2.2.2.2.2 f hf).2.2.2 x hx1 hx2
    obtain ⟨_, _, n11, _, _, _, _, n12, _⟩ := mn.2.2.2.2.2.2.2.1 k3
    have h4 := (hW.2.2.2 _ q1).1
    have hxb : x < ND := by have := wf.2.2.2.2.2.1; omega
    obtain rfl := hw (by omega)
    have pc := (q4 j (by omega)).1
    obtain ⟨c1, c2⟩ := in_seg hW hf hx1 hx2 pc
    have pnc := (wf.2.2.2.2.2.2.2.2.2 _ c1 c2).2.2.2.2.2
    have mnc := (hR.2.2.2.2.2 f hf).2.2.2 _ c1 c2
    have hk400 : P 0 (ar P x j) < 400 := by
      unfold pN sgK at pnc
      omega
    have hcN : ar P x j < ND := by have := pc.2.1; omega
    obtain ⟨r, T⟩ := c_thing5 (c := ar P x j) (fr := fr) (s := P 0 (ar P x j)) hb hP.2.2.2 hR.2.2.2.1 hcN hND mnc.1 hk400 (fun z => ⟨P 1 (ar P x j), by have := (pN_name pnc z).1; omega, (mnc.2.2.2.2.2.2.1 z).1⟩) hfr h80 h72
    have e := ca_go (d := d) hb hP.2.2.2 (show x < 1000 by omega) n11 (by omega) (show j < P 3 x by omega) hR.2.2.2.1 hcN hND e52 hd T hP.2.2.2 hcf
    have hP' : Pg b h P F ND (mv_si M 50 (16 * cf + j) r) N0 := ⟨hP.1, hP.2.1, PR_F hR (fun c k u1 u2 => by simp (disch := omega) only [rd_hi, rd_mi, rd_hl, rd_ml, rd_hr, rd_mr, rd_si2, rd_sl1, rd_sl2, rd_sr1, rd_sr2]) (fun _ _ _ _ => rfl), hP.2.2.2⟩
    obtain ⟨M', o1, o2, o3⟩ := ih (j + 1) (mv_si M 50 (16 * cf + j) r) ((mv_si M 50 (16 * cf + j) r).1 (b + 12) (ar P x j)) (by omega) hP' (by simp (disch := omega) only [rd_hi, rd_mi, rd_hl, rd_ml, rd_hr, rd_mr, rd_si2, rd_sl1, rd_sl2, rd_sr1, rd_sr2]; exact h80) (by simp (disch := omega) only [rd_hi, rd_mi, rd_hl, rd_ml, rd_hr, rd_mr, rd_si2, rd_sl1, rd_sl2, rd_sr1, rd_sr2]; exact h72) (by simp (disch := omega) only [rd_hi, rd_mi, rd_hl, rd_ml, rd_hr, rd_mr, rd_si2, rd_sl1, rd_sl2, rd_sr1, rd_sr2]; exact e52) (fun z => by simp (disch := omega) only [rd_hi, rd_mi, rd_hl, rd_ml, rd_hr, rd_mr, rd_si2, rd_sl1, rd_sl2, rd_sr1, rd_sr2]; exact n12 j z)
    refine ⟨M', e.trans o1, o2, fun a p u => (o3 a p u).trans (rd_mi (by omega))⟩
theorem al_rf (hf : f < F) (hx1 : P 15 f ≤ x) (hx2 : x ≤ P 12 f) (k3 : P 0 x = 5) (hcf : cf ≤ 1500) (ht : t < 2900) : ∀ i j N, j + i = P 3 x → Pg b h P F ND M0 N → N.1 62 74 = nI 5 → N.1 62 36 = nI t → ∃ N', fX11_called_34 (nI (P 6 x)) w (nI cf) (nI j) N = some ((), N') ∧ N'.2 = N.2 ∧ ∀ a p, ¬ (a = 103 ∨ (a = 62 ∧ p = 36) ∨ a = 81 ∨ a = 82 ∨ a = 85) → N'.1 a p = N.1 a p := by
  intro i
  induction i with
  | zero =>
    intro j N hj hP h74 h36
    have hW := hP.1
    have hR := hP.2.2.1
    have wf := hW.2.2.2 f hf
    have pn := (wf.2.2.2.2.2.2.2.2.2 x hx1 hx2).2.2.2.2.2
    obtain ⟨q1, q2, q3, q4⟩ := pN_call pn k3
    have mn := (hR.2.2.2.2.2 f hf).2.2.2 x hx1 hx2
    obtain ⟨_, n74, _, n73, _⟩ := mn.2.2.2.2.2.2.2.1 k3
    have h4 := (hW.2.2.2 _ q1).1
    obtain rfl : j = P 3 x := by omega
    have hF := hW.2.1
    have hh := hR.2.1
    exact ⟨_, cd_stop mn.2.2.1 n73 (by omega) n74 (by omega) h36 ht, rfl, fun a p u => pT_s (by omega)⟩
  | succ i ih =>
    intro j N hj hP h74 h36
    have hW := hP.1
    have hR := hP.2.2.1
    have wf := hW.2.2.2 f hf
    have pn := (wf.2.2.2.2.2.2.2.2.2 x hx1 hx2).2.2.2.2.2
    obtain ⟨q1, q2, q3, q4⟩ := pN_call pn k3
    have mn := (hR.2.2.2.2.2 f hf).2.2.2 x hx1 hx2
    obtain ⟨_, _, _, n73, n72, n16, _, _, n78⟩ := mn.2.2.2.2.2.2.2.1 k3
    have h4 := (hW.2.2.2 _ q1).1
    have e := cd_go (w := w) (cf := cf) mn.2.2.1 n73 (by omega) (show j < P 3 x by omega) n72 n16 (n78 j (by omega)) (r_thing5 h74) hcf
    have hP' : Pg b h P F ND M0 (mv_si N 103 (16 * cf + j) (nI 0)) := ⟨hP.1, hP.2.1, PR_F hR (fun _ _ _ _ => rfl) (fun c k u1 u2 => by simp (disch := omega) only [rd_hi, rd_mi, rd_hl, rd_ml, rd_hr, rd_mr, rd_si2, rd_sl1, rd_sl2, rd_sr1, rd_sr2]), hP.2.2.2⟩
    obtain ⟨N', o1, o2, o3⟩ := ih (j + 1) (mv_si N 103 (16 * cf + j) (nI 0)) (by omega) hP' (by simp (disch := omega) only [rd_hi, rd_mi, rd_hl, rd_ml, rd_hr, rd_mr, rd_si2, rd_sl1, rd_sl2, rd_sr1, rd_sr2]; exact h74) (by simp (disch := omega) only [rd_hi, rd_mi, rd_hl, rd_ml, rd_hr, rd_mr, rd_si2, rd_sl1, rd_sl2, rd_sr1, rd_sr2]; exact h36)
    refine ⟨N', e.trans o1, o2, fun a p u => (o3 a p u).trans (rd_mi (by omega))⟩
/-- the arguments, on both sides -/
theorem al_loop (k3 : P 0 x = 5) (hcl : cl < 1500) (hd : d < 150) (ht : t < 2900) (hfr : fr ≤ cl) : ∀ i j M N m w, j + i = P 3 x → SQ b h P F ND it n m pr cl ff pr (cl + 1) st mx dp dd t kp M N → xX P F it n m cl ff M N x fr → M.1 52 d = nI fr → (j < P 3 x → w = nI (ar P x j)) → (∀ u, u < j → bB P it n m M N (cl + 1) u (P 13 (16 * P 1 x + u))) → (∀ u, j ≤ u → u < P 3 x → ∀ c, P 7 (ar P x u) ≤ c → c ≤ ar P x u → ¬ Ow P m M fr c) →
    (∃ M' N' m', fX2_goOnCall_81 (nI x) (nI d) (nI (cl + 1)) w (nI j) M = fX2_goOnCall_144 (nI x) (nI (cl + 1)) M' ∧ fX11_called_34 (nI (P 6 x)) (nI fr) (nI (cl + 1)) (nI j) N = some ((), pT N' t (nI 1) (N'.1 68 (12 * h + P 1 x)) (nI (cl + 1))) ∧ SQ b h P F ND it n m' pr cl ff pr (cl + 1) st mx dp dd t kp M' N' ∧ Ex P it n (fun f c => f = fr ∧ P 7 x ≤ c ∧ c < x) m pr cl ff M N m' pr cl ff M' N' ∧ gF M N M' N' ∧ (∀ u, u < P 3 x → bB P it n m' M' N' (cl + 1) u (P 13 (16 * P 1 x + u))) ∧ (∀ a p, 51 ≤ a ∧ a ≤ 54 → M'.1 a p = M.1 a p) ∧ ∀ a p, a = 81 ∨ a = 82 ∨ a = 85 ∨ a = 105 → N'.1 a p = N.1 a p)
    ∨ (∃ M' N', fX2_goOnCall_81 (nI x) (nI d) (nI (cl + 1)) w (nI j) M = some ((), M') ∧ fX11_called_34 (nI (P 6 x)) (nI fr) (nI (cl + 1)) (nI j) N = some ((), N') ∧ Fn P n ff M N M' N') := by
  intro i
  induction i with
  | zero =>
    intro j M N m w hj hS hx e52 hw hB ho
    obtain ⟨⟨x1, x2, x3, x4, x5, x6⟩, q1, q2, q3, q4⟩ := SQ_node hS.1 hS.2.1 hx
    obtain ⟨p1, p2, p3, p4⟩ := pN_call q1 k3
    obtain ⟨n9, n74, n11, n73, n72, n16, n10, n12, n78⟩ := q3.2.2.2.2.2.2.2.1 k3
    have h4 := (hS.1.1.2.2.2 _ p1).1
    have hF := hS.1.1.2.1
    have hh := hS.1.2.2.1.2.1
    obtain rfl : j = P 3 x := by omega
    refine .inl ⟨M, N, m, ca_stop hS.1.2.2.1.1 hS.1.2.2.2 (by omega) n11 (by omega), cd_stop x6 n73 (by omega) n74 (by omega) hS.2.2.2.2.2.2.2.2.2.1 ht, hS, Ex_rf, gF_rf, hB, fun _ _ _ => rfl, fun _ _ _ => rfl⟩
  | succ i ih =>
    intro j M N m w hj hS hx e52 hw hB ho
    obtain ⟨⟨x1, x2, x3, x4, x5, x6⟩, q1, q2, q3, q4⟩ := SQ_node hS.1 hS.2.1 hx
    obtain ⟨p1, p2, p3, p4⟩ := pN_call q1 k3
    obtain ⟨n9, n74, n11, n73, n72, n16, n10, n12, n78⟩ := q3.2.2.2.2.2.2.2.1 k3
    have hW := hS.1.1
    have hs := hS.1.2.1
    have hb := hS.1.2.2.1.1
    have h4 := (hW.2.2.2 _ p1).1
    have hF := hW.2.1
    obtain ⟨g1, g2⟩ := q2.2.2.2 k3 (by omega)
    obtain rfl := hw (by omega)
    have seg : ∀ u, u < P 3 x → P 15 (ff fr) ≤ ar P x u ∧ ar P x u ≤ P 12 (ff fr) := fun u hu => in_seg hW hx.2.1 hx.2.2.1 hx.2.2.2.1 (p4 u hu).1
    have a7 : ∀ u, u < P 3 x → P 7 (ar P x u) ≤ ar P x u := fun u hu => ((hW.2.2.2 _ hx.2.1).2.2.2.2.2.2.2.2.2 _ (seg u hu).1 (seg u hu).2).2.2.2.1
    have al : ∀ u, u < P 3 x → ∀ k, P 7 (ar P x u) ≤ k → k ≤ ar P x u → P 7 (ar P x u) ≤ P 7 k := fun u hu => lam_at hW hx.2.1 (seg u hu).1 (seg u hu).2
    obtain ⟨pc, p5⟩ := p4 j (by omega)
    have l7 := q4 _ pc.1 (Nat.le_of_lt pc.2.1)
    have xa := xX_sub hW hs hx pc.1 pc.2.1 (fun k k1 k2 => ar_lam g2 a7 al (P 3 x - 1) (by omega) (by omega) k k1 (by omega)) (.inl (by omega))
    have hcN : ar P x j < ND := by have := pc.2.1; omega
    rcases j_thing hS xa (ho j (Nat.le_refl _) (by omega)) with ⟨kk, M3, N3, m3, T1, T2, S3, E3, g3, oT3, eM3, eN3⟩ | ⟨hm5, T1, T2⟩
    · have ec := ca_go (d := d) (cf := cl + 1) hb hS.1.2.2.2 (show x < 1000 by omega) n11 (by omega) (show j < P 3 x by omega) hS.1.2.2.1.2.2.2.1 hcN x2 e52 hd T1 S3.1.2.2.2 (by omega)
      have er := cd_go (cf := cl + 1) x6 n73 (by omega) (show j < P 3 x by omega) n72 n16 (n78 j (by omega)) T2 (by omega)
      have gw : gF M3 N3 (mv_si M3 50 (16 * (cl + 1) + j) (nI kk)) (mv_si N3 103 (16 * (cl + 1) + j) (nI (fi kk))) := ⟨⟨rfl, fun a p u => by unfold cAr at u; simp (disch := omega) only [rd_hi, rd_mi, rd_hl, rd_ml, rd_hr, rd_mr, rd_si2, rd_sl1, rd_sl2, rd_sr1, rd_sr2]⟩, rfl, fun a p u => by unfold rAr at u; simp (disch := omega) only [rd_hi, rd_mi, rd_hl, rd_ml, rd_hr, rd_mr, rd_si2, rd_sl1, rd_sl2, rd_sr1, rd_sr2]⟩
      obtain ⟨⟨u1, u2⟩, ⟨u3, u4⟩, u5, u6⟩ := S3.2.2.1
      obtain ⟨S4, E4⟩ := SQ_s (pq' := pr) (cq' := cl + 1) S3 gw (fun a p u => by simp (disch := omega) only [rd_hi, rd_mi, rd_hl, rd_ml, rd_hr, rd_mr, rd_si2, rd_sl1, rd_sl2, rd_sr1, rd_sr2]) (fun a p u => by simp (disch := omega) only [rd_hi, rd_mi, rd_hl, rd_ml, rd_hr, rd_mr, rd_si2, rd_sl1, rd_sl2, rd_sr1, rd_sr2]) (fun p u => by simp (disch := omega) only [rd_hi, rd_mi, rd_hl, rd_ml, rd_hr, rd_mr, rd_si2, rd_sl1, rd_sl2, rd_sr1, rd_sr2]) (by simp (disch := omega) only [rd_hi, rd_mi, rd_hl, rd_ml, rd_hr, rd_mr, rd_si2, rd_sl1, rd_sl2, rd_sr1, rd_sr2]) (fun p u1 u2 => by simp (disch := omega) only [rd_hi, rd_mi, rd_hl, rd_ml, rd_hr, rd_mr, rd_si2, rd_sl1, rd_sl2, rd_sr1, rd_sr2]) ⟨by simp (disch := omega) only [rd_hi, rd_mi, rd_hl, rd_ml, rd_hr, rd_mr, rd_si2, rd_sl1, rd_sl2, rd_sr1, rd_sr2]; exact u3, by simp (disch := omega) only [rd_hi, rd_mi, rd_hl, rd_ml, rd_hr, rd_mr, rd_si2, rd_sl1, rd_sl2, rd_sr1, rd_sr2]; exact u4⟩ ⟨by simp (disch := omega) only [rd_hi, rd_mi, rd_hl, rd_ml, rd_hr, rd_mr, rd_si2, rd_sl1, rd_sl2, rd_sr1, rd_sr2]; exact u5, by simp (disch := omega) only [rd_hi, rd_mi, rd_hl, rd_ml, rd_hr, rd_mr, rd_si2, rd_sl1, rd_sl2, rd_sr1, rd_sr2]; exact u6⟩
      have E04 : Ex P it n (fun f c => f = fr ∧ P 7 x ≤ c ∧ c < x) m pr cl ff M N m3 pr cl ff _ _ := Ex_tr (Ex_Z E3 (fun f c _ z => ⟨z.1, by omega, by have := pc.2.1; omega⟩)) (E4 _) (fun _ _ _ z => z)
      have hB4 : ∀ u, u < j + 1 → bB P it n m3 (mv_si M3 50 (16 * (cl + 1) + j) (nI kk)) (mv_si N3 103 (16 * (cl + 1) + j) (nI (fi kk))) (cl + 1) u (P 13 (16 * P 1 x + u)) := by
        intro u hu
        by_cases e : u = j
        · subst e
          exact ⟨by omega, kk, by simp (disch := omega) only [rd_hi, rd_mi, rd_hl, rd_ml, rd_hr, rd_mr, rd_si2, rd_sl1, rd_sl2, rd_sr1, rd_sr2], by simp (disch := omega) only [rd_hi, rd_mi, rd_hl, rd_ml, rd_hr, rd_mr, rd_si2, rd_sl1, rd_sl2, rd_sr1, rd_sr2], by rw [← p5]; exact Ex_o (E4 (fun _ _ => False)) oT3⟩
        · obtain ⟨b0, k, b1, b2, b3⟩ := hB u (by omega)
          refine ⟨b0, k, ?_, ?_, Ex_o (E4 (fun _ _ => False)) (Ex_o E3 b3)⟩
          · simp (disch := omega) only [rd_hi, rd_mi, rd_hl, rd_ml, rd_hr, rd_mr, rd_si2, rd_sl1, rd_sl2, rd_sr1, rd_sr2]; rw [eM3 _ _ (by omega) (by omega)]; exact b1
          · simp (disch := omega) only [rd_hi, rd_mi, rd_hl, rd_ml, rd_hr, rd_mr, rd_si2, rd_sl1, rd_sl2, rd_sr1, rd_sr2]; rw [eN3 _ _ (by omega) (by omega)]; exact b2
      have ho4 : ∀ u, j + 1 ≤ u → u < P 3 x → ∀ c, P 7 (ar P x u) ≤ c → c ≤ ar P x u → ¬ Ow P m3 (mv_si M3 50 (16 * (cl + 1) + j) (nI kk)) fr c := by
        intro u u1 u2 c c1 c2
        refine Ow_k E4 hfr (fun z => ?_)
        have := ar_lt g2 a7 u (show j < u by omega) u2
        rcases E3.2.2.2.2.2.2 fr c hfr z with y | ⟨_, y, y'⟩
        · exact ho u (by omega) u2 c c1 c2 y
        · omega
      have e12 : j + 1 < P 3 x → (mv_si M3 50 (16 * (cl + 1) + j) (nI kk)).1 (b + 12) (ar P x j) = nI (ar P x (j + 1)) := fun z => by
        simp (disch := omega) only [rd_hi, rd_mi, rd_hl, rd_ml, rd_hr, rd_mr, rd_si2, rd_sl1, rd_sl2, rd_sr1, rd_sr2]
        rw [eM3 _ _ (by omega) (by omega)]
        exact n12 j z
      rcases ih (j + 1) _ _ m3 _ (by omega) S4 (Ex_x E04 hx) (by simp (disch := omega) only [rd_hi, rd_mi, rd_hl, rd_ml, rd_hr, rd_mr, rd_si2, rd_sl1, rd_sl2, rd_sr1, rd_sr2]; rw [eM3 _ _ (by omega) (by omega)]; exact e52) e12 hB4 ho4 with ⟨M', N', m', o1, o2, o3, o4, o5, o6, o7, o8⟩ | ⟨M', N', o1, o2, o3⟩
      · refine .inl ⟨M', N', m', ec.trans o1, er.trans o2, o3, Ex_tr E04 o4 (fun _ _ _ z => z), gF_tr (gF_tr g3 gw) o5, o6, fun a p u => ?_, fun a p u => ?_⟩
        · rw [o7 a p u, rd_mi (by omega), eM3 _ _ (by omega) (by omega)]
        · rw [o8 a p u, rd_mi (by omega), eN3 _ _ (by omega) (by omega)]
      · exact .inr ⟨M', N', ec.trans o1, er.trans o2, Fn_tr E04 (gF_tr g3 gw) o3⟩
    · subst hm5
      have ec := ca_go (d := d) (cf := cl + 1) hb hS.1.2.2.2 (show x < 1000 by omega) n11 (by omega) (show j < P 3 x by omega) hS.1.2.2.1.2.2.2.1 hcN x2 e52 hd T1 hS.1.2.2.2 (by omega)
      have er := cd_go (cf := cl + 1) x6 n73 (by omega) (show j < P 3 x by omega) n72 n16 (n78 j (by omega)) T2 (by omega)
      obtain ⟨⟨u1, u2⟩, ⟨u3, u4⟩, u5, u6⟩ := hS.2.2.1
      obtain ⟨c1, ⟨c7, c8⟩, ⟨c9, cA⟩, ⟨cB, cC⟩, ⟨cD, cE⟩, ⟨cF, cG⟩, cH, cI⟩ := hS.2.2.2
      have hPc : Pg b h P F ND (mv_si (mv_si M 7 2 (nI 5)) 50 (16 * (cl + 1) + j) nN) N := ⟨hW, hs, PR_F hS.1.2.2.1 (fun c k u1 u2 => by simp (disch := omega) only [rd_hi, rd_mi, rd_hl, rd_ml, rd_hr, rd_mr, rd_si2, rd_sl1, rd_sl2, rd_sr1, rd_sr2]) (fun _ _ _ _ => rfl), hS.1.2.2.2⟩
      have hPr : Pg b h P F ND M (mv_si (mv_si N 62 74 (nI 5)) 103 (16 * (cl + 1) + j) (nI 0)) := ⟨hW, hs, PR_F hS.1.2.2.1 (fun _ _ _ _ => rfl) (fun c k u1 u2 => by simp (disch := omega) only [rd_hi, rd_mi, rd_hl, rd_ml, rd_hr, rd_mr, rd_si2, rd_sl1, rd_sl2, rd_sr1, rd_sr2]), hS.1.2.2.2⟩
      obtain ⟨M', o1, o2, o3⟩ := al_cf (cf := cl + 1) (d := d) (fr := fr) hx.2.1 hx.2.2.1 hx.2.2.2.1 k3 (by omega) x5 hd i (j + 1) _ ((mv_si (mv_si M 7 2 (nI 5)) 50 (16 * (cl + 1) + j) nN).1 (b + 12) (ar P x j)) (by omega) hPc (by simp (disch := omega) only [rd_hi, rd_mi, rd_hl, rd_ml, rd_hr, rd_mr, rd_si2, rd_sl1, rd_sl2, rd_sr1, rd_sr2]; exact u1) (by simp (disch := omega) only [rd_hi, rd_mi, rd_hl, rd_ml, rd_hr, rd_mr, rd_si2, rd_sl1, rd_sl2, rd_sr1, rd_sr2]) (by simp (disch := omega) only [rd_hi, rd_mi, rd_hl, rd_ml, rd_hr, rd_mr, rd_si2, rd_sl1, rd_sl2, rd_sr1, rd_sr2]; exact e52) (fun z => by simp (disch := omega) only [rd_hi, rd_mi, rd_hl, rd_ml, rd_hr, rd_mr, rd_si2, rd_sl1, rd_sl2, rd_sr1, rd_sr2]; exact n12 j z)
      obtain ⟨N', i1, i2, i3⟩ := al_rf (cf := cl + 1) (t := t) (w := nI fr) hx.2.1 hx.2.2.1 hx.2.2.2.1 k3 (by omega) ht i (j + 1) _ (by omega) hPr (by simp (disch := omega) only [rd_hi, rd_mi, rd_hl, rd_ml, rd_hr, rd_mr, rd_si2, rd_sl1, rd_sl2, rd_sr1, rd_sr2]) (by simp (disch := omega) only [rd_hi, rd_mi, rd_hl, rd_ml, rd_hr, rd_mr, rd_si2, rd_sl1, rd_sl2, rd_sr1, rd_sr2]; exact cH)
      have aM : ∀ a p, ¬ (a = 50 ∧ 16 * (cl + 1) ≤ p) → ¬ (a = 7 ∧ p = 2) → M'.1 a p = M.1 a p := fun a p v1 v2 => (o3 a p v1).trans (by simp (disch := omega) only [rd_hi, rd_mi, rd_hl, rd_ml, rd_hr, rd_mr, rd_si2, rd_sl1, rd_sl2, rd_sr1, rd_sr2])
      have aN : ∀ a p, ¬ (a = 103 ∨ (a = 62 ∧ p = 36) ∨ a = 81 ∨ a = 82 ∨ a = 85) → ¬ (a = 62 ∧ p = 74) → N'.1 a p = N.1 a p := fun a p v1 v2 => (i3 a p v1).trans (by simp (disch := omega) only [rd_hi, rd_mi, rd_hl, rd_ml, rd_hr, rd_mr, rd_si2, rd_sl1, rd_sl2, rd_sr1, rd_sr2])
      refine .inr ⟨M', N', ec.trans o1, er.trans i1, Fn_g (e := 5) hS ⟨⟨o2, fun a p u => aM a p (by unfold cAr at u; omega) (by unfold cAr at u; omega)⟩, i2, fun a p u => aN a p (by unfold rAr at u; omega) (by unfold rAr at u; omega)⟩ (fun k => aM _ _ (by omega) (by omega)) (fun k => aN _ _ (by omega) (by omega)) (aM _ _ (by omega) (by omega)) (aN _ _ (by omega) (by omega)) ?_ ?_ ((o3 _ _ (by omega)).trans (by simp (disch := omega) only [rd_hi, rd_mi, rd_hl, rd_ml, rd_hr, rd_mr, rd_si2, rd_sl1, rd_sl2, rd_sr1, rd_sr2])) ((i3 _ _ (by omega)).trans (by simp (disch := omega) only [rd_hi, rd_mi, rd_hl, rd_ml, rd_hr, rd_mr, rd_si2, rd_sl1, rd_sl2, rd_sr1, rd_sr2])) (by omega) ?_ ?_ (fun nm v1 v2 => aM _ _ (by omega) (by omega))⟩
      · rw [aM _ _ (by omega) (by omega), aN _ _ (by omega) (by omega), u3, u4]
      · rw [aM _ _ (by omega) (by omega), aN _ _ (by omega) (by omega), u5, u6]
      · rw [aM _ _ (by omega) (by omega), aN _ _ (by omega) (by omega), c7, c8]
      · rw [aM _ _ (by omega) (by omega), aN _ _ (by omega) (by omega), cD, cE]
end RF1
