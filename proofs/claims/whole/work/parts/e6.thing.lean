/-! RUNS: a thing for an expression -/
/-- as SS, the counters of pairs and frames apart -/
def SQ (b h : Nat) (P : Nat → Nat → Nat) (F ND : Nat) (it : Nat → Nat) (n m pr cl : Nat) (ff : Nat → Nat) (pq cq st mx dp dd t kp : Nat) (M N : mv_M) : Prop := Pg b h P F ND M N ∧ Cr P F it n m pr cl ff M N ∧ Cq m pq cq M N ∧ Ct st mx dp dd t kp M N
section RA1
variable {b h F ND n m pr cl pq cq m' pr' cl' m2 pr2 cl2 k t t' fr x st st' mx dp dd dd' kp kp' d tn tn' e i ty y f c c1 c2 c3 s nm : Nat} {P : Nat → Nat → Nat} {it ff ff' ff2 : Nat → Nat} {M N M' N' M1 N1 M2 N2 M3 N3 : mv_M} {Z Z' : Nat → Nat → Prop} {v op a w : Int32} {Wt Gt : Option (Unit × mv_M)}
theorem Fn_g (hS : SQ b h P F ND it n m pr cl ff pq cq st mx dp dd t kp M N) (g : gF M N M' N') (e59 : ∀ k, M'.1 59 k = M.1 59 k) (e100 : ∀ k, N'.1 100 k = N.1 100 k) (e80 : M'.1 8 0 = M.1 8 0) (e67 : N'.1 62 67 = N.1 62 67) (h81 : M'.1 8 1 = N'.1 62 68) (h4 : M'.1 7 4 = N'.1 62 69) (h7 : M'.1 7 2 = nI e) (h74 : N'.1 62 74 = nI e) (he : 2 ≤ e ∧ e ≤ 5) (h3 : M'.1 7 3 = N'.1 62 70) (h5 : M'.1 7 5 = N'.1 62 73) (e50 : ∀ nm, nm < 16 → nm < P 9 (ff 0) → M'.1 50 (16 * 0 + nm) = M.1 50 (16 * 0 + nm)) : Fn P n ff M N M' N' := by
  obtain ⟨s1, s2, s3, s4⟩ := hS
  obtain ⟨n1, n2⟩ := Cr_nd s2
  obtain ⟨⟨q1, q2⟩, ⟨q3, q4⟩, q5, q6⟩ := s3
  exact ⟨⟨e, m, ⟨h7, h74, he⟩, h3, ⟨e80.trans q1, e67.trans q2, s2.1.1⟩, h81, h4, h5, fun k hk => by rw [e59, e100]; exact n1 k hk⟩, fun i hi => by rw [e59, e100]; exact n2 i hi, e50, g⟩
def nwC (M : mv_M) (m c fr : Nat) : mv_M := mv_si (mv_si (mv_si (mv_si (mv_si M 8 0 (nI (m + 1))) 55 m (nI c)) 56 m (nI fr)) 57 m (nI 0)) 59 m (nI 0)
def nwR (N : mv_M) (m y fr : Nat) : mv_M := mv_si (mv_si (mv_si (mv_si (mv_si N 62 67 (nI (m + 1))) 95 (40 + m) (nI y)) 96 (40 + m) (nI fr)) 97 (40 + m) (nI 0)) 100 (40 + m) (nI 0)
theorem c_place (hf : fr ≤ 1500) (hn : nm < 16) : fX2_isPlace (nI fr) (nI nm) M = some (1, M) := by
  unfold fX2_isPlace
  simp (disch := omega) only [k_iT, k_iF, Bool.false_eq_true, eq_self, Nat.add_zero, k_lt', k_bs, k_T, k_F, k_inb, k_ck, k_nz, ↓kN, kL, k_lt, k_le, k_eq, kn_le, kn_lt, kn_eq, kn_le', kn_lt', kn_eq', nI_clamp, nI_add, k_sub, k_mul, k_div, rd_hi, rd_mi, rd_hl, rd_ml, rd_hr, rd_mr, rd_si2, rd_sl1, rd_sl2, rd_sr1, rd_sr2]
theorem c_thingOf (hf : fr ≤ 1500) (hn : nm < 16) : fX2_thingOf (nI fr) (nI nm) M = some (M.1 50 (16 * fr + nm), M) := by
  unfold fX2_thingOf
  rw [c_place hf hn, k_bs, if_neg (by decide)]
  simp (disch := omega) only [↓reduceIte, k_iT, k_iF, Bool.false_eq_true, eq_self, Nat.add_zero, k_lt', k_bs, k_T, k_F, k_inb, k_ck, k_nz, ↓kN, kL, k_lt, k_le, k_eq, kn_le, kn_lt, kn_eq, kn_le', kn_lt', kn_eq', nI_clamp, nI_add, k_sub, k_mul, k_div, rd_hi, rd_mi, rd_hl, rd_ml, rd_hr, rd_mr, rd_si2, rd_sl1, rd_sl2, rd_sr1, rd_sr2]
  rw [Nat.mul_comm fr 16]
theorem c_bind (hf : fr ≤ 1500) (hn : nm < 16) : fX2_bind (nI fr) (nI nm) v M = some ((), mv_si M 50 (16 * fr + nm) v) := by
  unfold fX2_bind
  rw [c_place hf hn, k_bs, if_neg (by decide)]
  simp (disch := omega) only [↓reduceIte, k_iT, k_iF, Bool.false_eq_true, eq_self, Nat.add_zero, k_lt', k_bs, k_T, k_F, k_inb, k_ck, k_nz, ↓kN, kL, k_lt, k_le, k_eq, kn_le, kn_lt, kn_eq, kn_le', kn_lt', kn_eq', nI_clamp, nI_add, k_sub, k_mul, k_div, rd_hi, rd_mi, rd_hl, rd_ml, rd_hr, rd_mr, rd_si2, rd_sl1, rd_sl2, rd_sr1, rd_sr2]
  rw [Nat.mul_comm fr 16]
theorem c_hasN (hN : M.1 b 8 = nI ND) (hc : c < ND) (hN2 : ND ≤ 1000) : fX4_hasNode b (nI c) M = some (1, M) := by
  unfold fX4_hasNode
  simp (disch := omega) only [↓reduceIte, hN, k_iT, k_iF, Bool.false_eq_true, eq_self, Nat.add_zero, k_lt', k_bs, k_T, k_F, k_inb, k_ck, k_nz, ↓kN, kL, k_lt, k_le, k_eq, kn_le, kn_lt, kn_eq, kn_le', kn_lt', kn_eq', nI_clamp, nI_add, k_sub, k_mul, k_div, rd_hi, rd_mi, rd_hl, rd_ml, rd_hr, rd_mr, rd_si2, rd_sl1, rd_sl2, rd_sr1, rd_sr2]
theorem c_new (hm : M.1 8 0 = nI m) (h1 : m < 1500) : fX7_add (nI c) (nI fr) M = some (nI m, nwC M m c fr) := by
  have v0 : vp_nar .boolean (nI 0) = nI 0 := vp0
  unfold fX7_add nwC
  simp (disch := omega) only [↓reduceIte, hm, v0, k_iT, k_iF, Bool.false_eq_true, eq_self, Nat.add_zero, k_lt', k_bs, k_T, k_F, k_inb, k_ck, k_nz, ↓kN, kL, k_lt, k_le, k_eq, kn_le, kn_lt, kn_eq, kn_le', kn_lt', kn_eq', nI_clamp, nI_add, k_sub, k_mul, k_div, rd_hi, rd_mi, rd_hl, rd_ml, rd_hr, rd_mr, rd_si2, rd_sl1, rd_sl2, rd_sr1, rd_sr2]
theorem c_thingN (hb : b = 9 ∨ b = 24) (h76 : M.2.2 7 6 = some b) (hN : M.1 b 8 = nI ND) (hc : c < ND) (hN2 : ND ≤ 1000) (e8 : M.1 (b + 8) c = nI s) (hs : s = 2) (e9 : M.1 (b + 9) c = nI nm) (hf : fr ≤ 1500) (hn : nm < 16) : fX2_thingFor (nI c) (nI fr) M = some (M.1 50 (16 * fr + nm), M) := by
  have gp : ∀ {γ : Type} (K : Nat → Option γ), mv_getp (some b) K = K b := fun K => gp_b hb
  subst hs
  unfold fX2_thingFor
  rw [h76, gp, c_hasN hN hc hN2, k_bs, if_neg (by decide), h76, gp]
  simp (disch := omega) only [↓reduceIte, e8, gp, e9, c_thingOf hf hn, k_iT, k_iF, Bool.false_eq_true, eq_self, Nat.add_zero, k_lt', k_bs, k_T, k_F, k_inb, k_ck, k_nz, ↓kN, kL, k_lt, k_le, k_eq, kn_le, kn_lt, kn_eq, kn_le', kn_lt', kn_eq', nI_clamp, nI_add, k_sub, k_mul, k_div, rd_hi, rd_mi, rd_hl, rd_ml, rd_hr, rd_mr, rd_si2, rd_sl1, rd_sl2, rd_sr1, rd_sr2]
theorem c_thingX (hb : b = 9 ∨ b = 24) (h76 : M.2.2 7 6 = some b) (hN : M.1 b 8 = nI ND) (hc : c < ND) (hN2 : ND ≤ 1000) (e8 : M.1 (b + 8) c = nI s) (hs : s ≠ 2) (hs2 : s < 400) (hm : M.1 8 0 = nI m) (h1 : m < 1500) : fX2_thingFor (nI c) (nI fr) M = some (nI m, nwC M m c fr) := by
  have gp : ∀ {γ : Type} (K : Nat → Option γ), mv_getp (some b) K = K b := fun K => gp_b hb
  unfold fX2_thingFor fX2_thingFor_39
  rw [h76, gp, c_hasN hN hc hN2, k_bs, if_neg (by decide), h76, gp]
  simp (disch := omega) only [↓reduceIte, e8, c_new hm h1, k_iT, k_iF, Bool.false_eq_true, eq_self, Nat.add_zero, k_lt', k_bs, k_T, k_F, k_inb, k_ck, k_nz, ↓kN, kL, k_lt, k_le, k_eq, kn_le, kn_lt, kn_eq, kn_le', kn_lt', kn_eq', nI_clamp, nI_add, k_sub, k_mul, k_div, rd_hi, rd_mi, rd_hl, rd_ml, rd_hr, rd_mr, rd_si2, rd_sl1, rd_sl2, rd_sr1, rd_sr2]
theorem c_thingF (hb : b = 9 ∨ b = 24) (h76 : M.2.2 7 6 = some b) (hN : M.1 b 8 = nI ND) (hc : c < ND) (hN2 : ND ≤ 1000) (e8 : M.1 (b + 8) c = nI s) (hs : s ≠ 2) (hs2 : s < 400) (hm : M.1 8 0 = nI 1500) : fX2_thingFor (nI c) (nI fr) M = some (nN, mv_si M 7 2 (nI 5)) := by
  have gp : ∀ {γ : Type} (K : Nat → Option γ), mv_getp (some b) K = K b := fun K => gp_b hb
  unfold fX2_thingFor fX2_thingFor_39 fX7_add
  rw [h76, gp, c_hasN hN hc hN2, k_bs, if_neg (by decide), h76, gp]
  simp (disch := omega) only [↓reduceIte, e8, hm, k_iT, k_iF, Bool.false_eq_true, eq_self, Nat.add_zero, k_lt', k_bs, k_T, k_F, k_inb, k_ck, k_nz, ↓kN, kL, k_lt, k_le, k_eq, kn_le, kn_lt, kn_eq, kn_le', kn_lt', kn_eq', nI_clamp, nI_add, k_sub, k_mul, k_div, rd_hi, rd_mi, rd_hl, rd_ml, rd_hr, rd_mr, rd_si2, rd_sl1, rd_sl2, rd_sr1, rd_sr2]
theorem r_thingN (e74 : N.1 62 74 = nI 0) (hy : y < 2002) (e71 : N.1 71 y = nI 7) (e72 : N.1 72 y = nI nm) (hf : fr ≤ 1500) (hn : nm < 16) : fX11_thing (nI y) (nI fr) N = some (N.1 103 (16 * fr + nm), N) := by
  unfold fX11_thing
  simp (disch := omega) only [↓reduceIte, e74, e71, e72, k_iT, k_iF, Bool.false_eq_true, eq_self, Nat.add_zero, k_lt', k_bs, k_T, k_F, k_inb, k_ck, k_nz, ↓kN, kL, k_lt, k_le, k_eq, kn_le, kn_lt, kn_eq, kn_le', kn_lt', kn_eq', nI_clamp, nI_add, k_sub, k_mul, k_div, rd_hi, rd_mi, rd_hl, rd_ml, rd_hr, rd_mr, rd_si2, rd_sl1, rd_sl2, rd_sr1, rd_sr2]
theorem r_thingX (e74 : N.1 62 74 = nI 0) (hy : y < 2002) (e71 : N.1 71 y = nI s) (hs : s ≠ 7) (hs2 : s < 20) (hm : N.1 62 67 = nI m) (h1 : m < 1500) : fX11_thing (nI y) (nI fr) N = some (nI (40 + m), nwR N m y fr) := by
  have v0 : vp_nar .boolean (nI 0) = nI 0 := vp0
  unfold fX11_thing nwR
  simp (disch := omega) only [↓reduceIte, e74, e71, hm, v0, k_iT, k_iF, Bool.false_eq_true, eq_self, Nat.add_zero, k_lt', k_bs, k_T, k_F, k_inb, k_ck, k_nz, ↓kN, kL, k_lt, k_le, k_eq, kn_le, kn_lt, kn_eq, kn_le', kn_lt', kn_eq', nI_clamp, nI_add, k_sub, k_mul, k_div, rd_hi, rd_mi, rd_hl, rd_ml, rd_hr, rd_mr, rd_si2, rd_sl1, rd_sl2, rd_sr1, rd_sr2]
theorem r_thingF (e74 : N.1 62 74 = nI 0) (hy : y < 2002) (e71 : N.1 71 y = nI s) (hs : s ≠ 7) (hs2 : s < 20) (hm : N.1 62 67 = nI 1500) : fX11_thing (nI y) (nI fr) N = some (nI 0, mv_si N 62 74 (nI 5)) := by
  unfold fX11_thing
  simp (disch := omega) only [↓reduceIte, e74, e71, hm, k_iT, k_iF, Bool.false_eq_true, eq_self, Nat.add_zero, k_lt', k_bs, k_T, k_F, k_inb, k_ck, k_nz, ↓kN, kL, k_lt, k_le, k_eq, kn_le, kn_lt, kn_eq, kn_le', kn_lt', kn_eq', nI_clamp, nI_add, k_sub, k_mul, k_div, rd_hi, rd_mi, rd_hl, rd_ml, rd_hr, rd_mr, rd_si2, rd_sl1, rd_sl2, rd_sr1, rd_sr2]
theorem rk_7 (hs : s ≠ 2) : rk s ≠ 7 ∧ rk s < 20 := by
  unfold rk
  repeat' split
  all_goals omega
theorem SQ_node (hP : Pg b h P F ND M N) (hC : Cr P F it n m pr cl ff M N) (hx : xX P F it n m cl ff M N x fr) : (x < ND ∧ ND ≤ 1000 ∧ P 7 x ≤ x ∧ P 5 x ≤ 4 ∧ fr ≤ 1500 ∧ P 6 x < 2002) ∧ pN P F (ff fr) x ∧ pD P (ff fr) x ∧ mN b h P x M N ∧ (∀ k, P 7 x ≤ k → k ≤ x → P 7 x ≤ P 7 k) := by
  obtain ⟨hW, hs, hR, h76⟩ := hP
  obtain ⟨x1, x2, x3, x4, x5⟩ := hx
  have w := hW.2.2.2 _ x2
  have w2 := w.2.2.2.2.2.1
  obtain ⟨v1, v2, v3, v4, v5, v6⟩ := w.2.2.2.2.2.2.2.2.2 x x3 x4
  have mm := (hR.2.2.2.2.2 _ x2).2.2.2 x x3 x4
  have := hC.1
  exact ⟨⟨by omega, hW.2.2.1, v4, v1, by omega, mm.2.2.1⟩, v6, hs _ x2 x x3 x4, mm, v5⟩
/-- a thing for expression c, on both sides -/
theorem j_thing (hS : SQ b h P F ND it n m pr cl ff pq cq st mx dp dd t kp M N) (hx : xX P F it n m cl ff M N c fr) (ho : ∀ i, P 7 c ≤ i → i ≤ c → ¬ Ow P m M fr i) :
    (∃ k M' N' m', fX2_thingFor (nI c) (nI fr) M = some (nI k, M') ∧ fX11_thing (nI (P 6 c)) (nI fr) N = some (nI (fi k), N') ∧ SQ b h P F ND it n m' pr cl ff pq cq st mx dp dd t kp M' N' ∧ Ex P it n (fun f i => f = fr ∧ P 7 c ≤ i ∧ i ≤ c) m pr cl ff M N m' pr cl ff M' N' ∧ gF M N M' N' ∧ oT P it n m' M' k (P 5 c) ∧ (∀ a p, ¬ (a = 8 ∧ p = 0) → ¬ (55 ≤ a ∧ a ≤ 59 ∧ p = m) → M'.1 a p = M.1 a p) ∧ ∀ a p, ¬ (a = 62 ∧ p = 67) → ¬ (95 ≤ a ∧ a ≤ 100 ∧ p = 40 + m) → N'.1 a p = N.1 a p)
    ∨ (m = 1500 ∧ fX2_thingFor (nI c) (nI fr) M = some (nN, mv_si M 7 2 (nI 5)) ∧ fX11_thing (nI (P 6 c)) (nI fr) N = some (nI 0, mv_si N 62 74 (nI 5))) := by
  obtain ⟨⟨x1, x2, x3, x4, x5, x6⟩, q1, q2, q3, q4⟩ := SQ_node hS.1 hS.2.1 hx
  have hb := hS.1.2.2.1.1
  have h76 := hS.1.2.2.2
  have hN8 := hS.1.2.2.1.2.2.2.1
  have hW := hS.1.1
  obtain ⟨⟨m1, m2⟩, ⟨m3, m4⟩, m5, m6⟩ := hS.2.2.1
  have e74 := hS.2.2.2.2.2.2.2.2.1.2
  have hkd : P 0 c < 400 := by
    unfold pN sgK at q1
    omega
  by_cases hk : P 0 c = 2
  · obtain ⟨n1, n2, n3⟩ := pN_name q1 hk
    have h16 := (hW.2.2.2 _ hx.2.1).2.2.1
    have hB := hx.2.2.2.2 c x3 (Nat.le_refl _) hk (by rcases n3 with z | z; exact .inl z; exact .inr z.2.2.2.2)
    obtain ⟨hnm, k, k1, k2, k3⟩ := hB
    obtain ⟨y1, y2⟩ := q3.2.2.2.2.2.2.1 hk
    refine .inl ⟨k, M, N, m, ?_, ?_, hS, Ex_rf, gF_rf, by rw [← n2]; exact k3, fun _ _ _ _ => rfl, fun _ _ _ _ => rfl⟩
    · rw [c_thingN hb h76 hN8 x1 x2 q3.1 hk y1 x5 hnm, k1]
    · rw [r_thingN e74 x6 (by rw [q3.2.2.2.1, hk]; rfl) y2 x5 hnm, k2]
  · obtain ⟨z1, z2⟩ := rk_7 hk
    have hm := hS.2.1.1.1
    by_cases hm5 : m = 1500
    · subst hm5
      exact .inr ⟨rfl, c_thingF hb h76 hN8 x1 x2 q3.1 hk hkd m1, r_thingF e74 x6 q3.2.2.2.1 z1 z2 m2⟩
    · have eM : ∀ a p, ¬ (a = 8 ∧ p = 0) → ¬ (55 ≤ a ∧ a ≤ 59 ∧ p = m) → (nwC M m c fr).1 a p = M.1 a p := fun a p u1 u2 => by unfold nwC; simp (disch := omega) only [rd_hi, rd_mi, rd_hl, rd_ml, rd_hr, rd_mr, rd_si2, rd_sl1, rd_sl2, rd_sr1, rd_sr2]
      have eN : ∀ a p, ¬ (a = 62 ∧ p = 67) → ¬ (95 ≤ a ∧ a ≤ 100 ∧ p = 40 + m) → (nwR N m (P 6 c) fr).1 a p = N.1 a p := fun a p u1 u2 => by unfold nwR; simp (disch := omega) only [rd_hi, rd_mi, rd_hl, rd_ml, rd_hr, rd_mr, rd_si2, rd_sl1, rd_sl2, rd_sr1, rd_sr2]
      have g : gF M N (nwC M m c fr) (nwR N m (P 6 c) fr) := ⟨⟨rfl, fun a p u => eM a p (by unfold cAr at u; omega) (by unfold cAr at u; omega)⟩, rfl, fun a p u => eN a p (by unfold rAr at u; omega) (by unfold rAr at u; omega)⟩
      obtain ⟨r1, r2, r3⟩ := Cr_new (M' := nwC M m c fr) (N' := nwR N m (P 6 c) fr) hW hS.2.1 (by omega) hx ho (by unfold nwC; simp (disch := omega) only [rd_hi, rd_mi, rd_hl, rd_ml, rd_hr, rd_mr, rd_si2, rd_sl1, rd_sl2, rd_sr1, rd_sr2]) (by unfold nwC; simp (disch := omega) only [rd_hi, rd_mi, rd_hl, rd_ml, rd_hr, rd_mr, rd_si2, rd_sl1, rd_sl2, rd_sr1, rd_sr2]) (by unfold nwC; simp (disch := omega) only [rd_hi, rd_mi, rd_hl, rd_ml, rd_hr, rd_mr, rd_si2, rd_sl1, rd_sl2, rd_sr1, rd_sr2]) (by unfold nwC nwR; simp (disch := omega) only [rd_hi, rd_mi, rd_hl, rd_ml, rd_hr, rd_mr, rd_si2, rd_sl1, rd_sl2, rd_sr1, rd_sr2]) (by unfold nwR; simp (disch := omega) only [rd_hi, rd_mi, rd_hl, rd_ml, rd_hr, rd_mr, rd_si2, rd_sl1, rd_sl2, rd_sr1, rd_sr2]) (by unfold nwR; simp (disch := omega) only [rd_hi, rd_mi, rd_hl, rd_ml, rd_hr, rd_mr, rd_si2, rd_sl1, rd_sl2, rd_sr1, rd_sr2]) (by unfold nwR; simp (disch := omega) only [rd_hi, rd_mi, rd_hl, rd_ml, rd_hr, rd_mr, rd_si2, rd_sl1, rd_sl2, rd_sr1, rd_sr2]) (fun a p u1 u2 => eM a p (by omega) u2) (fun a p u1 u2 => eN a p (by omega) u2)
      refine .inl ⟨m, _, _, m + 1, c_thingX hb h76 hN8 x1 x2 q3.1 hk hkd m1 (by omega), by rw [fi_lt (by omega)]; exact r_thingX e74 x6 q3.2.2.2.1 z1 z2 m2 (by omega), ⟨Pg_F hS.1 g, r1, ⟨⟨by unfold nwC; simp (disch := omega) only [rd_hi, rd_mi, rd_hl, rd_ml, rd_hr, rd_mr, rd_si2, rd_sl1, rd_sl2, rd_sr1, rd_sr2], by unfold nwR; simp (disch := omega) only [rd_hi, rd_mi, rd_hl, rd_ml, rd_hr, rd_mr, rd_si2, rd_sl1, rd_sl2, rd_sr1, rd_sr2]⟩, ⟨(eM _ _ (by omega) (by omega)).trans m3, (eN _ _ (by omega) (by omega)).trans m4⟩, (eM _ _ (by omega) (by omega)).trans m5, (eN _ _ (by omega) (by omega)).trans m6⟩, ?_⟩, r2, g, r3, eM, eN⟩
      obtain ⟨c1, ⟨c7, c8⟩, ⟨c9, cA⟩, ⟨cB, cC⟩, ⟨cD, cE⟩, ⟨cF, cG⟩, cH, cI⟩ := hS.2.2.2
      exact ⟨c1, ⟨(eM _ _ (by omega) (by omega)).trans c7, (eN _ _ (by omega) (by omega)).trans c8⟩, ⟨(eM _ _ (by omega) (by omega)).trans c9, (eN _ _ (by omega) (by omega)).trans cA⟩, ⟨(eM _ _ (by omega) (by omega)).trans cB, (eN _ _ (by omega) (by omega)).trans cC⟩, ⟨(eM _ _ (by omega) (by omega)).trans cD, (eN _ _ (by omega) (by omega)).trans cE⟩, ⟨(eM _ _ (by omega) (by omega)).trans cF, (eN _ _ (by omega) (by omega)).trans cG⟩, (eN _ _ (by omega) (by omega)).trans cH, (eN _ _ (by omega) (by omega)).trans cI⟩
end RA1
