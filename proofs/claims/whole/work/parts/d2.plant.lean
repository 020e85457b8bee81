/-! PLANT of both sides -/
section DP
variable {b h F ND f q n k d v : Nat} {M N : mv_M} {P : Nat → Nat → Nat} {R : Nat → Nat → Option (Nat → Nat)}
def plR (P : Nat → Nat → Nat) (R : Nat → Nat → Option (Nat → Nat)) (q d k v : Nat) : Nat → Nat → Option (Nat → Nat) := upR R q d (some (fun m => if m = k then v else rv P R q d m))
theorem i_nty (hW : WFp P F ND) (hp : PR b h P F ND M N) (hq : q < F) (hk : k < P 9 q) : fX4_nameType b (nI q) (nI k) M = some (nI (P 13 (16 * q + k)), M) ∧ P 13 (16 * q + k) ≤ 4 := by
  have e := hp.2.2.1
  have hF := hW.2.1
  have e2 := (hp.2.2.2.2.2 q hq).1.2.1
  have wf := hW.2.2.2 q hq
  have h2 := wf.2.2.1
  have h1 := wf.2.1
  have h4 := wf.2.2.2.2.2.2.2.1 k hk
  have h3 := ((hp.2.2.2.2.2 q hq).2.2.1 k (by omega) h4).1
  refine ⟨?_, h4⟩
  unfold fX4_nameType fX4_hasName fX4_hasFunction
  simp (disch := omega) only [e, e2, h3, k_iT, k_iF, Bool.false_eq_true, eq_self, Nat.add_zero, k_lt', k_bs, k_T, k_F, k_inb, k_ck, k_nz, ↓kN, kL, k_lt, k_le, k_eq, kn_le, kn_lt, kn_eq, kn_le', kn_lt', kn_eq', nI_clamp, nI_add, k_sub, k_mul, k_div, rd_hi, rd_mi, rd_hl, rd_ml, rd_hr, rd_mr, rd_si2, rd_sl1, rd_sl2, rd_sr1, rd_sr2]
theorem pl_ok (hW : WFp P F ND) (hR : rOK P F R) (hq : q < F) (h0 : 0 < d) (hd : d < dem (P 11 q)) (hv : v < dem (P 13 (16 * q + k))) : rOK P F (plR P R q d k v) := by
  intro p hp e e0 e1 r hr m hm
  unfold plR upR at hr
  by_cases z : p = q ∧ e = d
  · rw [if_pos z] at hr
    obtain ⟨rfl, rfl⟩ := z
    cases hr
    show (if m = k then v else rv P R p e m) < _
    by_cases y : m = k
    · rw [if_pos y, y]; exact hv
    · rw [if_neg y]; exact rv_ok hW hR hq h0 hd hm
  · rw [if_neg z] at hr
    exact hR p hp e e0 e1 r hr m hm
theorem c_put (hs : cT b h P F ND R N M) (hq : q < F) (h0 : 0 < d) (hd : d < dem (P 11 q)) (hk : k < P 9 q) (hv : v < dem (P 13 (16 * q + k))) : ∃ M', fX5_put (nI q) (nI d) (nI k) (nI v) M = some ((), M') ∧ cT b h P F ND (plR P R q d k v) N M' := by
  have hF := hs.1.2.1
  have hd' := dem_le (t := P 11 q)
  have hp := (hs.1.2.2.2 q hq).1
  have hb := hs.2.2.1.1
  have e : q * 26 + d = 26 * q + d := by omega
  have v0 : vp_nar .boolean (nI 0) = nI 0 := vp0
  refine ⟨mv_si (mv_si M 44 ((26 * q + d) * 4 + k) (nI v)) 45 (26 * q + d) (nI 0), ?_, hs.1, pl_ok hs.1 hs.2.1 hq h0 hd hv, PR_F hs.2.2.1 (fun c k u1 u2 => by simp (disch := omega) only [rd_hi, rd_mi, rd_hl, rd_ml, rd_hr, rd_mr, rd_si2, rd_sl1, rd_sl2, rd_sr1, rd_sr2]) (fun _ _ _ _ => rfl), by simp (disch := omega) only [rd_hi, rd_mi, rd_hl, rd_ml, rd_hr, rd_mr, rd_si2, rd_sl1, rd_sl2, rd_sr1, rd_sr2]; exact hs.2.2.2.1, ?_⟩
  · unfold fX5_put fX5_rowOf
    simp (disch := omega) only [e, v0, k_iT, k_iF, Bool.false_eq_true, eq_self, Nat.add_zero, k_lt', k_bs, k_T, k_F, k_inb, k_ck, k_nz, ↓kN, kL, k_lt, k_le, k_eq, kn_le, kn_lt, kn_eq, kn_le', kn_lt', kn_eq', nI_clamp, nI_add, k_sub, k_mul, k_div, rd_hi, rd_mi, rd_hl, rd_ml, rd_hr, rd_mr, rd_si2, rd_sl1, rd_sl2, rd_sr1, rd_sr2]
  · intro p hp' e' e0 e1
    have he := dem_le (t := P 11 p)
    have hpp := (hs.1.2.2.2 p hp').1
    unfold plR upR
    by_cases z : p = q ∧ e' = d
    · rw [if_pos z]
      obtain ⟨rfl, rfl⟩ := z
      refine ⟨fun y => (by cases y), fun r y => ⟨by simp (disch := omega) only [rd_hi, rd_mi, rd_hl, rd_ml, rd_hr, rd_mr, rd_si2, rd_sl1, rd_sl2, rd_sr1, rd_sr2], fun m hm => ?_⟩⟩
      cases y
      show _ = nI (if m = k then v else rv P R p e' m)
      by_cases y : m = k
      · subst y
        rw [if_pos rfl]; simp (disch := omega) only [rd_hi, rd_mi, rd_hl, rd_ml, rd_hr, rd_mr, rd_si2, rd_sl1, rd_sl2, rd_sr1, rd_sr2]
      · rw [if_neg y, rd_mi (by omega), rd_mi (by omega)]
        exact (c_dm hs hq h0 hd hm).2
    · rw [if_neg z]
      obtain ⟨r1, r2⟩ := hs.2.2.2.2 p hp' e' e0 e1
      refine ⟨fun y => ⟨?_, fun m hm => ?_⟩, fun r y => ⟨?_, fun m hm => ?_⟩⟩
      · rw [rd_mi (by omega), rd_mi (by omega)]; exact (r1 y).1
      · rw [rd_mi (by omega), rd_mi (by omega)]; exact (r1 y).2 m hm
      · rw [rd_mi (by omega), rd_mi (by omega)]; exact (r2 r y).1
      · rw [rd_mi (by omega), rd_mi (by omega)]; exact (r2 r y).2 m hm
theorem pl_st (hr : rT b h P F ND R M N) (hq : q < F) (h0 : 0 < d) (hd : d < dem (P 11 q)) {i : Nat} (hi : i ≤ P 9 q) : rT b h P F ND R M (pB 90 N (4 * (26 * q + d)) i (rv P R q d)) := by
  have hd' := dem_le (t := P 11 q)
  have hp := (hr.1.2.2.2 q hq).1
  refine ⟨hr.1, hr.2.1, PR_F hr.2.2.1 (fun _ _ _ _ => rfl) (fun c k u1 u2 => pB_out (by omega)), by rw [pB_out (by omega)]; exact hr.2.2.2.1, fun p hp' e e0 e1 => ?_⟩
  have he := dem_le (t := P 11 p)
  have hpp := (hr.1.2.2.2 p hp').1
  obtain ⟨r1, r2⟩ := hr.2.2.2.2 p hp' e e0 e1
  refine ⟨fun y => by rw [pB_out (by omega)]; exact r1 y, fun r y => ⟨by rw [pB_out (by omega)]; exact (r2 r y).1, fun m hm => ?_⟩⟩
  by_cases z : p = q ∧ e = d
  · obtain ⟨rfl, rfl⟩ := z
    by_cases mi : m < i
    · rw [pB_in mi]
      unfold rv
      rw [y]
    · rw [pB_out (by omega)]; exact (r2 r y).2 m hm
  · rw [pB_out (by omega)]; exact (r2 r y).2 m hm
theorem r_88 (hr : rT b h P F ND R M N) (hq : q < F) (h0 : 0 < d) (hd : d < dem (P 11 q)) (hk : k < P 9 q) (hv : v < dem (P 13 (16 * q + k))) {x6 : Int32} : ∃ N', fX11_plant_88 (nI q) (nI d) (nI k) (nI v) (nI (26 * q + d)) x6 (nI 0) N = some (x6, N') ∧ rT b h P F ND (plR P R q d k v) M N' ∧ N'.1 62 0 = N.1 62 0 := by
  have hF := hr.1.2.1
  have hh := hr.2.2.1.2.1
  have hd' := dem_le (t := P 11 q)
  have hp := (hr.1.2.2.2 q hq).1
  have v0 : vp_nar .boolean (nI 0) = nI 0 := vp0
  have key : ∀ j i, i + j = P 9 q → fX11_plant_88 (nI q) (nI d) (nI k) (nI v) (nI (26 * q + d)) x6 (nI i) (pB 90 N (4 * (26 * q + d)) i (rv P R q d)) = some (x6, mv_si (mv_si (pB 90 N (4 * (26 * q + d)) (P 9 q) (rv P R q d)) 91 (26 * q + d) (nI 0)) 90 (4 * (26 * q + d) + k) (nI v)) := by
    intro j
    induction j with
    | zero =>
      intro i hi
      have s := pl_st hr hq h0 hd (i := i) (by omega)
      have e47 := s.2.2.2.1
      have e66 := (s.2.2.1.2.2.2.2.2 q hq).2.1.1
      obtain rfl : i = P 9 q := by omega
      unfold fX11_plant_88
      refine lp_out ?_
      unfold gX11_plant_88
      simp (disch := omega) only [e47, e66, v0, k_iT, k_iF, Bool.false_eq_true, eq_self, Nat.add_zero, k_lt', k_bs, k_T, k_F, k_inb, k_ck, k_nz, ↓kN, kL, k_lt, k_le, k_eq, kn_le, kn_lt, kn_eq, kn_le', kn_lt', kn_eq', nI_clamp, nI_add, k_sub, k_mul, k_div, rd_hi, rd_mi, rd_hl, rd_ml, rd_hr, rd_mr, rd_si2, rd_sl1, rd_sl2, rd_sr1, rd_sr2]
    | succ j ih =>
      intro i hi
      have s := pl_st hr hq h0 hd (i := i) (by omega)
      have e47 := s.2.2.2.1
      have e66 := (s.2.2.1.2.2.2.2.2 q hq).2.1.1
      have H := r_hs s hq h0 hd (show i < P 9 q by omega)
      have h1 := ih (i + 1) (by omega)
      unfold fX11_plant_88 at h1 ⊢
      refine Eq.trans (lp_go (s' := (nI q, nI d, nI k, nI v, nI (26 * q + d), x6, nI (i + 1))) (M' := pB 90 N (4 * (26 * q + d)) (i + 1) (rv P R q d)) ?_) h1
      unfold gX11_plant_88
      rw [← pB_s]
      simp (disch := omega) only [e47, e66, H, k_iT, k_iF, Bool.false_eq_true, eq_self, Nat.add_zero, k_lt', k_bs, k_T, k_F, k_inb, k_ck, k_nz, ↓kN, kL, k_lt, k_le, k_eq, kn_le, kn_lt, kn_eq, kn_le', kn_lt', kn_eq', nI_clamp, nI_add, k_sub, k_mul, k_div, rd_hi, rd_mi, rd_hl, rd_ml, rd_hr, rd_mr, rd_si2, rd_sl1, rd_sl2, rd_sr1, rd_sr2]
  have E := key (P 9 q) 0 (by omega)
  rw [pB_0] at E
  have s := pl_st hr hq h0 hd (i := P 9 q) (Nat.le_refl _)
  refine ⟨_, E, ⟨hr.1, pl_ok hr.1 hr.2.1 hq h0 hd hv, PR_F s.2.2.1 (fun _ _ _ _ => rfl) (fun c k u1 u2 => by simp (disch := omega) only [rd_hi, rd_mi, rd_hl, rd_ml, rd_hr, rd_mr, rd_si2, rd_sl1, rd_sl2, rd_sr1, rd_sr2]), by simp (disch := omega) only [rd_hi, rd_mi, rd_hl, rd_ml, rd_hr, rd_mr, rd_si2, rd_sl1, rd_sl2, rd_sr1, rd_sr2]; exact s.2.2.2.1, ?_⟩, by rw [rd_mi (by omega), rd_mi (by omega), pB_out (by omega)]⟩
  intro p hp' e' e0 e1
  have he := dem_le (t := P 11 p)
  have hpp := (hr.1.2.2.2 p hp').1
  unfold plR upR
  by_cases z : p = q ∧ e' = d
  · rw [if_pos z]
    obtain ⟨rfl, rfl⟩ := z
    refine ⟨fun y => (by cases y), fun r y => ⟨by simp (disch := omega) only [rd_hi, rd_mi, rd_hl, rd_ml, rd_hr, rd_mr, rd_si2, rd_sl1, rd_sl2, rd_sr1, rd_sr2], fun m hm => ?_⟩⟩
    cases y
    show _ = nI (if m = k then v else rv P R p e' m)
    by_cases y : m = k
    · subst y
      rw [if_pos rfl]; simp (disch := omega) only [rd_hi, rd_mi, rd_hl, rd_ml, rd_hr, rd_mr, rd_si2, rd_sl1, rd_sl2, rd_sr1, rd_sr2]
    · rw [if_neg y, rd_mi (by omega), rd_mi (by omega), pB_in hm]
  · rw [if_neg z]
    obtain ⟨r1, r2⟩ := s.2.2.2.2 p hp' e' e0 e1
    refine ⟨fun y => ?_, fun r y => ⟨?_, fun m hm => ?_⟩⟩
    · rw [rd_mi (by omega), rd_mi (by omega)]; exact r1 y
    · rw [rd_mi (by omega), rd_mi (by omega)]; exact (r2 r y).1
    · rw [rd_mi (by omega), rd_mi (by omega)]; exact (r2 r y).2 m hm
theorem j_plant (hs : cT b h P F ND R N M) (hr : rT b h P F ND R M N) (e07 : M.2.2 0 7 = some b) (e50 : M.1 5 0 = nI 1) (e45 : N.1 62 45 ≠ 0) (e46 : N.1 62 46 = nI 1) (a a1 a2 a3 : Int32) : (∃ R' v M' N', rOK P F R' ∧ fX10_plant a a1 a2 a3 M = some (.inl v, M') ∧ fX11_plant a a1 a2 a3 N = some (v, N') ∧ N'.1 62 0 = nI 0 ∧ cT b h P F ND R' N M' ∧ rT b h P F ND R' M N') ∨ (fX10_plant a a1 a2 a3 M = some (.inr "java/lang/IndexOutOfBoundsException", M) ∧ fX11_plant a a1 a2 a3 N = some (nI 0, mv_si N 62 0 (nI 2))) ∨ (fX10_plant a a1 a2 a3 M = some (.inr "java/lang/IllegalArgumentException", M) ∧ fX11_plant a a1 a2 a3 N = some (nI 0, mv_si N 62 0 (nI 3))) := by
  have hF := hs.1.2.1
  have hb := hs.2.2.1.1
  have rq : fX10_requireRows M = some (.inl (), M) := by
    unfold fX10_requireRows
    simp (disch := omega) only [e50, k_iT, k_iF, Bool.false_eq_true, eq_self, Nat.add_zero, k_lt', k_bs, k_T, k_F, k_inb, k_ck, k_nz, ↓kN, kL, k_lt, k_le, k_eq, kn_le, kn_lt, kn_eq, kn_le', kn_lt', kn_eq', nI_clamp, nI_add, k_sub, k_mul, k_div, rd_hi, rd_mi, rd_hl, rd_ml, rd_hr, rd_mr, rd_si2, rd_sl1, rd_sl2, rd_sr1, rd_sr2]
  rcases i_row hs.1 hr.2.2.1 e45 hr.2.2.2.1 e07 a a1 with ⟨q, d, hq, h0, hd, rfl, rfl, f1, f2⟩ | ⟨f1, f2⟩
  · rcases i_par hs.1 hr.2.2.1 e45 hr.2.2.2.1 e07 (nI q) a2 with ⟨q', k, hq', hk, eq, rfl, p1, _, p2⟩ | ⟨p1, _, p2⟩
    · rw [k_eq (by omega) (by omega)] at eq
      subst eq
      have E := (c_dm hs hq h0 hd hk).1
      have s0 := rT_si (p := 0) (v := nI 0) hr (by omega)
      have H := r_hs s0 hq h0 hd hk
      obtain ⟨nt, t4⟩ := i_nty hs.1 hs.2.2.1 hq hk
      have dm := (cl_dem (t := P 13 (16 * q + k)) (M := M) (by omega)).1
      have al := (r_all hr hq hk).1
      have dp := dem_pos (t := P 13 (16 * q + k))
      have d26 := dem_le (t := P 13 (16 * q + k))
      have hdm := dem_le (t := P 11 q)
      have wi := i_wi (M := N) a3 0 (nI (dem (P 13 (16 * q + k)) - 1))
      rw [show (0 : Int32).toInt64 = 0 from rfl] at wi
      have C : fX10_plant (nI q) (nI d) (nI k) a3 M = (if a3 < 0 then fX10_plant_38 M else if a3 < nI (dem (P 13 (16 * q + k))) then mv_bind (fX5_put (nI q) (nI d) (nI k) a3 M) (fun _ M11 => some (.inl (nI (rv P R q d k)), M11)) else fX10_plant_38 M) := by
        unfold fX10_plant
        rw [rq, bx_l, f2, bx_l, p2, bx_l, g07 hb e07, nt, k_bs, dm, k_bs, E, k_bs]
      rcases i_cs a3 (show dem (P 13 (16 * q + k)) < 2 ^ 31 by omega) with ⟨v, hv, rfl⟩ | c | ⟨c1, c2⟩
      · obtain ⟨M', EM, sM⟩ := c_put hs hq h0 hd hk hv
        obtain ⟨N', EN, sN, eN⟩ := r_88 (x6 := nI (rv P R q d k)) s0 hq h0 hd hk hv
        have w := wi.1 ⟨by rw [show (0 : Int32) = nI 0 from rfl, k_le (by omega) (by omega)]; omega, by rw [k_le (by omega) (by omega)]; omega⟩
        rw [kL] at w
        refine .inl ⟨_, nI (rv P R q d k), M', N', pl_ok hs.1 hs.2.1 hq h0 hd hv, ?_, ?_, eN.trans (by simp (disch := omega) only [rd_hi, rd_mi, rd_hl, rd_ml, rd_hr, rd_mr, rd_si2, rd_sl1, rd_sl2, rd_sr1, rd_sr2]), sM, sN⟩
        · rw [C, if_neg (by rw [show (0 : Int32) = nI 0 from rfl, k_lt (by omega) (by omega)]; omega), if_pos (by rw [k_lt (by omega) (by omega)]; omega), EM]
          rfl
        · unfold fX11_plant fX11_plant_56
          simp (disch := omega) only [e46, f1, p1, al, w, H, k_iT, k_iF, Bool.false_eq_true, eq_self, Nat.add_zero, k_lt', k_bs, k_T, k_F, k_inb, k_ck, k_nz, ↓kN, kL, k_lt, k_le, k_eq, kn_le, kn_lt, kn_eq, kn_le', kn_lt', kn_eq', nI_clamp, nI_add, k_sub, k_mul, k_div, rd_hi, rd_mi, rd_hl, rd_ml, rd_hr, rd_mr, rd_si2, rd_sl1, rd_sl2, rd_sr1, rd_sr2]
          exact EN
      · have w := wi.2 (fun z => by
          have := z.1
          rw [le_toInt] at this
          rw [lt_toInt] at c
          omega)
        rw [kL] at w
        refine .inr (.inr ⟨?_, ?_⟩)
        · rw [C, if_pos c]; rfl
        · unfold fX11_plant fX11_plant_56
          simp (disch := omega) only [e46, f1, p1, al, w, k_iT, k_iF, Bool.false_eq_true, eq_self, Nat.add_zero, k_lt', k_bs, k_T, k_F, k_inb, k_ck, k_nz, ↓kN, kL, k_lt, k_le, k_eq, kn_le, kn_lt, kn_eq, kn_le', kn_lt', kn_eq', nI_clamp, nI_add, k_sub, k_mul, k_div, rd_hi, rd_mi, rd_hl, rd_ml, rd_hr, rd_mr, rd_si2, rd_sl1, rd_sl2, rd_sr1, rd_sr2]
      · have w := wi.2 (fun z => by
          have := z.2
          rw [le_toInt, nI_toInt (by omega)] at this
          rw [le_toInt, nI_toInt (by omega)] at c2
          omega)
        rw [kL] at w
        refine .inr (.inr ⟨?_, ?_⟩)
        · rw [C, if_neg c1, if_neg (fun z => by
            rw [lt_toInt] at z
            rw [le_toInt] at c2
            omega)]; rfl
        · unfold fX11_plant fX11_plant_56
          simp (disch := omega) only [e46, f1, p1, al, w, k_iT, k_iF, Bool.false_eq_true, eq_self, Nat.add_zero, k_lt', k_bs, k_T, k_F, k_inb, k_ck, k_nz, ↓kN, kL, k_lt, k_le, k_eq, kn_le, kn_lt, kn_eq, kn_le', kn_lt', kn_eq', nI_clamp, nI_add, k_sub, k_mul, k_div, rd_hi, rd_mi, rd_hl, rd_ml, rd_hr, rd_mr, rd_si2, rd_sl1, rd_sl2, rd_sr1, rd_sr2]
    · refine .inr (.inl ⟨?_, ?_⟩)
      · unfold fX10_plant
        rw [rq, bx_l, f2, bx_l, p2]
        rfl
      · unfold fX11_plant fX11_plant_30 fX11_plant_56
        simp (disch := omega) only [e46, f1, p1, k_iT, k_iF, Bool.false_eq_true, eq_self, Nat.add_zero, k_lt', k_bs, k_T, k_F, k_inb, k_ck, k_nz, ↓kN, kL, k_lt, k_le, k_eq, kn_le, kn_lt, kn_eq, kn_le', kn_lt', kn_eq', nI_clamp, nI_add, k_sub, k_mul, k_div, rd_hi, rd_mi, rd_hl, rd_ml, rd_hr, rd_mr, rd_si2, rd_sl1, rd_sl2, rd_sr1, rd_sr2]
  · refine .inr (.inl ⟨?_, ?_⟩)
    · unfold fX10_plant
      rw [rq, bx_l, f2]
      rfl
    · unfold fX11_plant fX11_plant_30 fX11_plant_56
      simp (disch := omega) only [e46, f1, k_iT, k_iF, Bool.false_eq_true, eq_self, Nat.add_zero, k_lt', k_bs, k_T, k_F, k_inb, k_ck, k_nz, ↓kN, kL, k_lt, k_le, k_eq, kn_le, kn_lt, kn_eq, kn_le', kn_lt', kn_eq', nI_clamp, nI_add, k_sub, k_mul, k_div, rd_hi, rd_mi, rd_hl, rd_ml, rd_hr, rd_mr, rd_si2, rd_sl1, rd_sl2, rd_sr1, rd_sr2]
end DP
