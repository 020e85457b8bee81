/-! TYPES: the class's steps, also behind a fault -/
section TC
variable {α β : Type} {b h n cnt f i m nd nb pl F sc t c q k : Nat} {M M' M0 N N' N0 N1 N2 : mv_M} {T S : Nat → Nat}
theorem yD_W (a : yD b M0 f nb pl M) : yW b M0 M := a.1
theorem y_get {γ : Type} (hx : yX b M0 T n cnt F nd) (hW : yW b M0 M) (G : Nat → Option γ) : mv_getp (M.2.2 4 2) G = G b := by
  have hb := hx.1
  have hb2 : (decide (b = 9) || decide (b = 24)) = true := by simpa using hb
  rw [hW.2, hx.2.1]
  show mv_chk (decide (b = 9) || decide (b = 24)) (G b) = G b
  rw [hb2]; rfl
theorem yA_ne (hb : b = 9 ∨ b = 24) : ¬ yA b b 0 ∧ ¬ yA b b 8 ∧ (∀ k, ¬ yA b (b + 3) k) ∧ (∀ k, ¬ yA b (b + 2) k) ∧ (∀ k, ¬ yA b (b + 4) k) ∧ (∀ k, ¬ yA b (b + 8) k) ∧ (∀ k, ¬ yA b (b + 10) k) ∧ (∀ k, ¬ yA b (b + 11) k) ∧ (∀ k, ¬ yA b (b + 12) k) ∧ (∀ k, ¬ yA b (b + 14) k) := by
  unfold yA
  refine ⟨by omega, by omega, fun k => by omega, fun k => by omega, fun k => by omega, fun k => by omega, fun k => by omega, fun k => by omega, fun k => by omega, fun k => by omega⟩
theorem y_node (hx : yX b M0 T n cnt F nd) (hW : yW b M0 M) (hc : c < nd) : fX4_hasNode b (nI c) M = some (nI 1, M) := by
  have e : M.1 b 8 = nI nd := (hW.1 b 8 (yA_ne hx.1).2.1).trans hx.2.2.2.2.1.1
  have h2 := hx.2.2.2.2.1.2
  unfold fX4_hasNode
  simp (disch := omega) only [e, k_iT, k_iF, Bool.false_eq_true, eq_self, Nat.add_zero, k_lt', k_bs, k_T, k_F, k_inb, k_ck, k_nz, ↓kN, kL, k_lt, k_le, k_eq, kn_le, kn_lt, kn_eq, kn_le', kn_lt', kn_eq', nI_clamp, nI_add, k_sub, k_mul, k_div, rd_hi, rd_mi, rd_hl, rd_ml, rd_hr, rd_mr, rd_si2, rd_sl1, rd_sl2, rd_sr1, rd_sr2]
theorem y_hasNode (hx : yX b M0 T n cnt F nd) (hW : yW b M0 M) (x : Int32) : fX4_hasNode b x M = some (0, M) ∨ (fX4_hasNode b x M = some (1, M) ∧ mv_inb x 1000 = true) := by
  have e : M.1 b 8 = nI nd := (hW.1 b 8 (yA_ne hx.1).2.1).trans hx.2.2.2.2.1.1
  have h2 := hx.2.2.2.2.1.2
  unfold fX4_hasNode
  rw [e]
  by_cases h0 : x < 0
  · rw [if_pos h0]; exact .inl rfl
  · rw [if_neg h0]
    by_cases h1 : nI nd ≤ x
    · rw [if_pos h1]; exact .inl rfl
    · rw [if_neg h1]
      refine .inr ⟨rfl, ?_⟩
      rw [lt_toInt, show (0 : Int32).toInt = 0 from rfl] at h0
      rw [le_toInt, nI_toInt (by omega)] at h1
      unfold mv_inb
      simp only [Bool.and_eq_true, Bool.not_eq_true', decide_eq_false_iff_not, decide_eq_true_eq]
      refine ⟨by rw [lt_toInt, show (0 : Int32).toInt = 0 from rfl]; exact h0, ?_⟩
      have : x.toNatClampNeg = x.toInt.toNat := rfl
      omega
theorem y_hasName (hx : yX b M0 T n cnt F nd) (hW : yW b M0 M) (hq : q < F) (hm : M0.1 (b + 3) q = nI m) (hm2 : m ≤ 16) (hk : k < 2 ^ 31) : fX4_hasName b (nI q) (nI k) M = some (nI (if k < m then 1 else 0), M) := by
  have e : M.1 b 0 = nI F := (hW.1 b 0 (yA_ne hx.1).1).trans hx.2.2.2.1.1
  have e2 : M.1 (b + 3) q = nI m := (hW.1 _ _ ((yA_ne hx.1).2.2.1 _)).trans hm
  have h2 := hx.2.2.2.1.2
  unfold fX4_hasName fX4_hasFunction
  by_cases hkm : k < m
  · rw [if_pos hkm]
    simp (disch := omega) only [e, e2, k_iT, k_iF, Bool.false_eq_true, eq_self, Nat.add_zero, k_lt', k_bs, k_T, k_F, k_inb, k_ck, k_nz, ↓kN, kL, k_lt, k_le, k_eq, kn_le, kn_lt, kn_eq, kn_le', kn_lt', kn_eq', nI_clamp, nI_add, k_sub, k_mul, k_div, rd_hi, rd_mi, rd_hl, rd_ml, rd_hr, rd_mr, rd_si2, rd_sl1, rd_sl2, rd_sr1, rd_sr2]
  · rw [if_neg hkm]
    simp (disch := omega) only [e, e2, k_iT, k_iF, Bool.false_eq_true, eq_self, Nat.add_zero, k_lt', k_bs, k_T, k_F, k_inb, k_ck, k_nz, ↓kN, kL, k_lt, k_le, k_eq, kn_le, kn_lt, kn_eq, kn_le', kn_lt', kn_eq', nI_clamp, nI_add, k_sub, k_mul, k_div, rd_hi, rd_mi, rd_hl, rd_ml, rd_hr, rd_mr, rd_si2, rd_sl1, rd_sl2, rd_sr1, rd_sr2]
theorem y_nameType (hx : yX b M0 T n cnt F nd) (hW : yW b M0 M) (hq : q < F) (hm : M0.1 (b + 3) q = nI m) (hm2 : m ≤ 16) (hk : k < m) : fX4_nameType b (nI q) (nI k) M = some (M.1 (b + 7) (q * 16 + k), M) := by
  have e := y_hasName (k := k) hx hW hq hm hm2 (by omega)
  rw [if_pos hk] at e
  have h2 := hx.2.2.2.1.2
  unfold fX4_nameType
  simp (disch := omega) only [e, k_iT, k_iF, Bool.false_eq_true, eq_self, Nat.add_zero, k_lt', k_bs, k_T, k_F, k_inb, k_ck, k_nz, ↓kN, kL, k_lt, k_le, k_eq, kn_le, kn_lt, kn_eq, kn_le', kn_lt', kn_eq', nI_clamp, nI_add, k_sub, k_mul, k_div, rd_hi, rd_mi, rd_hl, rd_ml, rd_hr, rd_mr, rd_si2, rd_sl1, rd_sl2, rd_sr1, rd_sr2]
theorem y_nameType' (hx : yX b M0 T n cnt F nd) (hW : yW b M0 M) (hq : q < F) (hk : k < 2 ^ 31) : ∃ v, fX4_nameType b (nI q) (nI k) M = some (v, M) := by
  obtain ⟨m, hm2, hm⟩ := hx.2.2.2.2.2 q hq
  by_cases hkm : k < m
  · exact ⟨_, y_nameType hx hW hq hm hm2 hkm⟩
  · have e := y_hasName (k := k) hx hW hq hm hm2 hk
    rw [if_neg hkm] at e
    refine ⟨0, ?_⟩
    unfold fX4_nameType
    rw [e, k_bs, if_pos (show nI 0 = 0 from rfl)]
theorem y_setName {v : Int32} (hx : yX b M0 T n cnt F nd) (hW : yW b M0 M) (hq : q < F) (hm : M0.1 (b + 3) q = nI m) (hm2 : m ≤ 16) (hk : k < m) : fX4_setNameType b (nI q) (nI k) v M = some ((), mv_si M (b + 7) (q * 16 + k) v) := by
  have e := y_hasName (k := k) hx hW hq hm hm2 (by omega)
  rw [if_pos hk] at e
  have h2 := hx.2.2.2.1.2
  unfold fX4_setNameType
  simp (disch := omega) only [e, k_iT, k_iF, Bool.false_eq_true, eq_self, Nat.add_zero, k_lt', k_bs, k_T, k_F, k_inb, k_ck, k_nz, ↓kN, kL, k_lt, k_le, k_eq, kn_le, kn_lt, kn_eq, kn_le', kn_lt', kn_eq', nI_clamp, nI_add, k_sub, k_mul, k_div, rd_hi, rd_mi, rd_hl, rd_ml, rd_hr, rd_mr, rd_si2, rd_sl1, rd_sl2, rd_sr1, rd_sr2]
theorem lx_st_ge {j : Nat} (hj : n ≤ lx_st T n j) : n ≤ lx_st T n (j + 1) := by
  have h1 : lx_st T n j ≤ lx_end T n (lx_st T n j) := by
    unfold lx_end
    have := lx_f_ge (c := fun j => t_rw (T j)) (n - lx_st T n j) (lx_st T n j)
    repeat' split
    · unfold lx_re; omega
    · omega
    · omega
  have h2 : lx_end T n (lx_st T n j) ≤ lx_sk T n (lx_end T n (lx_st T n j)) := (lx_f_ge (c := fun j => t_bl (T j)) _ _).1
  have e : lx_st T n (j + 1) = lx_sk T n (lx_end T n (lx_st T n j)) := rfl
  omega
theorem tok_in {Mx : mv_M} (ht : c_toks Mx T n cnt) (h1 : t ≤ 1000) (h2 : lx_st T n t < n) : t < cnt := by
  obtain ⟨t1, t2, t3, t4, t5, t6⟩ := ht
  by_cases hc : t < cnt
  · exact hc
  · exfalso
    have e := t4 (by omega)
    have : ∀ d, n ≤ lx_st T n (cnt + d) := by
      intro d
      induction d with
      | zero => rw [Nat.add_zero, e]; exact Nat.le_refl _
      | succ d ih => exact lx_st_ge ih
    have := this (t - cnt)
    rw [show cnt + (t - cnt) = t by omega] at this
    omega
theorem y_tok (hx : yX b M0 T n cnt F nd) (hW : yW b M0 M) (ht : t ≤ 1000 ∧ lx_st T n t < n) : fX8_startOf (nI t) M = some (nI (lx_st T n t), M) ∧ (lx_k T n (lx_st T n t) = 2 → fX8_textOf (nI t) M = some (lx_tx T n (lx_st T n t), M)) := by
  have htc := tok_in hx.2.2.1 ht.1 ht.2
  obtain ⟨t1, t2, t3, t4, t5, t6⟩ := hx.2.2.1
  have hb := hx.1
  have e1 : M.1 2 2 = nI cnt := (hW.1 2 2 (by unfold yA; omega)).trans t1
  have e2 : M.1 41 t = nI (lx_st T n t) := (hW.1 41 t (by unfold yA; omega)).trans (t3 t htc).2.1
  refine ⟨?_, fun hk => ?_⟩
  · unfold fX8_startOf
    simp (disch := omega) only [e1, e2, k_iT, k_iF, Bool.false_eq_true, eq_self, Nat.add_zero, k_lt', k_bs, k_T, k_F, k_inb, k_ck, k_nz, ↓kN, kL, k_lt, k_le, k_eq, kn_le, kn_lt, kn_eq, kn_le', kn_lt', kn_eq', nI_clamp, nI_add, k_sub, k_mul, k_div, rd_hi, rd_mi, rd_hl, rd_ml, rd_hr, rd_mr, rd_si2, rd_sl1, rd_sl2, rd_sr1, rd_sr2]
  · have hr : t_rw (T (lx_st T n t)) = true := by
      unfold lx_k at hk
      rw [if_pos ht.2] at hk
      exact lx_kd_rw (.inl hk)
    have e3 : M.2.1 42 t = lx_tx T n (lx_st T n t) := by rw [hW.2]; exact (t3 t htc).2.2.2 hr
    unfold fX8_textOf
    simp (disch := omega) only [e1, e3, k_iT, k_iF, Bool.false_eq_true, eq_self, Nat.add_zero, k_lt', k_bs, k_T, k_F, k_inb, k_ck, k_nz, ↓kN, kL, k_lt, k_le, k_eq, kn_le, kn_lt, kn_eq, kn_le', kn_lt', kn_eq', nI_clamp, nI_add, k_sub, k_mul, k_div, rd_hi, rd_mi, rd_hl, rd_ml, rd_hr, rd_mr, rd_si2, rd_sl1, rd_sl2, rd_sr1, rd_sr2]
theorem y_start' (hx : yX b M0 T n cnt F nd) (hW : yW b M0 M) (x : Int32) : ∃ v, fX8_startOf x M = some (v, M) := by
  obtain ⟨t1, t2, t3, t4, t5, t6⟩ := hx.2.2.1
  have hb := hx.1
  have e1 : M.1 2 2 = nI cnt := (hW.1 2 2 (by unfold yA; omega)).trans t1
  unfold fX8_startOf fX8_startOf_12
  rw [e1]
  by_cases h0 : x < 0
  · rw [if_pos h0]; exact ⟨_, rfl⟩
  · rw [if_neg h0]
    by_cases h1 : x ≤ nI cnt
    · rw [if_pos h1]
      have hi : mv_inb x 1002 = true := by
        rw [lt_toInt, show (0 : Int32).toInt = 0 from rfl] at h0
        rw [le_toInt, nI_toInt (by omega)] at h1
        unfold mv_inb
        simp only [Bool.and_eq_true, Bool.not_eq_true', decide_eq_false_iff_not, decide_eq_true_eq]
        refine ⟨by rw [lt_toInt, show (0 : Int32).toInt = 0 from rfl]; exact h0, ?_⟩
        have : x.toNatClampNeg = x.toInt.toNat := rfl
        omega
      rw [hi]
      exact ⟨_, rfl⟩
    · rw [if_neg h1]; exact ⟨_, rfl⟩
theorem yO_tell {v : Nat} (hx : yX b M0 T n cnt F nd) (ha : yO b M0 f sc S M) (hc : c < nd) (ht : t ≤ 1000 ∧ lx_st T n t < n) (e14 : M0.1 (b + 14) c = nI t) (h1 : 0 < v) (h2 : v ≤ 6) : ∃ M', fX9_tell (nI v) (nI c) M = some ((), M') ∧ yD b M0 f v (lx_st T n t) M' := by
  have hb := hx.1
  have hnd := hx.2.2.2.2.1.2
  have es := (y_tok hx ha.1 ht).1
  have e : M.1 (b + 14) c = nI t := (ha.1.1 _ _ ((yA_ne hb).2.2.2.2.2.2.2.2.2 _)).trans e14
  obtain ⟨hW, a1, a2, a3, a4, a5⟩ := ha
  refine ⟨mv_si (mv_si M 1 0 (nI v)) 1 1 (nI (lx_st T n t)), ?_, yW_si (yW_si hW (by unfold yA; omega)) (by unfold yA; omega), by simp (disch := omega) only [rd_hi, rd_mi, rd_hl, rd_ml, rd_hr, rd_mr, rd_si2, rd_sl1, rd_sl2, rd_sr1, rd_sr2], h1, h2, by simp (disch := omega) only [rd_hi, rd_mi, rd_hl, rd_ml, rd_hr, rd_mr, rd_si2, rd_sl1, rd_sl2, rd_sr1, rd_sr2], by simp (disch := omega) only [rd_hi, rd_mi, rd_hl, rd_ml, rd_hr, rd_mr, rd_si2, rd_sl1, rd_sl2, rd_sr1, rd_sr2]; exact a2, sc, a4, by simp (disch := omega) only [rd_hi, rd_mi, rd_hl, rd_ml, rd_hr, rd_mr, rd_si2, rd_sl1, rd_sl2, rd_sr1, rd_sr2]; exact a3⟩
  unfold fX9_tell
  rw [y_get hx hW, k_inb (by omega) (by omega), k_ck, nI_clamp (by omega), e, es, k_bs]
  unfold fX0_tell
  simp (disch := omega) only [a1, k_iT, k_iF, Bool.false_eq_true, eq_self, Nat.add_zero, k_lt', k_bs, k_T, k_F, k_inb, k_ck, k_nz, ↓kN, kL, k_lt, k_le, k_eq, kn_le, kn_lt, kn_eq, kn_le', kn_lt', kn_eq', nI_clamp, nI_add, k_sub, k_mul, k_div, rd_hi, rd_mi, rd_hl, rd_ml, rd_hr, rd_mr, rd_si2, rd_sl1, rd_sl2, rd_sr1, rd_sr2]
theorem yD_tell {v : Int32} (hx : yX b M0 T n cnt F nd) (ha : yD b M0 f nb pl M) (hc : c < nd) : fX9_tell v (nI c) M = some ((), M) := by
  have hnd := hx.2.2.2.2.1.2
  obtain ⟨s, es⟩ := y_start' hx ha.1 (M.1 (b + 14) c)
  obtain ⟨hW, a1, a2, a3, a4⟩ := ha
  unfold fX9_tell
  rw [y_get hx hW, k_inb (by omega) (by omega), k_ck, nI_clamp (by omega), es, k_bs]
  unfold fX0_tell
  rw [a1, if_neg (by rw [kM, k_eq (by omega) (by omega)]; omega)]
  rfl
theorem yD_si {v : Int32} (hx : yX b M0 T n cnt F nd) (ha : yD b M0 f nb pl M) (hc : c = 43 ∨ c = b + 7 ∨ c = b + 9 ∨ c = b + 13) : yD b M0 f nb pl (mv_si M c k v) := by
  have hb := hx.1
  obtain ⟨hW, a1, a2, a3, a4, a5, s, a6, a7⟩ := ha
  exact ⟨yW_si hW (by unfold yA; omega), by simp (disch := omega) only [rd_hi, rd_mi, rd_hl, rd_ml, rd_hr, rd_mr, rd_si2, rd_sl1, rd_sl2, rd_sr1, rd_sr2]; exact a1, a2, a3, by simp (disch := omega) only [rd_hi, rd_mi, rd_hl, rd_ml, rd_hr, rd_mr, rd_si2, rd_sl1, rd_sl2, rd_sr1, rd_sr2]; exact a4, by simp (disch := omega) only [rd_hi, rd_mi, rd_hl, rd_ml, rd_hr, rd_mr, rd_si2, rd_sl1, rd_sl2, rd_sr1, rd_sr2]; exact a5, s, a6, by simp (disch := omega) only [rd_hi, rd_mi, rd_hl, rd_ml, rd_hr, rd_mr, rd_si2, rd_sl1, rd_sl2, rd_sr1, rd_sr2]; exact a7⟩
theorem yD_s45 {s : Nat} (hx : yX b M0 T n cnt F nd) (ha : yD b M0 f nb pl M) (hs : s ≤ 16) : yD b M0 f nb pl (mv_si M 4 5 (nI s)) := by
  have hb := hx.1
  obtain ⟨hW, a1, a2, a3, a4, a5, _⟩ := ha
  exact ⟨yW_si hW (by unfold yA; omega), by simp (disch := omega) only [rd_hi, rd_mi, rd_hl, rd_ml, rd_hr, rd_mr, rd_si2, rd_sl1, rd_sl2, rd_sr1, rd_sr2]; exact a1, a2, a3, by simp (disch := omega) only [rd_hi, rd_mi, rd_hl, rd_ml, rd_hr, rd_mr, rd_si2, rd_sl1, rd_sl2, rd_sr1, rd_sr2]; exact a4, by simp (disch := omega) only [rd_hi, rd_mi, rd_hl, rd_ml, rd_hr, rd_mr, rd_si2, rd_sl1, rd_sl2, rd_sr1, rd_sr2]; exact a5, s, hs, by simp (disch := omega) only [rd_hi, rd_mi, rd_hl, rd_ml, rd_hr, rd_mr, rd_si2, rd_sl1, rd_sl2, rd_sr1, rd_sr2]⟩
theorem yD_open {v : Int32} (hx : yX b M0 T n cnt F nd) (ha : yD b M0 f nb pl M) : mv_ok (fX9_open v M) (fun _ M' => yD b M0 f nb pl M') := by
  have ha' := ha
  obtain ⟨hW, a1, a2, a3, a4, a5, s, a6, a7⟩ := ha
  unfold fX9_open
  by_cases h16 : s = 16
  · subst h16
    rw [a7, if_pos (by decide)]
    exact ha'
  · have hb := hx.1
    refine ok_eq (r := ()) (M := mv_si (mv_si M 43 s v) 4 5 (nI (s + 1))) (by simp (disch := omega) only [a7, k_iT, k_iF, Bool.false_eq_true, eq_self, Nat.add_zero, k_lt', k_bs, k_T, k_F, k_inb, k_ck, k_nz, ↓kN, kL, k_lt, k_le, k_eq, kn_le, kn_lt, kn_eq, kn_le', kn_lt', kn_eq', nI_clamp, nI_add, k_sub, k_mul, k_div, rd_hi, rd_mi, rd_hl, rd_ml, rd_hr, rd_mr, rd_si2, rd_sl1, rd_sl2, rd_sr1, rd_sr2]) ?_
    exact yD_s45 hx (yD_si hx ha' (by omega)) (by omega)
theorem yD_set {v : Int32} (hx : yX b M0 T n cnt F nd) (ha : yD b M0 f nb pl M) (hq : q < F) (hk : k < 2 ^ 31) : mv_ok (fX4_setNameType b (nI q) (nI k) v M) (fun _ M' => yD b M0 f nb pl M') := by
  obtain ⟨m, hm2, hm⟩ := hx.2.2.2.2.2 q hq
  by_cases hkm : k < m
  · rw [y_setName hx ha.1 hq hm hm2 hkm]
    exact yD_si hx ha (by omega)
  · have e := y_hasName (k := k) hx ha.1 hq hm hm2 hk
    rw [if_neg hkm] at e
    unfold fX4_setNameType
    rw [e, k_bs, if_pos (show nI 0 = 0 from rfl)]
    exact ha
theorem yD_ty {x w : Int32} (ha : yD b M0 f nb pl M) : RX9_typeOf (k + 1) 0 x w M = some (0, M) := by
  obtain ⟨hW, a1, a2, a3, _⟩ := ha
  rw [RX9_typeOf, if_pos rfl]
  unfold fX9_typeOf
  rw [a1, if_neg (by rw [kM, k_eq (by omega) (by omega)]; omega)]
theorem y_open {v : Nat} (hx : yX b M0 T n cnt F nd) (ha : yO b M0 f sc S M) (hs : sc < 16) : fX9_open (nI v) M = some ((), mv_si (mv_si M 43 sc (nI v)) 4 5 (nI (sc + 1))) ∧ yO b M0 f (sc + 1) (fun k => if k < sc then S k else v) (mv_si (mv_si M 43 sc (nI v)) 4 5 (nI (sc + 1))) := by
  have hb := hx.1
  obtain ⟨hW, a1, a2, a3, a4, a5⟩ := ha
  refine ⟨?_, yW_si (yW_si hW (by unfold yA; omega)) (by unfold yA; omega), by simp (disch := omega) only [rd_hi, rd_mi, rd_hl, rd_ml, rd_hr, rd_mr, rd_si2, rd_sl1, rd_sl2, rd_sr1, rd_sr2]; exact a1, by simp (disch := omega) only [rd_hi, rd_mi, rd_hl, rd_ml, rd_hr, rd_mr, rd_si2, rd_sl1, rd_sl2, rd_sr1, rd_sr2]; exact a2, by simp (disch := omega) only [rd_hi, rd_mi, rd_hl, rd_ml, rd_hr, rd_mr, rd_si2, rd_sl1, rd_sl2, rd_sr1, rd_sr2], by omega, fun k hk => ?_⟩
  · unfold fX9_open
    simp (disch := omega) only [a3, k_iT, k_iF, Bool.false_eq_true, eq_self, Nat.add_zero, k_lt', k_bs, k_T, k_F, k_inb, k_ck, k_nz, ↓kN, kL, k_lt, k_le, k_eq, kn_le, kn_lt, kn_eq, kn_le', kn_lt', kn_eq', nI_clamp, nI_add, k_sub, k_mul, k_div, rd_hi, rd_mi, rd_hl, rd_ml, rd_hr, rd_mr, rd_si2, rd_sl1, rd_sl2, rd_sr1, rd_sr2]
  · by_cases hks : k < sc
    · simp only [hks, if_true]
      simp (disch := omega) only [rd_hi, rd_mi, rd_hl, rd_ml, rd_hr, rd_mr, rd_si2, rd_sl1, rd_sl2, rd_sr1, rd_sr2]
      exact a5 k hks
    · obtain rfl : k = sc := by omega
      simp only [hks, if_false]
      simp (disch := omega) only [rd_hi, rd_mi, rd_hl, rd_ml, rd_hr, rd_mr, rd_si2, rd_sl1, rd_sl2, rd_sr1, rd_sr2]
end TC
