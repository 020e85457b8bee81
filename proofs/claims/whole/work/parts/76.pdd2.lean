section CD2
variable {α β : Type} {b n cnt f i m nd nb pl : Nat} {M M0 : mv_M} {T : Nat → Nat} {Q : α → mv_M → Prop}
theorem inb_of {r : Int32} {nd N : Nat} (h0 : ¬ r < 0) (h1 : ¬ nI nd ≤ r) (hn : nd ≤ N) (hN : N < 2 ^ 31) : mv_inb r N = true := by
  have a0 : ¬ r.toInt < 0 := by
    rw [lt_toInt, show (0 : Int32).toInt = 0 from rfl] at h0
    exact h0
  have a1 : r.toInt < nd := by
    rw [le_toInt, nI_toInt (by omega)] at h1
    omega
  unfold mv_inb
  simp only [Bool.and_eq_true, Bool.not_eq_true', decide_eq_false_iff_not, decide_eq_true_eq]
  refine ⟨h0, ?_⟩
  show r.toInt.toNat < N
  omega
theorem cD_take' {a : Int32} (hx : cX b M0 T n cnt) (h : cD b M0 T n cnt f nb pl M) (h0 : a ≠ nI 0) (h1 : a ≠ nI 1) : mv_ok (fX3_take a M) (fun _ M' => cR b M0 cnt f nb pl M') := by
  obtain ⟨v, hv, e⟩ := cD_kind hx h
  unfold fX3_take
  rw [e, k_bs]
  refine ok_F (fun z => ?_) ?_
  · have : v = 0 ∨ v = 1 := by omega
    rcases this with rfl | rfl
    · exact h0 z.symm
    · exact h1 z.symm
  · exact ok_bind (ok_mono (cD_stop hx h) (fun _ M' h => ok_some h))
theorem cD_E' {k : Nat} {a z : Int32} (hx : cX b M0 T n cnt) (h : cD b M0 T n cnt f nb pl M) (hk : 0 < k) : mv_ok (RX3_parseE k 0 a z M) (fun _ M' => cR b M0 cnt f nb pl M') := by
  obtain ⟨j, rfl⟩ : ∃ j, k = j + 1 := ⟨k - 1, by omega⟩
  exact cD_E hx h
theorem cD_sides' {k t : Nat} {a : Int32} (hx : cX b M0 T n cnt) (h : cD b M0 T n cnt f nb pl M) (ht : t ≤ 3) (hk : 5 ≤ k + t) : mv_ok (RX3_parseE k 4 a (nI t) M) (fun _ M' => cR b M0 cnt f nb pl M') := cD_sides hx (3 - t) t k M (by omega) (by omega) h
theorem cD_type' {k : Nat} {a : Int32} (hx : cX b M0 T n cnt) (h : cD b M0 T n cnt f nb pl M) (hk : 0 < k) : mv_ok (RX3_parseType k 0 a M) (fun _ M' => cR b M0 cnt f nb pl M') := by
  obtain ⟨j, rfl⟩ : ∃ j, k = j + 1 := ⟨k - 1, by omega⟩
  exact cD_type hx h
theorem cD_tType {a : Int32} (hx : cX b M0 T n cnt) (h : cD b M0 T n cnt f nb pl M) : mv_ok (tX3_parseType a M) (fun _ M' => cR b M0 cnt f nb pl M') := cD_type' hx h (by omega)
theorem ok_pairOf {a c : Int32} {g : Int32 → mv_M → Option (α × mv_M)} (hg : ∀ v, mv_ok (g v M) Q) : mv_ok (mv_bind (fX6_pairOf a c M) g) Q := by
  unfold fX6_pairOf fX6_pairOf_10
  refine ok_bind (ok_if (fun _ => ok_some (hg _)) (fun _ => ok_if (fun _ => ok_some (hg _)) (fun _ => ok_some (hg _))))
theorem cD_textOf {g : Int64 → mv_M → Option (α × mv_M)} (hx : cX b M0 T n cnt) (h : cD b M0 T n cnt f nb pl M) (hg : ∀ v, mv_ok (g v M) Q) : mv_ok (mv_bind (fX8_textOf (M.1 3 3) M) g) Q := by
  have hc := hx.2.2.1.2.1
  obtain ⟨a1, a2, a3, a4, a5⟩ := cW_tok hx (cD_B h).1.1
  have key : ∃ j, j ≤ cnt ∧ M.1 3 3 = nI j := by
    rcases h with ⟨_, _, _, h3, _⟩ | ⟨_, _, _, _, i, hi, hi2, h3, _⟩
    · exact ⟨cnt, by omega, h3⟩
    · exact ⟨i, by omega, h3⟩
  obtain ⟨j, hj, h3⟩ := key
  unfold fX8_textOf fX8_textOf_12
  rw [h3, a1]
  refine ok_bind (ok_F ?_ (ok_if (fun z => ok_chk ?_ (ok_some (hg _))) (fun _ => ok_some (hg _))))
  · rw [kM, k_lt (by omega) (by omega)]; omega
  · rw [k_lt (by omega) (by omega)] at z
    exact k_inb (by omega) (by omega)
theorem cD_kindB {g : Int32 → mv_M → Option (α × mv_M)} (hx : cX b M0 T n cnt) (h : cD b M0 T n cnt f nb pl M) (hg : ∀ v, v ≤ 1 → mv_ok (g (nI v) M) Q) : mv_ok (mv_bind (fX3_kind M) g) Q := by
  obtain ⟨v, hv, e⟩ := cD_kind hx h
  rw [e, k_bs]
  exact hg v hv
theorem cD_ifk {v : Nat} {a : Int32} {x y : Option (α × mv_M)} (hv : v ≤ 1) (h0 : a ≠ nI 0) (h1 : a ≠ nI 1) (hy : mv_ok y Q) : mv_ok (if nI v = a then x else y) Q := by
  refine ok_F (fun z => ?_) hy
  have : v = 0 ∨ v = 1 := by omega
  rcases this with rfl | rfl
  · exact h0 z.symm
  · exact h1 z.symm
theorem cD_has {r : Int32} {A : mv_M → Option (α × mv_M)} {B : Nat → mv_M → Option (α × mv_M)} (hx : cX b M0 T n cnt) (h : cD b M0 T n cnt f nb pl M) (hA : mv_ok (A M) Q) (hB : mv_inb r 1000 = true → mv_ok (B b M) Q) : mv_ok (mv_bind (fX4_hasNode b r M) fun r7 M8 => if r7 = 0 then A M8 else mv_getp (M8.2.2 3 2) fun b9 => mv_chk (mv_inb r 1000) (B b9 M8)) Q := by
  obtain ⟨_, _, nd, hnd, h6⟩ := cD_B h
  unfold fX4_hasNode
  refine ok_bind (ok_if (fun _ => ok_some (ok_T rfl hA)) (fun z0 => ok_if (fun _ => ok_some (ok_T rfl hA)) (fun z1 => ok_some (ok_F (by decide) (cD_getp hx h ?_)))))
  rw [h6] at z1
  have := inb_of z0 z1 hnd (by omega)
  exact ok_chk this (hB this)
theorem cD_si {c k : Nat} {v : Int32} (hb : b = 9 ∨ b = 24) (h : cD b M0 T n cnt f nb pl M) (hc : (b + 12 = c ∨ b + 13 = c) ∨ ((c = b + 4 ∨ c = b + 5 ∨ c = b + 7))) : cD b M0 T n cnt f nb pl (mv_si M c k v) := by
  obtain ⟨hB, ⟨m, hm, h5⟩, ⟨nd, hnd, h6⟩⟩ := cD_B h
  have hB2 := cB_si (c := c) (k := k) (v := v) hb hB (by omega)
  rcases h with ⟨_, _, _, h3, r1, r2, r3, r4⟩ | ⟨_, _, _, hnb, i, hi, hi2, h3, hk, hpl, r1⟩
  · exact .inl ⟨hB2, ⟨m, hm, by simp (disch := omega) only [rd_hi, rd_mi, rd_hl, rd_ml, rd_hr, rd_mr, rd_si2, rd_sl1, rd_sl2, rd_sr1, rd_sr2]; exact h5⟩, ⟨nd, hnd, by simp (disch := omega) only [rd_hi, rd_mi, rd_hl, rd_ml, rd_hr, rd_mr, rd_si2, rd_sl1, rd_sl2, rd_sr1, rd_sr2]; exact h6⟩, by simp (disch := omega) only [rd_hi, rd_mi, rd_hl, rd_ml, rd_hr, rd_mr, rd_si2, rd_sl1, rd_sl2, rd_sr1, rd_sr2]; exact h3, by simp (disch := omega) only [rd_hi, rd_mi, rd_hl, rd_ml, rd_hr, rd_mr, rd_si2, rd_sl1, rd_sl2, rd_sr1, rd_sr2]; exact r1, r2, r3, by simp (disch := omega) only [rd_hi, rd_mi, rd_hl, rd_ml, rd_hr, rd_mr, rd_si2, rd_sl1, rd_sl2, rd_sr1, rd_sr2]; exact r4⟩
  · exact .inr ⟨hB2, ⟨m, hm, by simp (disch := omega) only [rd_hi, rd_mi, rd_hl, rd_ml, rd_hr, rd_mr, rd_si2, rd_sl1, rd_sl2, rd_sr1, rd_sr2]; exact h5⟩, ⟨nd, hnd, by simp (disch := omega) only [rd_hi, rd_mi, rd_hl, rd_ml, rd_hr, rd_mr, rd_si2, rd_sl1, rd_sl2, rd_sr1, rd_sr2]; exact h6⟩, hnb, i, hi, hi2, by simp (disch := omega) only [rd_hi, rd_mi, rd_hl, rd_ml, rd_hr, rd_mr, rd_si2, rd_sl1, rd_sl2, rd_sr1, rd_sr2]; exact h3, hk, hpl, by simp (disch := omega) only [rd_hi, rd_mi, rd_hl, rd_ml, rd_hr, rd_mr, rd_si2, rd_sl1, rd_sl2, rd_sr1, rd_sr2]; exact r1⟩
theorem cD_addName {t : Int64} (hx : cX b M0 T n cnt) (h : cD b M0 T n cnt f nb pl M) : mv_ok (fX4_addName b (M.1 3 4) t M) (fun _ M' => cD b M0 T n cnt f nb pl M') := by
  have hb := hx.1
  obtain ⟨hB, ⟨m, hm, h5⟩, ⟨nd, hnd, h6⟩⟩ := cD_B h
  obtain ⟨b1, b2, b3, b4, p, b5, b6⟩ := hB
  unfold fX4_addName fX4_hasFunction
  rw [b2, b4]
  by_cases h16 : m < 16
  · refine ok_eq (r := nI m) (M := mv_sl (mv_si M (b + 3) f (nI (m + 1))) (b + 6) (f * 16 + m) t) (by simp (disch := omega) only [h5, k_iT, k_iF, Bool.false_eq_true, eq_self, Nat.add_zero, k_lt', k_bs, k_T, k_F, k_inb, k_ck, k_nz, ↓kN, kL, k_lt, k_le, k_eq, kn_le, kn_lt, kn_eq, kn_le', kn_lt', kn_eq', nI_clamp, nI_add, k_sub, k_mul, k_div, rd_hi, rd_mi, rd_hl, rd_ml, rd_hr, rd_mr, rd_si2, rd_sl1, rd_sl2, rd_sr1, rd_sr2]) ?_
    have hB2 := cB_sl (c := b + 6) (k := f * 16 + m) (v := t) (cB_si (c := b + 3) (k := f) (v := nI (m + 1)) hb ⟨b1, b2, b3, b4, p, b5, b6⟩ (by omega)) (by omega)
    rcases h with ⟨_, _, _, h3, r1, r2, r3, r4⟩ | ⟨_, _, _, hnb, i, hi, hi2, h3, hk, hpl, r1⟩
    · exact .inl ⟨hB2, ⟨m + 1, by omega, by simp (disch := omega) only [rd_hi, rd_mi, rd_hl, rd_ml, rd_hr, rd_mr, rd_si2, rd_sl1, rd_sl2, rd_sr1, rd_sr2]⟩, ⟨nd, hnd, by simp (disch := omega) only [rd_hi, rd_mi, rd_hl, rd_ml, rd_hr, rd_mr, rd_si2, rd_sl1, rd_sl2, rd_sr1, rd_sr2]; exact h6⟩, by simp (disch := omega) only [rd_hi, rd_mi, rd_hl, rd_ml, rd_hr, rd_mr, rd_si2, rd_sl1, rd_sl2, rd_sr1, rd_sr2]; exact h3, by simp (disch := omega) only [rd_hi, rd_mi, rd_hl, rd_ml, rd_hr, rd_mr, rd_si2, rd_sl1, rd_sl2, rd_sr1, rd_sr2]; exact r1, r2, r3, by simp (disch := omega) only [rd_hi, rd_mi, rd_hl, rd_ml, rd_hr, rd_mr, rd_si2, rd_sl1, rd_sl2, rd_sr1, rd_sr2]; exact r4⟩
    · exact .inr ⟨hB2, ⟨m + 1, by omega, by simp (disch := omega) only [rd_hi, rd_mi, rd_hl, rd_ml, rd_hr, rd_mr, rd_si2, rd_sl1, rd_sl2, rd_sr1, rd_sr2]⟩, ⟨nd, hnd, by simp (disch := omega) only [rd_hi, rd_mi, rd_hl, rd_ml, rd_hr, rd_mr, rd_si2, rd_sl1, rd_sl2, rd_sr1, rd_sr2]; exact h6⟩, hnb, i, hi, hi2, by simp (disch := omega) only [rd_hi, rd_mi, rd_hl, rd_ml, rd_hr, rd_mr, rd_si2, rd_sl1, rd_sl2, rd_sr1, rd_sr2]; exact h3, hk, hpl, by simp (disch := omega) only [rd_hi, rd_mi, rd_hl, rd_ml, rd_hr, rd_mr, rd_si2, rd_sl1, rd_sl2, rd_sr1, rd_sr2]; exact r1⟩
  · refine ok_eq (r := nN) (M := M) (by simp (disch := omega) only [h5, k_iT, k_iF, Bool.false_eq_true, eq_self, Nat.add_zero, k_lt', k_bs, k_T, k_F, k_inb, k_ck, k_nz, ↓kN, kL, k_lt, k_le, k_eq, kn_le, kn_lt, kn_eq, kn_le', kn_lt', kn_eq', nI_clamp, nI_add, k_sub, k_mul, k_div, rd_hi, rd_mi, rd_hl, rd_ml, rd_hr, rd_mr, rd_si2, rd_sl1, rd_sl2, rd_sr1, rd_sr2]) h
theorem cD_inner {a : Int64} (hx : cX b M0 T n cnt) (h : cD b M0 T n cnt f nb pl M) : mv_ok (fX3_parseInnerName a M) (fun _ M' => cD b M0 T n cnt f nb pl M') := by
  have hb := hx.1
  obtain ⟨hB, ⟨m, hm, h5⟩, ⟨nd, hnd, h6⟩⟩ := cD_B h
  have b2 := hB.2.1
  have b3 := hB.2.2.1
  have key : ∀ (t : Int64) (s0 s1 : Int32), mv_ok (fX3_parseInnerName_46 t s0 s1 M) (fun _ M' => cD b M0 T n cnt f nb pl M') := by
    intro t s0 s1
    unfold fX3_parseInnerName_46
    refine cD_bindR (cD_new hx h) (fun _ M5 h5 => ok_if (fun _ => cD_getp hx h5 (cD_bind (cD_addName hx h5) (fun _ _ h8 => ok_some h8))) (fun _ => ok_some h5))
  have key2 : ∀ (t : Int64) (s0 : Int32), mv_ok (fX3_parseInnerName_24 t s0 M) (fun _ M' => cD b M0 T n cnt f nb pl M') := by
    intro t s0
    unfold fX3_parseInnerName_24
    refine cD_getp hx h (ok_chk (by rw [b2]; exact k_inb b3 (by omega)) (ok_if (fun _ => key _ _ _) (fun _ => key _ _ _)))
  unfold fX3_parseInnerName
  exact cD_textOf hx h (fun v => ok_if (fun _ => key2 _ _) (fun _ => key2 _ _))
/-- the loop over a call's arguments ends at once -/
theorem cD_call {k : Nat} {x1 x2 x3 x4 x5 : Int32} (hx : cX b M0 T n cnt) (h : cD b M0 T n cnt f nb pl M) : mv_ok (fX3_parseCall_30 (fun a0 M => RX3_parseE k 0 a0 0 M) x1 x2 x3 x4 x5 M) (fun _ M' => cD b M0 T n cnt f nb pl M') := by
  have key : mv_ok (fX3_parseCall_97 (fun a0 M => RX3_parseE k 0 a0 0 M) x1 x3 x4 M) (fun _ M' => cD b M0 T n cnt f nb pl M') := by
    unfold fX3_parseCall_97
    exact cD_bindR (cD_take' hx h (by decide) (by decide)) (fun _ _ h1 => cD_getp hx h1 (cD_bind (cD_node hx h1) (fun _ _ h2 => ok_some h2)))
  unfold fX3_parseCall_30
  refine ok_loop ?_
  show mv_ok (gX3_parseCall_30 _ x1 x2 x3 x4 x5 M) _
  unfold gX3_parseCall_30
  refine ok_if (fun _ => ok_inr key) (fun _ => ok_if (fun _ => ok_inr key) (fun _ => ?_))
  refine cD_kindB hx h (fun v hv => cD_ifk hv (by decide) (by decide) (ok_inr key))
end CD2
