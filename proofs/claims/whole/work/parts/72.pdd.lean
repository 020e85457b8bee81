section CD
variable {b n cnt f i m nd nb pl : Nat} {M0 M : mv_M} {T : Nat → Nat}
theorem cW_si {c k : Nat} {v : Int32} (h : cW b M0 M) (hc : (c = 1 ∧ k ≤ 1) ∨ (c = 3 ∧ (k = 3 ∨ k = 4)) ∨ (b ≤ c ∧ c ≤ b + 14)) : cW b M0 (mv_si M c k v) := by
  obtain ⟨h1, h2, h3⟩ := h
  refine ⟨fun c' k' a1 a2 a3 => ?_, h2, h3⟩
  simp (disch := omega) only [rd_hi, rd_mi, rd_hl, rd_ml, rd_hr, rd_mr, rd_si2, rd_sl1, rd_sl2, rd_sr1, rd_sr2]
  exact h1 c' k' a1 a2 a3
theorem cW_sl {c k : Nat} {v : Int64} (h : cW b M0 M) (hc : b ≤ c ∧ c ≤ b + 14) : cW b M0 (mv_sl M c k v) := by
  obtain ⟨h1, h2, h3⟩ := h
  refine ⟨h1, fun c' k' a1 => ?_, h3⟩
  simp (disch := omega) only [rd_hi, rd_mi, rd_hl, rd_ml, rd_hr, rd_mr, rd_si2, rd_sl1, rd_sl2, rd_sr1, rd_sr2]
  exact h2 c' k' a1
theorem cB_si {c k : Nat} {v : Int32} (hb : b = 9 ∨ b = 24) (h : cB b M0 f M) (hc : (c = 1 ∧ k ≤ 1) ∨ (c = 3 ∧ k = 3) ∨ (c = b ∧ k = 8) ∨ (b + 1 ≤ c ∧ c ≤ b + 14 ∧ ¬ (c = b + 2 ∧ k = f))) : cB b M0 f (mv_si M c k v) := by
  obtain ⟨h1, h2, h3, h4, p, h5, h6⟩ := h
  refine ⟨cW_si h1 (by omega), ?_, h3, ?_, p, h5, ?_⟩
  · simp (disch := omega) only [rd_hi, rd_mi, rd_hl, rd_ml, rd_hr, rd_mr, rd_si2, rd_sl1, rd_sl2, rd_sr1, rd_sr2]
    exact h2
  · simp (disch := omega) only [rd_hi, rd_mi, rd_hl, rd_ml, rd_hr, rd_mr, rd_si2, rd_sl1, rd_sl2, rd_sr1, rd_sr2]
    exact h4
  · simp (disch := omega) only [rd_hi, rd_mi, rd_hl, rd_ml, rd_hr, rd_mr, rd_si2, rd_sl1, rd_sl2, rd_sr1, rd_sr2]
    exact h6
theorem cB_sl {c k : Nat} {v : Int64} (h : cB b M0 f M) (hc : b ≤ c ∧ c ≤ b + 14) : cB b M0 f (mv_sl M c k v) := by
  obtain ⟨h1, h2, h3, h4, p, h5, h6⟩ := h
  exact ⟨cW_sl h1 hc, h2, h3, h4, p, h5, h6⟩
theorem cD_stop {a : Int32} (hx : cX b M0 T n cnt) (h : cD b M0 T n cnt f nb pl M) : mv_ok (fX3_stop a M) (fun _ M' => cR b M0 cnt f nb pl M') := by
  have hc := hx.2.2.1.2.1
  have hb := hx.1
  rcases h with ⟨hB, ⟨m, hm, h5⟩, ⟨nd, hnd, h6⟩, h3, r1, r2, r3, r4⟩ | ⟨hB, ⟨m, hm, h5⟩, ⟨nd, hnd, h6⟩, hnb, i, hi, hi2, h3, hk, hpl, r1⟩
  · obtain ⟨a1, a2, a3, a4, a5⟩ := cW_tok hx hB.1
    have b1 := hx.2.2.1.2.2.2.2.1
    refine ok_eq (r := ()) (M := mv_si M 3 3 (nI cnt)) ?_ ⟨cB_si hb hB (by omega), ⟨m, hm, ?_⟩, ⟨nd, hnd, ?_⟩, ?_, ?_, r2, r3, ?_⟩
    · unfold fX3_stop fX3_stop_17 fX3_kind fX8_kindOf fX8_startOf fX0_tell
      simp (disch := omega) only [h3, a1, a2, b1, r1, k_iT, k_iF, Bool.false_eq_true, eq_self, Nat.add_zero, k_lt', k_bs, k_T, k_F, k_inb, k_ck, k_nz, ↓kN, kL, k_lt, k_le, k_eq, kn_le, kn_lt, kn_eq, kn_le', kn_lt', kn_eq', nI_clamp, nI_add, k_sub, k_mul, k_div, rd_hi, rd_mi, rd_hl, rd_ml, rd_hr, rd_mr, rd_si2, rd_sl1, rd_sl2, rd_sr1, rd_sr2]
    · simp (disch := omega) only [rd_hi, rd_mi, rd_hl, rd_ml, rd_hr, rd_mr, rd_si2, rd_sl1, rd_sl2, rd_sr1, rd_sr2]
      exact h5
    · simp (disch := omega) only [rd_hi, rd_mi, rd_hl, rd_ml, rd_hr, rd_mr, rd_si2, rd_sl1, rd_sl2, rd_sr1, rd_sr2]
      exact h6
    · simp (disch := omega) only [rd_hi, rd_mi, rd_hl, rd_ml, rd_hr, rd_mr, rd_si2, rd_sl1, rd_sl2, rd_sr1, rd_sr2]
    · simp (disch := omega) only [rd_hi, rd_mi, rd_hl, rd_ml, rd_hr, rd_mr, rd_si2, rd_sl1, rd_sl2, rd_sr1, rd_sr2]
      exact r1
    · simp (disch := omega) only [rd_hi, rd_mi, rd_hl, rd_ml, rd_hr, rd_mr, rd_si2, rd_sl1, rd_sl2, rd_sr1, rd_sr2]
      exact r4
  · obtain ⟨a1, a2, a3, a4, a5⟩ := cW_tok hx hB.1
    obtain ⟨b1, b2, b3⟩ := tk_kind hx (by omega) hi2
    rw [hk] at b1
    subst hnb hpl
    refine ok_eq (r := ()) (M := mv_si (mv_si (mv_si M 1 0 (nI 1)) 1 1 (nI (lx_st T n i))) 3 3 (nI cnt)) ?_ ⟨cB_si hb (cB_si hb (cB_si hb hB (by omega)) (by omega)) (by omega), ⟨m, hm, ?_⟩, ⟨nd, hnd, ?_⟩, ?_, ?_, by omega, by omega, ?_⟩
    · unfold fX3_stop fX3_stop_17 fX3_kind fX8_kindOf fX8_startOf fX0_tell
      simp (disch := omega) only [h3, a1, a2, a3, b1, b2, r1, k_iT, k_iF, Bool.false_eq_true, eq_self, Nat.add_zero, k_lt', k_bs, k_T, k_F, k_inb, k_ck, k_nz, ↓kN, kL, k_lt, k_le, k_eq, kn_le, kn_lt, kn_eq, kn_le', kn_lt', kn_eq', nI_clamp, nI_add, k_sub, k_mul, k_div, rd_hi, rd_mi, rd_hl, rd_ml, rd_hr, rd_mr, rd_si2, rd_sl1, rd_sl2, rd_sr1, rd_sr2]
    · simp (disch := omega) only [rd_hi, rd_mi, rd_hl, rd_ml, rd_hr, rd_mr, rd_si2, rd_sl1, rd_sl2, rd_sr1, rd_sr2]
      exact h5
    · simp (disch := omega) only [rd_hi, rd_mi, rd_hl, rd_ml, rd_hr, rd_mr, rd_si2, rd_sl1, rd_sl2, rd_sr1, rd_sr2]
      exact h6
    · simp (disch := omega) only [rd_hi, rd_mi, rd_hl, rd_ml, rd_hr, rd_mr, rd_si2, rd_sl1, rd_sl2, rd_sr1, rd_sr2]
    · simp (disch := omega) only [rd_hi, rd_mi, rd_hl, rd_ml, rd_hr, rd_mr, rd_si2, rd_sl1, rd_sl2, rd_sr1, rd_sr2]
    · simp (disch := omega) only [rd_hi, rd_mi, rd_hl, rd_ml, rd_hr, rd_mr, rd_si2, rd_sl1, rd_sl2, rd_sr1, rd_sr2]
theorem cD_take {kc : Nat} (hx : cX b M0 T n cnt) (h : cD b M0 T n cnt f nb pl M) (h2 : 2 ≤ kc) (h3 : kc < 2 ^ 31) : mv_ok (fX3_take (nI kc) M) (fun _ M' => cR b M0 cnt f nb pl M') := by
  obtain ⟨v, hv, e⟩ := cD_kind hx h
  unfold fX3_take
  rw [e, k_bs]
  refine ok_F (fun z => by rw [k_eq (by omega) h3] at z; omega) ?_
  exact ok_bind (ok_mono (cD_stop hx h) (fun _ M' h => ok_some h))
theorem cD_new {x y : Int32} (hx : cX b M0 T n cnt) (h : cD b M0 T n cnt f nb pl M) : mv_ok (fX3_takeNewName x y M) (fun _ M' => cR b M0 cnt f nb pl M') := by
  obtain ⟨v, hv, e⟩ := cD_kind hx h
  unfold fX3_takeNewName
  rw [e, k_bs]
  refine ok_F (fun z => by rw [show (2 : Int32) = nI 2 from rfl, k_eq (by omega) (by omega)] at z; omega) ?_
  exact ok_bind (ok_mono (cD_stop hx h) (fun _ M' h => ok_some h))
theorem cD_bind {α β : Type} {o : Option (α × mv_M)} {g : α → mv_M → Option (β × mv_M)} (h : mv_ok o (fun _ M' => cD b M0 T n cnt f nb pl M')) (hg : ∀ r M', cD b M0 T n cnt f nb pl M' → mv_ok (g r M') (fun _ M'' => cD b M0 T n cnt f nb pl M'')) : mv_ok (mv_bind o g) (fun _ M'' => cD b M0 T n cnt f nb pl M'') := ok_bind (ok_mono h (fun r M' h => hg r M' h))
theorem cD_bindR {α β : Type} {o : Option (α × mv_M)} {g : α → mv_M → Option (β × mv_M)} (h : mv_ok o (fun _ M' => cR b M0 cnt f nb pl M')) (hg : ∀ r M', cD b M0 T n cnt f nb pl M' → mv_ok (g r M') (fun _ M'' => cD b M0 T n cnt f nb pl M'')) : mv_ok (mv_bind o g) (fun _ M'' => cD b M0 T n cnt f nb pl M'') := ok_bind (ok_mono h (fun r M' h => hg r M' (.inl h)))
theorem cD_B (h : cD b M0 T n cnt f nb pl M) : cB b M0 f M ∧ (∃ m, m ≤ 16 ∧ M.1 (b + 3) f = nI m) ∧ (∃ nd, nd ≤ 1000 ∧ M.1 b 8 = nI nd) := by
  rcases h with ⟨hB, h1, h2, _⟩ | ⟨hB, h1, h2, _⟩
  · exact ⟨hB, h1, h2⟩
  · exact ⟨hB, h1, h2⟩
theorem cD_getp {α : Type} {g : Nat → Option (α × mv_M)} {Q : α → mv_M → Prop} (hx : cX b M0 T n cnt) (h : cD b M0 T n cnt f nb pl M) (hg : mv_ok (g b) Q) : mv_ok (mv_getp (M.2.2 3 2) g) Q := ok_getp (cW_tok hx (cD_B h).1.1).2.2.2.2 hx.1 hg
theorem cD_node {a t x y z : Int32} (hx : cX b M0 T n cnt) (h : cD b M0 T n cnt f nb pl M) : mv_ok (fX4_addNode b a t x y z M) (fun _ M' => cD b M0 T n cnt f nb pl M') := by
  have hb := hx.1
  obtain ⟨hB, ⟨m, hm, h5⟩, ⟨nd, hnd, h6⟩⟩ := cD_B h
  unfold fX4_addNode
  by_cases hl : nd < 1000
  · refine ok_eq (r := nI nd) (M := mv_si (mv_si (mv_si (mv_si (mv_si (mv_si (mv_si (mv_si M b 8 (nI (nd + 1))) (b + 8) nd a) (b + 14) nd t) (b + 9) nd x) (b + 10) nd y) (b + 11) nd z) (b + 12) nd nN) (b + 13) nd (nI 0)) (by simp (disch := omega) only [h6, k_iT, k_iF, Bool.false_eq_true, eq_self, Nat.add_zero, k_lt', k_bs, k_T, k_F, k_inb, k_ck, k_nz, ↓kN, kL, k_lt, k_le, k_eq, kn_le, kn_lt, kn_eq, kn_le', kn_lt', kn_eq', nI_clamp, nI_add, k_sub, k_mul, k_div, rd_hi, rd_mi, rd_hl, rd_ml, rd_hr, rd_mr, rd_si2, rd_sl1, rd_sl2, rd_sr1, rd_sr2]) ?_
    have hB2 : cB b M0 f (mv_si (mv_si (mv_si (mv_si (mv_si (mv_si (mv_si (mv_si M b 8 (nI (nd + 1))) (b + 8) nd a) (b + 14) nd t) (b + 9) nd x) (b + 10) nd y) (b + 11) nd z) (b + 12) nd nN) (b + 13) nd (nI 0)) := cB_si hb (cB_si hb (cB_si hb (cB_si hb (cB_si hb (cB_si hb (cB_si hb (cB_si hb hB (by omega)) (by omega)) (by omega)) (by omega)) (by omega)) (by omega)) (by omega)) (by omega)
    rcases h with ⟨_, _, _, h3, r1, r2, r3, r4⟩ | ⟨_, _, _, hnb, i, hi, hi2, h3, hk, hpl, r1⟩
    · refine .inl ⟨hB2, ⟨m, hm, by simp (disch := omega) only [rd_hi, rd_mi, rd_hl, rd_ml, rd_hr, rd_mr, rd_si2, rd_sl1, rd_sl2, rd_sr1, rd_sr2]; exact h5⟩, ⟨nd + 1, by omega, by simp (disch := omega) only [rd_hi, rd_mi, rd_hl, rd_ml, rd_hr, rd_mr, rd_si2, rd_sl1, rd_sl2, rd_sr1, rd_sr2]⟩, by simp (disch := omega) only [rd_hi, rd_mi, rd_hl, rd_ml, rd_hr, rd_mr, rd_si2, rd_sl1, rd_sl2, rd_sr1, rd_sr2]; exact h3, by simp (disch := omega) only [rd_hi, rd_mi, rd_hl, rd_ml, rd_hr, rd_mr, rd_si2, rd_sl1, rd_sl2, rd_sr1, rd_sr2]; exact r1, r2, r3, by simp (disch := omega) only [rd_hi, rd_mi, rd_hl, rd_ml, rd_hr, rd_mr, rd_si2, rd_sl1, rd_sl2, rd_sr1, rd_sr2]; exact r4⟩
    · refine .inr ⟨hB2, ⟨m, hm, by simp (disch := omega) only [rd_hi, rd_mi, rd_hl, rd_ml, rd_hr, rd_mr, rd_si2, rd_sl1, rd_sl2, rd_sr1, rd_sr2]; exact h5⟩, ⟨nd + 1, by omega, by simp (disch := omega) only [rd_hi, rd_mi, rd_hl, rd_ml, rd_hr, rd_mr, rd_si2, rd_sl1, rd_sl2, rd_sr1, rd_sr2]⟩, hnb, i, hi, hi2, by simp (disch := omega) only [rd_hi, rd_mi, rd_hl, rd_ml, rd_hr, rd_mr, rd_si2, rd_sl1, rd_sl2, rd_sr1, rd_sr2]; exact h3, hk, hpl, by simp (disch := omega) only [rd_hi, rd_mi, rd_hl, rd_ml, rd_hr, rd_mr, rd_si2, rd_sl1, rd_sl2, rd_sr1, rd_sr2]; exact r1⟩
  · exact ok_F (by rw [h6, show (1000 : Int32) = nI 1000 from rfl, k_lt (by omega) (by omega)]; exact hl) (ok_some h)
theorem cD_type {k : Nat} {a : Int32} (hx : cX b M0 T n cnt) (h : cD b M0 T n cnt f nb pl M) : mv_ok (RX3_parseType (k + 1) 0 a M) (fun _ M' => cR b M0 cnt f nb pl M') := by
  obtain ⟨v, hv, e⟩ := cD_kind hx h
  rw [RX3_parseType]
  unfold fX3_parseType
  rw [e, k_bs]
  refine ok_F (fun z => by rw [show (40 : Int32) = nI 40 from rfl, k_eq (by omega) (by omega)] at z; omega) ?_
  exact ok_bind (ok_mono (cD_take (kc := 300) hx h (by omega) (by omega)) (fun _ M' h => ok_some h))
theorem cD_begin (hx : cX b M0 T n cnt) (h : cD b M0 T n cnt f nb pl M) : fX3_canBeginE M = some (nI 0, M) := by
  obtain ⟨v, hv, e⟩ := cD_kind hx h
  unfold fX3_canBeginE
  simp (disch := omega) only [e, k_iT, k_iF, Bool.false_eq_true, eq_self, Nat.add_zero, k_lt', k_bs, k_T, k_F, k_inb, k_ck, k_nz, ↓kN, kL, k_lt, k_le, k_eq, kn_le, kn_lt, kn_eq, kn_le', kn_lt', kn_eq', nI_clamp, nI_add, k_sub, k_mul, k_div, rd_hi, rd_mi, rd_hl, rd_ml, rd_hr, rd_mr, rd_si2, rd_sl1, rd_sl2, rd_sr1, rd_sr2]
theorem cD_joins {a : Int32} (hx : cX b M0 T n cnt) (h : cD b M0 T n cnt f nb pl M) : fX3_joinsAt a M = some (nI 0, M) := by
  obtain ⟨v, hv, e⟩ := cD_kind hx h
  unfold fX3_joinsAt
  simp (disch := omega) only [e, k_iT, k_iF, Bool.false_eq_true, eq_self, Nat.add_zero, k_lt', k_bs, k_T, k_F, k_inb, k_ck, k_nz, ↓kN, kL, k_lt, k_le, k_eq, kn_le, kn_lt, kn_eq, kn_le', kn_lt', kn_eq', nI_clamp, nI_add, k_sub, k_mul, k_div, rd_hi, rd_mi, rd_hl, rd_ml, rd_hr, rd_mr, rd_si2, rd_sl1, rd_sl2, rd_sr1, rd_sr2]
theorem cD_E {k : Nat} {a z : Int32} (hx : cX b M0 T n cnt) (h : cD b M0 T n cnt f nb pl M) : mv_ok (RX3_parseE (k + 1) 0 a z M) (fun _ M' => cR b M0 cnt f nb pl M') := by
  have e := cD_begin hx h
  rw [RX3_parseE, if_pos rfl]
  unfold fX3_parseE fX3_parseE_13 fX3_parseE_27
  simp only [e, k_bs]
  have key : mv_ok (mv_bind (fX3_stop 2 M) fun _ M18 => some ((-1 : Int32), M18)) (fun _ M' => cR b M0 cnt f nb pl M') := ok_bind (ok_mono (cD_stop hx h) (fun _ M' h => ok_some h))
  refine ok_if (fun _ => ok_T (c := nI 0 = 0) rfl key) (fun _ => ok_T (c := nI 0 = 0) rfl (ok_T (c := nI 0 = 0) rfl key))
theorem cD_atom {k : Nat} {a z : Int32} (hx : cX b M0 T n cnt) (h : cD b M0 T n cnt f nb pl M) : mv_ok (RX3_parseE (k + 1) 5 a z M) (fun _ M' => cR b M0 cnt f nb pl M') := by
  obtain ⟨v, hv, e⟩ := cD_kind hx h
  rw [RX3_parseE, if_neg (by decide), if_neg (by decide), if_neg (by decide), if_neg (by decide), if_neg (by decide), if_pos rfl]
  unfold fX3_parseAtom
  rw [k_lt', e, k_bs]
  refine ok_F (fun z => by rw [show (2 : Int32) = nI 2 from rfl, k_eq (by omega) (by omega)] at z; omega) ?_
  refine ok_F (fun z => by rw [show (3 : Int32) = nI 3 from rfl, k_eq (by omega) (by omega)] at z; omega) ?_
  refine ok_F (fun z => by rw [show (40 : Int32) = nI 40 from rfl, k_eq (by omega) (by omega)] at z; omega) ?_
  refine ok_F (fun z => by rw [show (308 : Int32) = nI 308 from rfl, k_eq (by omega) (by omega)] at z; omega) ?_
  exact ok_bind (ok_mono (cD_stop hx h) (fun _ M' h => ok_some h))
theorem cD_sides {a : Int32} (hx : cX b M0 T n cnt) : ∀ (r t k : Nat) (M : mv_M), t + r = 3 → r + 2 ≤ k → cD b M0 T n cnt f nb pl M → mv_ok (RX3_parseE k 4 a (nI t) M) (fun _ M' => cR b M0 cnt f nb pl M') := by
  intro r
  induction r with
  | zero =>
    intro t k M ht hk h
    obtain ⟨k, rfl⟩ : ∃ j, k = j + 1 + 1 := ⟨k - 2, by omega⟩
    obtain rfl : t = 3 := by omega
    rw [RX3_parseE, if_neg (by decide), if_neg (by decide), if_neg (by decide), if_neg (by decide), if_pos rfl]
    unfold fX3_parseSides
    refine ok_F (by decide) ?_
    exact ok_bind (ok_mono (cD_atom hx h) (fun _ M' h => ok_some h))
  | succ r ih =>
    intro t k M ht hk h
    obtain ⟨k, rfl⟩ : ∃ j, k = j + 1 := ⟨k - 1, by omega⟩
    rw [RX3_parseE, if_neg (by decide), if_neg (by decide), if_neg (by decide), if_neg (by decide), if_pos rfl]
    unfold fX3_parseSides
    refine ok_T (by rw [show (3 : Int32) = nI 3 from rfl, k_lt (by omega) (by omega)]; omega) ?_
    rw [nI_1]
    refine ok_bind (ok_mono (ih (t + 1) k M (by omega) (by omega) h) (fun r1 M1 h1 => ?_))
    rw [cD_joins hx (.inl h1), k_bs]
    exact ok_T (c := nI 0 = 0) rfl (ok_some h1)
end CD
