/-! reading behind writing -/
theorem rd_si {M : mv_M} {c k c' k' : Nat} {v : Int32} : (mv_si M c k v).1 c' k' = if c' = c ∧ k' = k then v else M.1 c' k' := rfl
theorem rd_sl {M : mv_M} {c k c' k' : Nat} {v : Int64} : (mv_sl M c k v).2.1 c' k' = if c' = c ∧ k' = k then v else M.2.1 c' k' := rfl
theorem rd_sr {M : mv_M} {c k c' k' : Nat} {v : Option Nat} : (mv_sr M c k v).2.2 c' k' = if c' = c ∧ k' = k then v else M.2.2 c' k' := rfl
theorem rd_si2 {M : mv_M} {c k : Nat} {v : Int32} : (mv_si M c k v).2 = M.2 := rfl
theorem rd_sl1 {M : mv_M} {c k : Nat} {v : Int64} : (mv_sl M c k v).1 = M.1 := rfl
theorem rd_sl2 {M : mv_M} {c k : Nat} {v : Int64} : (mv_sl M c k v).2.2 = M.2.2 := rfl
theorem rd_sr1 {M : mv_M} {c k : Nat} {v : Option Nat} : (mv_sr M c k v).1 = M.1 := rfl
theorem rd_sr2 {M : mv_M} {c k : Nat} {v : Option Nat} : (mv_sr M c k v).2.1 = M.2.1 := rfl
/-- a byte of the class's tape, and the reference's of it -/
def pb_r (cb mb : Int32) : Prop := ∃ t : Nat, t < 256 ∧ mb = nI t ∧ cb = sb_b t
theorem pb_of (y : Int32) : pb_r y.toInt8.toInt32 (y &&& 255) := by
  refine ⟨y.toBitVec.toNat % 256, Nat.mod_lt _ (by decide), pk_and y 8 (by decide), ?_⟩
  unfold sb_b
  congr 1
  apply Int8.toBitVec_inj.mp
  apply BitVec.eq_of_toNat_eq
  show (y.toBitVec.signExtend 8).toNat = ((nI (y.toBitVec.toNat % 256)).toBitVec.signExtend 8).toNat
  rw [BitVec.signExtend_eq_setWidth_of_le _ (by decide), BitVec.signExtend_eq_setWidth_of_le _ (by decide), BitVec.toNat_setWidth, BitVec.toNat_setWidth, pk_tn (by omega)]
  omega
theorem ap1 {a x2 : Int32} {M : mv_M} {n : Nat} (hx : ¬ x2 < 0) (hs : M.1 2 1 = nI n) (hn : n < 4000) : gX8_append_3 a x2 M = some (.inl (a, x2 - 8), mv_si (mv_si M 39 n ((a >>> (x2 &&& 31)).toInt8.toInt32)) 2 1 (nI (n + 1))) := by
  unfold gX8_append_3 mv_let
  rw [if_neg hx, hs, if_neg (show ¬ (4000 : Int32) ≤ nI n from (nI_ge hn (by decide) : ¬ nI 4000 ≤ nI n)), nI_inb hn (by omega), nI_clamp (by omega), pk_vb]
  have h1 : (mv_si M 39 n ((a >>> (x2 &&& 31)).toInt8.toInt32)).1 2 1 = nI n := by
    rw [rd_si, if_neg (by omega)]
    exact hs
  dsimp only
  rw [h1, nI_1]
  rfl
/-- four bytes come behind the tape -/
theorem ap4 {a : Int32} {M : mv_M} {n : Nat} (hs : M.1 2 1 = nI n) (hn : n + 4 ≤ 4000) : mv_ok (fX8_append a M) (fun _ M' => M'.1 2 1 = nI (n + 4) ∧ (∀ k, k < n → M'.1 39 k = M.1 39 k) ∧ ∀ j, j < 4 → M'.1 39 (n + j) = (a >>> ((24 - 8 * nI j) &&& 31)).toInt8.toInt32) := by
  unfold fX8_append fX8_append_3
  refine ok_loop ?_
  refine ok_eq (ap1 (x2 := 24) (by decide) hs (by omega)) ?_
  dsimp only
  refine ok_loop ?_
  refine ok_eq (ap1 (x2 := 24 - 8) (n := n + 1) (by decide) (by rw [rd_si, if_pos ⟨rfl, rfl⟩]) (by omega)) ?_
  dsimp only
  refine ok_loop ?_
  refine ok_eq (ap1 (x2 := 24 - 8 - 8) (n := n + 2) (by decide) (by rw [rd_si, if_pos ⟨rfl, rfl⟩]) (by omega)) ?_
  dsimp only
  refine ok_loop ?_
  refine ok_eq (ap1 (x2 := 24 - 8 - 8 - 8) (n := n + 3) (by decide) (by rw [rd_si, if_pos ⟨rfl, rfl⟩]) (by omega)) ?_
  dsimp only
  refine ok_loop ?_
  unfold gX8_append_3
  refine ok_T (show (24 - 8 - 8 - 8 - 8 : Int32) < 0 by decide) ?_
  refine ok_some ?_
  refine ⟨by rw [rd_si, if_pos ⟨rfl, rfl⟩], fun k hk => ?_, fun j hj => ?_⟩
  · repeat rw [rd_si]
    repeat first | rw [if_neg (by omega)] | rw [if_pos (by omega)]
  · rcases (show j = 0 ∨ j = 1 ∨ j = 2 ∨ j = 3 by omega) with rfl | rfl | rfl | rfl
    · repeat rw [rd_si]
      repeat first | rw [if_neg (by omega)] | rw [if_pos (by omega)]
      rfl
    · repeat rw [rd_si]
      repeat first | rw [if_neg (by omega)] | rw [if_pos (by omega)]
      rfl
    · repeat rw [rd_si]
      repeat first | rw [if_neg (by omega)] | rw [if_pos (by omega)]
      rfl
    · repeat rw [rd_si]
      repeat first | rw [if_neg (by omega)] | rw [if_pos (by omega)]
      rfl

theorem rem4 (k : Nat) (h : k < 20) : nI k - nI k / 4 * 4 = nI (k % 4) := pk_rem (by omega) (by decide) (by decide)
/-- which of the five numbers the k-th byte of a feed is of -/
def fd_n (a b c d e : Int32) (k : Nat) : Int32 := if k < 4 then a else if k < 8 then b else if k < 12 then c else if k < 16 then d else e
theorem mf1 {x1 x2 x3 x4 x5 : Int32} {M : mv_M} {n k : Nat} (hs : M.1 62 2 = nI n) (hn : n < 4000) (hk : k < 20) : gX11_feed_34 x1 x2 x3 x4 x5 (nI k) M = some (.inl (x1, x2, x3, x4, x5, nI (k + 1)), mv_si (mv_si M 63 n ((fd_n x1 x2 x3 x4 x5 k >>> ((24 - 8 * nI (k % 4)) &&& 31)) &&& 255)) 62 2 (nI (n + 1))) := by
  have key : ∀ s0 : Int32, fX11_feed_87 x1 x2 x3 x4 x5 (nI k) s0 M = some (.inl (x1, x2, x3, x4, x5, nI (k + 1)), mv_si (mv_si M 63 n ((s0 >>> ((24 - 8 * nI (k % 4)) &&& 31)) &&& 255)) 62 2 (nI (n + 1))) := by
    intro s0
    unfold fX11_feed_87 mv_let
    rw [hs, nI_inb hn (by omega), nI_clamp (by omega), rem4 k hk]
    dsimp only
    have h1 : ∀ v, (mv_si M 63 n v).1 62 2 = nI n := fun v => by
      rw [rd_si, if_neg (by omega)]
      exact hs
    rw [h1, nI_1, nI_1]
    rfl
  unfold gX11_feed_34 fd_n
  have hl : ∀ j : Nat, j < 2 ^ 31 → ((OfNat.ofNat j : Int32) ≤ nI k ↔ j ≤ k) := fun j hj => nI_leI hj (by omega)
  simp only [hl 20 (by decide), hl 4 (by decide), hl 8 (by decide), hl 12 (by decide), hl 16 (by decide), key]
  rcases (show k < 4 ∨ (4 ≤ k ∧ k < 8) ∨ (8 ≤ k ∧ k < 12) ∨ (12 ≤ k ∧ k < 16) ∨ 16 ≤ k by omega) with h | h | h | h | h
  all_goals repeat first | rw [if_neg (by omega)] | rw [if_pos (by omega)]
theorem mf20 {x1 x2 x3 x4 x5 : Int32} {n : Nat} (hn : n + 20 ≤ 4000) (T : Nat → Int32) : ∀ (r k : Nat) (M : mv_M), k + r = 20 → M.1 62 0 = 0 → M.1 62 2 = nI (n + k) → (∀ j, j < n → M.1 63 j = T j) → (∀ j, j < k → M.1 63 (n + j) = (fd_n x1 x2 x3 x4 x5 j >>> ((24 - 8 * nI (j % 4)) &&& 31)) &&& 255) →
    mv_ok (fX11_feed_34 x1 x2 x3 x4 x5 (nI k) M) (fun a M' => a = nI (n + 20) ∧ M'.1 62 0 = 0 ∧ M'.1 62 2 = nI (n + 20) ∧ (∀ j, j < n → M'.1 63 j = T j) ∧ ∀ j, j < 20 → M'.1 63 (n + j) = (fd_n x1 x2 x3 x4 x5 j >>> ((24 - 8 * nI (j % 4)) &&& 31)) &&& 255) := by
  intro r
  induction r with
  | zero =>
    intro k M hk h0 hs h1 h2
    obtain rfl : k = 20 := by omega
    unfold fX11_feed_34
    refine ok_loop ?_
    dsimp only
    unfold gX11_feed_34
    refine ok_T (show (20 : Int32) ≤ nI 20 by decide) ?_
    exact ok_some ⟨hs, h0, hs, h1, h2⟩
  | succ r ih =>
    intro k M hk h0 hs h1 h2
    unfold fX11_feed_34
    refine ok_loop ?_
    refine ok_eq (mf1 (x1 := x1) (x2 := x2) (x3 := x3) (x4 := x4) (x5 := x5) (n := n + k) hs (by omega) (by omega)) ?_
    refine ih (k + 1) _ (by omega) (by rw [rd_si, rd_si, if_neg (by omega), if_neg (by omega)]; exact h0) (by rw [rd_si, if_pos (by omega)]; rfl) (fun j hj => ?_) (fun j hj => ?_)
    · rw [rd_si, rd_si, if_neg (by omega), if_neg (by omega)]
      exact h1 j hj
    · rw [rd_si, rd_si, if_neg (by omega)]
      by_cases hjk : j = k
      · subst hjk
        rw [if_pos (by omega)]
      · rw [if_neg (by omega)]
        exact h2 j (by omega)

/-! the tapes: n bytes, and byte by byte the same -/
def pi_tape (M : mv_M) : Prop := ∃ n : Nat, n ≤ 4000 ∧ M.1 2 1 = nI n ∧ M.1 62 2 = nI n ∧ ∀ k, k < n → pb_r (M.1 39 k) (M.1 63 k)
theorem ap20 {a b c d e : Int32} {M : mv_M} {n : Nat} (hs : M.1 2 1 = nI n) (hn : n + 20 ≤ 4000) : mv_ok (fX10_feed a b c d e M) (fun r M' => r = .inl (nI (n + 20)) ∧ M'.1 2 1 = nI (n + 20) ∧ (∀ k, k < n → M'.1 39 k = M.1 39 k) ∧ ∀ j, j < 20 → M'.1 39 (n + j) = (fd_n a b c d e j >>> ((24 - 8 * nI (j % 4)) &&& 31)).toInt8.toInt32) := by
  unfold fX10_feed
  refine ok_T (by rw [hs]; exact nI_le (show n ≤ 3980 by omega) (by decide)) ?_
  refine ok_bind (ok_mono (ap4 hs (by omega)) (fun _ M1 h1 => ?_))
  refine ok_bind (ok_mono (ap4 h1.1 (by omega)) (fun _ M2 h2 => ?_))
  refine ok_bind (ok_mono (ap4 h2.1 (by omega)) (fun _ M3 h3 => ?_))
  refine ok_bind (ok_mono (ap4 h3.1 (by omega)) (fun _ M4 h4 => ?_))
  refine ok_bind (ok_mono (ap4 h4.1 (by omega)) (fun _ M5 h5 => ?_))
  refine ok_some ⟨by rw [h5.1], h5.1, fun k hk => ?_, fun j hj => ?_⟩
  · rw [h5.2.1 k (by omega), h4.2.1 k (by omega), h3.2.1 k (by omega), h2.2.1 k (by omega), h1.2.1 k hk]
  · unfold fd_n
    by_cases c1 : j < 4
    · rw [if_pos c1, h5.2.1 _ (by omega), h4.2.1 _ (by omega), h3.2.1 _ (by omega), h2.2.1 _ (by omega), h1.2.2 j c1, Nat.mod_eq_of_lt c1]
    · rw [if_neg c1]
      by_cases c2 : j < 8
      · rw [if_pos c2, h5.2.1 _ (by omega), h4.2.1 _ (by omega), h3.2.1 _ (by omega), show n + j = n + 4 + (j - 4) by omega, h2.2.2 _ (by omega), show j - 4 = j % 4 by omega]
      · rw [if_neg c2]
        by_cases c3 : j < 12
        · rw [if_pos c3, h5.2.1 _ (by omega), h4.2.1 _ (by omega), show n + j = n + 4 + 4 + (j - 8) by omega, h3.2.2 _ (by omega), show j - 8 = j % 4 by omega]
        · rw [if_neg c3]
          by_cases c4 : j < 16
          · rw [if_pos c4, h5.2.1 _ (by omega), show n + j = n + 4 + 4 + 4 + (j - 12) by omega, h4.2.2 _ (by omega), show j - 12 = j % 4 by omega]
          · rw [if_neg c4, show n + j = n + 4 + 4 + 4 + 4 + (j - 16) by omega, h5.2.2 _ (by omega), show j - 16 = j % 4 by omega]
