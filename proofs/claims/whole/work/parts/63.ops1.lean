/-! feed, cut, place -/
theorem t0 : (0 : Int32).toNatClampNeg = 0 := rfl
theorem op_feed (a b c d e : Int32) : pm_I pi_tape (fL_feed a b c d e) (fX11_feed a b c d e) := by
  intro M hI
  obtain ⟨n, hn, h1, h2, h3⟩ := hI
  unfold fL_feed
  by_cases hr : n + 20 ≤ 4000
  · refine ok_tryx (ok_mono (ok_frm (qX10_feed a b c d e M) (ap20 h1 hr)) (fun r M1 h => ?_))
    obtain ⟨⟨rfl, k1, k2, k3⟩, hf⟩ := h
    dsimp only
    refine ok_let (ok_some ?_)
    unfold fX11_feed
    have e2 : M1.1 62 2 = nI n := ((hf 62 2 (by decide)).1).trans h2
    have e3 : ∀ j, M1.1 63 j = M.1 63 j := fun j => (hf 63 j (mv_S_no (by decide))).1
    rw [rd_sl1]
    refine ok_T (by rw [e2, show nI n + 20 = nI (n + 20) from nI_add n 20]; exact nI_le (show n + 20 ≤ 4000 by omega) (by decide)) ?_
    unfold fX11_feed_19
    refine ok_let ?_
    refine ok_T (by rw [rd_si, if_pos ⟨rfl, rfl⟩]; decide) ?_
    refine ok_mono (ok_frm (qX11_feed_34 _ _ _ _ _ _ _) (mf20 (x1 := a) (x2 := b) (x3 := c) (x4 := d) (x5 := e) hr (fun j => M.1 63 j) 20 0 _ rfl (by rw [rd_si, if_pos ⟨rfl, rfl⟩]) (by rw [rd_si, if_neg (by omega), rd_sl1]; exact e2) (fun j hj => by rw [rd_si, if_neg (by omega), rd_sl1]; exact e3 j) (fun j hj => absurd hj (Nat.not_lt_zero j)))) (fun r M2 h => ?_)
    obtain ⟨⟨rfl, m0, m1, m2, m3⟩, hg⟩ := h
    refine ⟨m0, fun _ => ?_, n + 20, hr, ?_, m1, fun k hk => ?_⟩
    · rw [(hg 106 0 (mv_S_no (by decide))).2.1, rd_si2, t0, rd_sl, if_pos ⟨rfl, rfl⟩]
    · rw [(hg 2 1 (by decide)).1, rd_si, if_neg (by omega), rd_sl1]
      exact k1
    · have g39 : M2.1 39 k = M1.1 39 k := by
        rw [(hg 39 k (mv_S_no (by decide))).1, rd_si, if_neg (by omega), rd_sl1]
      rw [g39]
      by_cases hk2 : k < n
      · rw [k2 k hk2, m2 k hk2]
        exact h3 k hk2
      · rw [show k = n + (k - n) by omega, k3 (k - n) (by omega), m3 (k - n) (by omega)]
        exact pb_of _
  · refine ok_tryx ?_
    unfold fX10_feed
    refine ok_F (by rw [h1]; exact fun z => hr (by have := (nI_leI (a := n) (b := 3980) (by omega) (by decide)).mp z; omega)) ?_
    refine ok_some ?_
    dsimp only
    refine ok_T rfl (ok_some ?_)
    unfold fX11_feed
    refine ok_F (by rw [h2, show nI n + 20 = nI (n + 20) from nI_add n 20]; exact fun z => hr ((nI_leI (a := n + 20) (b := 4000) (by omega) (by decide)).mp z)) ?_
    unfold fX11_feed_19
    refine ok_let ?_
    refine ok_F (by rw [rd_si, if_pos ⟨rfl, rfl⟩]; decide) (ok_some ?_)
    refine ⟨by rw [rd_si, if_pos ⟨rfl, rfl⟩], fun z => absurd z (by decide), n, hn, ?_, ?_, fun k hk => ?_⟩
    · rw [rd_si, if_neg (by omega)]; exact h1
    · rw [rd_si, if_neg (by omega)]; exact h2
    · rw [rd_si, rd_si, if_neg (by omega), if_neg (by omega)]; exact h3 k hk
theorem within_eq (a lo hi : Int64) (M : mv_M) : fX11_within a lo hi M = some (if lo ≤ a ∧ a ≤ hi then 1 else 0, M) := by
  unfold fX11_within
  by_cases h1 : a < lo
  · rw [if_pos ((lg_cmp_lt a lo).mpr h1), if_neg (fun z => by have := z.1; simp only [Int64.le_iff_toInt_le, Int64.lt_iff_toInt_lt] at *; omega)]
  · rw [if_neg (fun z => h1 ((lg_cmp_lt a lo).mp z))]
    by_cases h2 : hi < a
    · rw [if_pos ((lg_cmp_gt a hi).mpr h2), if_neg (fun z => by have := z.2; simp only [Int64.le_iff_toInt_le, Int64.lt_iff_toInt_lt] at *; omega)]
    · rw [if_neg (fun z => h2 ((lg_cmp_gt a hi).mp z)), if_pos ⟨by simp only [Int64.le_iff_toInt_le, Int64.lt_iff_toInt_lt] at *; omega, by simp only [Int64.le_iff_toInt_le, Int64.lt_iff_toInt_lt] at *; omega⟩]
theorem le_i2l {x y : Int32} : x.toInt64 ≤ y.toInt64 ↔ x ≤ y := by
  rw [Int64.le_iff_toInt_le, Int32.le_iff_toInt_le, Int32.toInt_toInt64, Int32.toInt_toInt64]
theorem op_cut (a : Int32) : pm_I pi_tape (fL_cut a) (fX11_cut a) := by
  intro M hI
  obtain ⟨n, hn, h1, h2, h3⟩ := hI
  have hz : (0 : Int64) = (0 : Int32).toInt64 := by decide
  unfold fL_cut
  by_cases hr : 0 ≤ a ∧ a ≤ nI n
  · obtain ⟨j, hj, rfl⟩ : ∃ j : Nat, j ≤ n ∧ a = nI j := nI_of2 (n := n) (nI_toInt (by omega)) (fun z => by have := hr.1; simp only [Int32.le_iff_toInt_le, Int32.lt_iff_toInt_lt] at *; omega) hr.2
    refine ok_tryx ?_
    unfold fX10_cut
    refine ok_F (nI_pos (by omega)) ?_
    refine ok_T (by rw [h1]; exact hr.2) ?_
    refine ok_let (ok_let (ok_some ?_))
    dsimp only
    refine ok_let (ok_some ?_)
    unfold fX11_cut
    refine ok_bind (ok_eq (within_eq _ _ _ _) ?_)
    rw [rd_sl1, rd_si, if_neg (by omega), h2, if_pos ⟨by rw [hz, le_i2l]; exact hr.1, by rw [le_i2l]; exact hr.2⟩]
    refine ok_F (by decide) ?_
    unfold fX11_cut_20
    refine ok_let ?_
    refine ok_T (by rw [rd_si, if_pos ⟨rfl, rfl⟩]; decide) ?_
    refine ok_let (ok_let (ok_some ?_))
    have e1 : (mv_sl (mv_si M 2 1 (nI j)) 106 (0 : Int32).toNatClampNeg (M.1 2 1 - nI j).toInt64).1 62 2 = nI n := by
      rw [rd_sl1, rd_si, if_neg (by omega)]; exact h2
    refine ⟨?_, fun _ => ?_, j, by omega, ?_, ?_, fun k hk => ?_⟩
    · rw [rd_si, if_neg (by omega), rd_si, if_pos ⟨rfl, rfl⟩]
    · rw [rd_si2, rd_si2, t0, rd_sl, if_pos ⟨rfl, rfl⟩, rd_si, if_neg (by omega), rd_sl1, rd_si, if_neg (by omega), h1, h2]
    · rw [rd_si, if_neg (by omega), rd_si, if_neg (by omega), rd_sl1, rd_si, if_pos ⟨rfl, rfl⟩]
    · rw [rd_si, if_pos ⟨rfl, rfl⟩]
    · rw [rd_si, if_neg (by omega), rd_si, if_neg (by omega), rd_sl1, rd_si, if_neg (by omega), rd_si, if_neg (by omega), rd_si, if_neg (by omega), rd_sl1, rd_si, if_neg (by omega)]
      exact h3 k (by omega)
  · have hc : fX10_cut a M = some (.inr "java/lang/IllegalArgumentException", M) := by
      unfold fX10_cut fX10_cut_15
      by_cases h0 : a < 0
      · rw [if_pos h0]
      · rw [if_neg h0, if_neg (fun z => hr ⟨by simp only [Int32.le_iff_toInt_le, Int32.lt_iff_toInt_lt] at *; omega, by rw [← h1]; exact z⟩)]
    refine ok_tryx (ok_eq hc ?_)
    dsimp only
    refine ok_T rfl (ok_some ?_)
    unfold fX11_cut
    refine ok_bind (ok_eq (within_eq _ _ _ _) ?_)
    rw [h2, if_neg (fun z => hr ⟨by rw [hz, le_i2l] at z; exact z.1, le_i2l.mp z.2⟩)]
    refine ok_T rfl ?_
    unfold fX11_cut_20
    refine ok_let ?_
    refine ok_F (by rw [rd_si, if_pos ⟨rfl, rfl⟩]; decide) (ok_some ?_)
    refine ⟨by rw [rd_si, if_pos ⟨rfl, rfl⟩], fun z => absurd z (by decide), n, hn, ?_, ?_, fun k hk => ?_⟩
    · rw [rd_si, if_neg (by omega)]; exact h1
    · rw [rd_si, if_neg (by omega)]; exact h2
    · rw [rd_si, rd_si, if_neg (by omega), if_neg (by omega)]; exact h3 k hk
