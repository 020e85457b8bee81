/-! DEMANDS: rows for use -/
theorem pu_near (x y z : Int32) : PU (fX11_nearBoth x y z) := by
  unfold fX11_nearBoth fX11_nearBoth_8 fX11_nearBoth_64 fX11_nearBoth_83
  exact PU_if (PU_if PU_some PU_some) (PU_if (PU_if PU_some PU_some) (PU_if (PU_if PU_some PU_some) (PU_if PU_some PU_some)))
theorem pu_part (x y z w : Int32) : PU (fX11_partBoth x y z w) := by
  unfold fX11_partBoth
  exact PU_if (PU_if PU_some PU_some) (PU_bind (pu_near y z w) fun v => PU_some)
theorem pu_joined (x y z w : Int32) : PU (fX11_joined x y z w) := by
  unfold fX11_joined fX11_joined_12 fX11_joined_20
  exact PU_if (PU_if (PU_if PU_some PU_some) (PU_if (PU_if PU_some PU_some) PU_some)) (PU_if (PU_if (PU_if PU_some PU_some) (PU_if (PU_if PU_some PU_some) PU_some)) (PU_if (PU_if (PU_if PU_some PU_some) (PU_if (PU_if PU_some PU_some) PU_some)) (PU_bind (pu_rsnd x) fun v1 => PU_bind (pu_rdem v1) fun v2 => PU_bind (pu_rfst x) fun v3 => PU_chk (PU_chk (PU_bind (pu_part v3 _ _ w) fun v4 => PU_bind (pu_rsnd x) fun v5 => PU_chk (PU_chk (PU_bind (pu_part v5 _ _ w) fun v6 => PU_some)))))))
theorem dm_jnB : allN 5 (fun t => allN (dem t) fun a => allN (dem t) fun b => decide (ev (fX11_joined (nI t) (nI a) (nI b) 1) = some (nI (tg t a b))) && decide (ev (fX11_joined (nI t) (nI a) (nI b) 0) = some (nI (ei t a b)))) = true := by decide +kernel
/-- whatever is joined, something comes of it -/
theorem jn_any (x y z w : Int32) : ∃ v, ∀ M, fX11_joined x y z w M = some (v, M) := by
  have hn : ∀ x y z : Int32, ∃ v, ∀ M, fX11_nearBoth x y z M = some (v, M) := by
    intro x y z
    unfold fX11_nearBoth fX11_nearBoth_8 fX11_nearBoth_64 fX11_nearBoth_83 mv_let
    by_cases h1 : x = 0 <;> by_cases h2 : y = 0 <;> by_cases h3 : z = 0 <;> simp only [h1, h2, h3, if_true, if_false] <;> exact ⟨_, fun _ => rfl⟩
  have hp : ∀ x y z w : Int32, ∃ v, ∀ M, fX11_partBoth x y z w M = some (v, M) := by
    intro x y z w
    obtain ⟨v, hv⟩ := hn y z w
    unfold fX11_partBoth
    simp only [hv, k_bs]
    by_cases h1 : x = 0 <;> by_cases h2 : w = 0 <;> simp only [h1, h2, if_true, if_false] <;> exact ⟨_, fun _ => rfl⟩
  have hs : ∃ s : Int32, (s = 0 ∨ s = 1) ∧ ∀ M, fX11_secondOf x M = some (s, M) := by
    unfold fX11_secondOf fX11_secondOf_10
    by_cases h1 : x = 2
    · exact ⟨1, .inr rfl, fun M => by rw [if_pos h1]⟩
    · by_cases h2 : x = 4
      · exact ⟨1, .inr rfl, fun M => by rw [if_neg h1, if_pos h2]⟩
      · exact ⟨0, .inl rfl, fun M => by rw [if_neg h1, if_neg h2]⟩
  obtain ⟨s, hs1, hs2⟩ := hs
  have hd : ∃ n : Int32, mv_nz n = true ∧ ∀ M, fX11_demands s M = some (n, M) := by
    rcases hs1 with rfl | rfl
    · exact ⟨2, by decide, fun _ => rfl⟩
    · exact ⟨5, by decide, fun _ => rfl⟩
  obtain ⟨nn, hn1, hn2⟩ := hd
  have hf : ∃ v, ∀ M, fX11_firstOf x M = some (v, M) := by
    unfold fX11_firstOf
    by_cases h1 : x < 3
    · exact ⟨_, fun M => by rw [if_pos h1]⟩
    · exact ⟨_, fun M => by rw [if_neg h1]⟩
  obtain ⟨fv, hf⟩ := hf
  obtain ⟨v1, h1⟩ := hp fv ((y - 1) / nn) ((z - 1) / nn) w
  obtain ⟨v2, h2⟩ := hp s ((y - 1) - (y - 1) / nn * nn) ((z - 1) - (z - 1) / nn * nn) w
  have h12 : ∀ y z w : Int32, ∃ v, ∀ M, fX11_joined_12 y z w M = some (v, M) := by
    intro y z w
    unfold fX11_joined_12 fX11_joined_20
    by_cases a1 : y = 0 <;> by_cases a2 : z = 0 <;> by_cases a3 : w = 0 <;> simp only [a1, a2, a3, if_true, if_false] <;> exact ⟨_, fun _ => rfl⟩
  obtain ⟨v3, h3⟩ := h12 y z w
  unfold fX11_joined
  simp only [hs2, k_bs, hn2, hf, hn1, k_ck, h1, h2, h3]
  by_cases a0 : x = 0
  · exact ⟨v3, fun M => by rw [if_pos a0]⟩
  · by_cases a1 : y = 0
    · exact ⟨v3, fun M => by rw [if_neg a0, if_pos a1]⟩
    · by_cases a2 : z = 0
      · exact ⟨v3, fun M => by rw [if_neg a0, if_neg a1, if_pos a2]⟩
      · exact ⟨_, fun M => by rw [if_neg a0, if_neg a1, if_neg a2]⟩
section DM
variable {t a b c d e x y x' y' : Nat}
theorem dem_pos : 0 < dem t := by
  unfold dem
  repeat' split
  all_goals omega
theorem dem_le : dem t ≤ 26 := by
  unfold dem
  repeat' split
  all_goals omega
theorem tg_row (ht : t < 6) (ha : a < dem t) (hb : b < dem t) : tg t a b < dem t ∧ tg t a b = tg t b a ∧ ei t a b < dem t ∧ tg t 0 b = b ∧ (tg t a b = 0 → a = 0 ∧ b = 0) ∧ ei t (ei t a b) b = ei t a b ∧ ei t (ei t a b) a = ei t a b ∧ ei t a a = a := by
  have h := allN_s (allN_s (allN_s dm_tgB t ht) a ha) b hb
  simpa only [Bool.and_eq_true, decide_eq_true_eq] using h
theorem le_row (ht : t < 6) (ha : a < dem t) (hb : b < dem t) (h : ei t a b = a) : a ≤ b ∧ (ei t b a = b → a = b) ∧ (a ≠ 0 → b ≠ 0) := by
  have h1 := allN_s (allN_s (allN_s dm_leB t ht) a ha) b hb
  exact (of_decide_eq_true h1) h
theorem d3_row (ht : t < 6) (ha : a < dem t) (hb : b < dem t) (h : ei t a b = a) (hc : c < dem t) : ei t (tg t a c) (tg t b c) = tg t a c ∧ ei t (ei t a c) (ei t b c) = ei t a c ∧ (ei t b c = b → ei t a c = a) := by
  have h1 := allN_s (allN_s (allN_s dm_3B t ht) a ha) b hb
  simp only [h, decide_true, Bool.not_true, Bool.false_or] at h1
  have h2 := allN_s h1 c hc
  simpa only [Bool.and_eq_true, decide_eq_true_eq] using h2
theorem pt_row (ht : t < 5) (h0 : t ≠ 0) (hd : d < dem t) (hd0 : d ≠ 0) : af t d < dem ((t - 1) / 2) ∧ as t d < dem ((t - 1) % 2) ∧ pd t (af t d) (as t d) = d := by
  have h1 := allN_s dm_ptB t ht
  simp only [h0, decide_false, Bool.false_or] at h1
  have h2 := allN_s h1 d hd
  simp only [hd0, decide_false, Bool.false_or, Bool.and_eq_true, decide_eq_true_eq] at h2
  exact ⟨h2.1, h2.2.1, h2.2.2.1⟩
theorem pt_mono (ht : t < 5) (h0 : t ≠ 0) (hd : d < dem t) (hd0 : d ≠ 0) (he : e < dem t) (h : ei t d e = d) : ei ((t - 1) / 2) (af t d) (af t e) = af t d ∧ ei ((t - 1) % 2) (as t d) (as t e) = as t d := by
  have h1 := allN_s dm_ptB t ht
  simp only [h0, decide_false, Bool.false_or] at h1
  have h2 := allN_s h1 d hd
  simp only [hd0, decide_false, Bool.false_or, Bool.and_eq_true] at h2
  have h3 := allN_s h2.2.2.2 e he
  exact (of_decide_eq_true h3) h
theorem pd_row (ht : t < 5) (h0 : t ≠ 0) (hx : x < dem ((t - 1) / 2)) (hy : y < dem ((t - 1) % 2)) : 0 < pd t x y ∧ pd t x y < dem t ∧ af t (pd t x y) = x ∧ as t (pd t x y) = y := by
  have h1 := allN_s dm_pdB t ht
  simp only [h0, decide_false, Bool.false_or] at h1
  have h2 := allN_s (allN_s h1 x hx) y hy
  simp only [Bool.and_eq_true, decide_eq_true_eq] at h2
  exact ⟨h2.1, h2.2.1, h2.2.2.1, h2.2.2.2.1⟩
theorem pd_mono (ht : t < 5) (h0 : t ≠ 0) (hx : x < dem ((t - 1) / 2)) (hy : y < dem ((t - 1) % 2)) (hx' : x' < dem ((t - 1) / 2)) (hy' : y' < dem ((t - 1) % 2)) (h1 : ei ((t - 1) / 2) x x' = x) (h2 : ei ((t - 1) % 2) y y' = y) : ei t (pd t x y) (pd t x' y') = pd t x y := by
  have a1 := allN_s dm_pdB t ht
  simp only [h0, decide_false, Bool.false_or] at a1
  have a2 := allN_s (allN_s a1 x hx) y hy
  simp only [Bool.and_eq_true] at a2
  have a3 := allN_s a2.2.2.2.2 x' hx'
  simp only [h1, decide_true, Bool.not_true, Bool.false_or] at a3
  exact (of_decide_eq_true (allN_s a3 y' hy')) h2
variable {M : mv_M}
theorem cl_row (ht : t < 5) (ha : a < dem t) : fX6_demandsOf (nI t) M = some (nI (dem t), M) ∧ fX11_demands (nI t) M = some (nI (dem t), M) ∧ (a ≠ 0 → t ≠ 0 → fX6_askedOfFirst (nI t) (nI a) M = some (nI (af t a), M) ∧ fX6_askedOfSecond (nI t) (nI a) M = some (nI (as t a), M)) ∧ ∀ b, b < dem t → tX6_together (nI t) (nI a) (nI b) M = some (nI (tg t a b), M) ∧ tX6_either (nI t) (nI a) (nI b) M = some (nI (ei t a b), M) := by
  have h := allN_s (allN_s dm_clB t ht) a ha
  simp only [Bool.and_eq_true, decide_eq_true_eq] at h
  obtain ⟨h1, h2, h3, h4, h5⟩ := h
  refine ⟨PU_val (pu_dem _) h1 M, PU_val (pu_rdem _) h2 M, fun u1 u2 => ?_, fun b hb => ?_⟩
  · exact ⟨PU_val (pu_af _ _) ((h3.resolve_left u1).resolve_left u2) M, PU_val (pu_as _ _) ((h4.resolve_left u1).resolve_left u2) M⟩
  · have h6 := allN_s h5 b hb
    simp only [Bool.and_eq_true, decide_eq_true_eq] at h6
    exact ⟨PU_val (pu_tg 12 0 _ _ _) h6.1 M, PU_val (pu_ei 12 0 _ _ _) h6.2 M⟩
theorem cl_dem (ht : t < 5) : fX6_demandsOf (nI t) M = some (nI (dem t), M) ∧ fX11_demands (nI t) M = some (nI (dem t), M) := ⟨(cl_row (a := 0) ht dem_pos).1, (cl_row (a := 0) ht dem_pos).2.1⟩
theorem cl_pd (ht : t < 5) (hx : x < 30) (hy : y < 30) : fX6_pairDemand (nI t) (nI x) (nI y) M = some (nI (pd t x y), M) := by
  have h1 := (f_second (y := t) (by omega) M).1
  have h2 := (cl_dem (t := (t - 1) % 2) (M := M) (by omega)).1
  have h3 : dem ((t - 1) % 2) ≤ 26 := dem_le
  unfold fX6_pairDemand
  rw [h1, k_bs, h2, k_bs, show (1 : Int32) = nI 1 from rfl, k_mul, nI_add, nI_add]
  rfl
theorem jn_row (ht : t < 5) (ha : a < dem t) (hb : b < dem t) : fX11_joined (nI t) (nI a) (nI b) 1 M = some (nI (tg t a b), M) ∧ fX11_joined (nI t) (nI a) (nI b) 0 M = some (nI (ei t a b), M) := by
  have h := allN_s (allN_s (allN_s dm_jnB t ht) a ha) b hb
  simp only [Bool.and_eq_true, decide_eq_true_eq] at h
  exact ⟨PU_val (pu_joined _ _ _ _) h.1 M, PU_val (pu_joined _ _ _ _) h.2 M⟩
theorem jn_0 {v : Int32} : fX11_joined v 0 0 1 M = some (0, M) ∧ fX11_joined v 0 0 0 M = some (0, M) := by
  unfold fX11_joined fX11_joined_12 fX11_joined_20
  by_cases h : v = 0
  · rw [if_pos h, if_pos h]; exact ⟨rfl, rfl⟩
  · rw [if_neg h, if_neg h]; exact ⟨rfl, rfl⟩
theorem ei_0 {v w : Int32} : tX6_either v 0 w M = some (0, M) := rfl
end DM
