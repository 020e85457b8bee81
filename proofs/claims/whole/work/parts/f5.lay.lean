/-! INPUTS laid: types of things and parts -/
def tI (K : Nat → Nat) (n : Nat) (it sc : Nat → Nat) (i j : Nat) : Prop := ∀ x, i ≤ x → x < j → it x ≤ 4 ∧ K x ≤ 2 ∧ (x ≠ i → it x ≤ 1) ∧ (K x = 0 → it x = 0) ∧ (K x = 2 → 0 < it x ∧ x + 1 < j ∧ sc x < j ∧ i < sc x ∧ it (x + 1) = (it x - 1) / 2 ∧ it (sc x) = (it x - 1) % 2 ∧ bh K n 3 ((it x - 1) / 2) (x + 1) = some (sc x))
def lC (K : Nat → Nat) (V : Nat → Int32) (sc : Nat → Nat) (i j : Nat) (M : mv_M) : Prop := ∀ x, i ≤ x → x < j → M.1 57 (1500 + x) = nI (if K x = 1 then 3 else 2) ∧ M.1 58 (1500 + x) = (if K x = 2 then nI (1500 + x) else V x) ∧ M.1 59 (1500 + x) = nI 0 ∧ (K x = 2 → M.1 60 (1500 + x) = nI (1500 + (x + 1)) ∧ M.1 61 (1500 + x) = nI (1500 + sc x))
def fL (M : mv_M) (i j : Nat) (M' : mv_M) : Prop := M'.2 = M.2 ∧ ∀ a p, ¬ (57 ≤ a ∧ a ≤ 61 ∧ 1500 + i ≤ p ∧ p < 1500 + j) → M'.1 a p = M.1 a p
section RJ1
variable {n t i j g fu : Nat} {M N M' : mv_M} {K : Nat → Nat} {V : Nat → Int32}
theorem lay_0 {M : mv_M} {u : Nat} (hi : i < n) (hn : n ≤ 40) (e6 : M.1 6 0 = nI n) (e48 : M.1 48 i = nI (K i)) (hK : K i = 0 ∨ K i = 1) : RX7_lay (fu + 1) u (nI i) M = some (nI (i + 1), mv_si (mv_si (mv_si M 57 (1500 + i) (nI (if K i = 1 then 3 else 2))) 58 (1500 + i) (M.1 49 i)) 59 (1500 + i) (nI 0)) := by
  have v0 : vp_nar .boolean (nI 0) = nI 0 := vp0
  show fX7_lay (fun a1 M => RX7_lay fu 0 a1 M) (nI i) M = _
  unfold fX7_lay fX7_lay_44 fX7_lay_66
  rcases hK with hK | hK
  · simp (disch := omega) only [↓reduceIte, e6, e48, hK, v0, k_iT, k_iF, Bool.false_eq_true, eq_self, Nat.add_zero, k_lt', k_bs, k_T, k_F, k_inb, k_ck, k_nz, ↓kN, kL, k_lt, k_le, k_eq, kn_le, kn_lt, kn_eq, kn_le', kn_lt', kn_eq', nI_clamp, nI_add, k_sub, k_mul, k_div, rd_hi, rd_mi, rd_hl, rd_ml, rd_hr, rd_mr, rd_si2, rd_sl1, rd_sl2, rd_sr1, rd_sr2]
  · simp (disch := omega) only [↓reduceIte, e6, e48, hK, v0, k_iT, k_iF, Bool.false_eq_true, eq_self, Nat.add_zero, k_lt', k_bs, k_T, k_F, k_inb, k_ck, k_nz, ↓kN, kL, k_lt, k_le, k_eq, kn_le, kn_lt, kn_eq, kn_le', kn_lt', kn_eq', nI_clamp, nI_add, k_sub, k_mul, k_div, rd_hi, rd_mi, rd_hl, rd_ml, rd_hr, rd_mr, rd_si2, rd_sl1, rd_sl2, rd_sr1, rd_sr2]
theorem lay_2 {M M2 M4 : mv_M} {u j1 : Nat} (hi : i < n) (hn : n ≤ 40) (e6 : M.1 6 0 = nI n) (e48 : M.1 48 i = nI 2) (h1 : RX7_lay fu 0 (nI (i + 1)) (mv_si (mv_si (mv_si M 57 (1500 + i) (nI 2)) 58 (1500 + i) (nI (1500 + i))) 59 (1500 + i) (nI 0)) = some (nI j1, M2)) (h2 : RX7_lay fu 0 (nI j1) (mv_si (mv_si M2 60 (1500 + i) (nI (1500 + i + 1))) 61 (1500 + i) (nI (1500 + j1))) = some (nI j, M4)) : RX7_lay (fu + 1) u (nI i) M = some (nI j, M4) := by
  have v0 : vp_nar .boolean (nI 0) = nI 0 := vp0
  show fX7_lay (fun a1 M => RX7_lay fu 0 a1 M) (nI i) M = _
  unfold fX7_lay fX7_lay_44 fX7_lay_66
  simp (disch := omega) only [↓reduceIte, e6, e48, v0, h1, h2, k_iT, k_iF, Bool.false_eq_true, eq_self, Nat.add_zero, k_lt', k_bs, k_T, k_F, k_inb, k_ck, k_nz, ↓kN, kL, k_lt, k_le, k_eq, kn_le, kn_lt, kn_eq, kn_le', kn_lt', kn_eq', nI_clamp, nI_add, k_sub, k_mul, k_div, rd_hi, rd_mi, rd_hl, rd_ml, rd_hr, rd_mr, rd_si2, rd_sl1, rd_sl2, rd_sr1, rd_sr2]
theorem c_lay (hn : n ≤ 40) : ∀ g t i j, t ≤ 4 → 0 < g → (1 ≤ t → 1 < g) → (2 ≤ t → 2 < g) → bh K n g t i = some j → (i < j ∧ j ≤ n) ∧ ∃ it sc, it i = t ∧ tI K n it sc i j ∧ ∀ M fu u, g ≤ fu → M.1 6 0 = nI n → (∀ i, i < n → M.1 48 i = nI (K i) ∧ M.1 49 i = V i) → ∃ M', RX7_lay fu u (nI i) M = some (nI j, M') ∧ fL M i j M' ∧ lC K V sc i j M' := by
  intro g
  induction g with
  | zero => intro t i j _ h; omega
  | succ g ih =>
    intro t i j ht _ h1 h2 h
    have hjn := bh_le _ _ _ _ h
    have leaf : ∀ (z : K i = 0 ∨ K i = 1), (K i = 0 → t = 0) → i < n → (i < i + 1 ∧ i + 1 ≤ n) ∧ ∃ it sc, it i = t ∧ tI K n it sc i (i + 1) ∧ ∀ M fu u, g + 1 ≤ fu → M.1 6 0 = nI n → (∀ i, i < n → M.1 48 i = nI (K i) ∧ M.1 49 i = V i) → ∃ M', RX7_lay fu u (nI i) M = some (nI (i + 1), M') ∧ fL M i (i + 1) M' ∧ lC K V sc i (i + 1) M' := by
      intro z z0 hin
      refine ⟨⟨by omega, by omega⟩, fun _ => t, fun _ => 0, rfl, fun x x1 x2 => ?_, fun M fu u hfu e6 hM => ?_⟩
      · obtain rfl : x = i := by omega
        exact ⟨ht, by omega, fun y => absurd rfl y, z0, fun y => by omega⟩
      · obtain ⟨fu, rfl⟩ : ∃ f, fu = f + 1 := ⟨fu - 1, by omega⟩
        refine ⟨_, lay_0 hin hn e6 (hM i hin).1 z, ⟨rfl, fun a p y => ?_⟩, fun x x1 x2 => ?_⟩
        · simp (disch := omega) only [rd_hi, rd_mi, rd_hl, rd_ml, rd_hr, rd_mr, rd_si2, rd_sl1, rd_sl2, rd_sr1, rd_sr2]
        · obtain rfl : x = i := by omega
          refine ⟨by simp (disch := omega) only [rd_hi, rd_mi, rd_hl, rd_ml, rd_hr, rd_mr, rd_si2, rd_sl1, rd_sl2, rd_sr1, rd_sr2], ?_, by simp (disch := omega) only [rd_hi, rd_mi, rd_hl, rd_ml, rd_hr, rd_mr, rd_si2, rd_sl1, rd_sl2, rd_sr1, rd_sr2], fun y => by omega⟩
          simp (disch := omega) only [rd_hi, rd_mi, rd_hl, rd_ml, rd_hr, rd_mr, rd_si2, rd_sl1, rd_sl2, rd_sr1, rd_sr2]
          rw [if_neg (by omega)]
          exact (hM x hin).2
    unfold bh at h
    by_cases c1 : n ≤ i
    · rw [if_pos c1] at h; cases h
    rw [if_neg c1] at h
    by_cases c2 : K i = 1
    · rw [if_pos c2] at h
      cases h
      exact leaf (.inr c2) (fun z => by omega) (by omega)
    rw [if_neg c2] at h
    by_cases c3 : 0 < t
    · rw [if_pos c3] at h
      by_cases c4 : K i = 2
      · rw [if_pos c4] at h
        cases hb : bh K n g ((t - 1) / 2) (i + 1) with
        | none => rw [hb] at h; cases h
        | some j1 =>
          rw [hb] at h
          have h' : bh K n g ((t - 1) % 2) j1 = some j := h
          obtain ⟨⟨l1, l2⟩, it1, sc1, i1, t1, m1⟩ := ih ((t - 1) / 2) (i + 1) j1 (by omega) (by omega) (by omega) (by omega) hb
          obtain ⟨⟨l3, l4⟩, it2, sc2, i2, t2, m2⟩ := ih ((t - 1) % 2) j1 j (by omega) (by omega) (by omega) (by omega) h'
          refine ⟨⟨by omega, hjn⟩, fun x => if x = i then t else if x < j1 then it1 x else it2 x, fun x => if x = i then j1 else if x < j1 then sc1 x else sc2 x, if_pos rfl, fun x x1 x2 => ?_, fun M fu u hfu e6 hM => ?_⟩
          · by_cases e : x = i
            · subst e
              simp only [if_true]
              refine ⟨ht, by omega, fun y => absurd rfl y, fun y => by omega, fun _ => ⟨c3, by omega, l3, by omega, ?_, ?_, ?_⟩⟩
              · rw [if_neg (by omega), if_pos (by omega)]; exact i1
              · rw [if_neg (by omega), if_neg (by omega)]; exact i2
              · rw [← bh_f g 3 ((t - 1) / 2) (x + 1) (by omega) (by omega) (by omega) (by omega) (by omega) (by omega) (by omega)]; exact hb
            · by_cases e1 : x < j1
              · obtain ⟨a1, a2, a3, a4, a5⟩ := t1 x (by omega) e1
                simp only [e, if_false, e1, if_true]
                refine ⟨a1, a2, fun _ => ?_, a4, fun y => ?_⟩
                · by_cases e2 : x = i + 1
                  · subst e2; omega
                  · exact a3 e2
                · obtain ⟨y1, y2, y3, y4, y5, y6, y7⟩ := a5 y
                  refine ⟨y1, by omega, by omega, by omega, ?_, ?_, y7⟩
                  · rw [if_neg (by omega), if_pos y2]; exact y5
                  · rw [if_neg (by omega), if_pos y3]; exact y6
              · obtain ⟨a1, a2, a3, a4, a5⟩ := t2 x (by omega) x2
                simp only [e, if_false, e1]
                refine ⟨a1, a2, fun _ => ?_, a4, fun y => ?_⟩
                · by_cases e2 : x = j1
                  · subst e2; omega
                  · exact a3 e2
                · obtain ⟨y1, y2, y3, y4, y5, y6, y7⟩ := a5 y
                  refine ⟨y1, y2, y3, by omega, ?_, ?_, y7⟩
                  · rw [if_neg (by omega), if_neg (by omega)]; exact y5
                  · rw [if_neg (by omega), if_neg (by omega)]; exact y6
          · obtain ⟨fu, rfl⟩ : ∃ f, fu = f + 1 := ⟨fu - 1, by omega⟩
            obtain ⟨M2, u1, ⟨u2, u3⟩, u4⟩ := m1 (mv_si (mv_si (mv_si M 57 (1500 + i) (nI 2)) 58 (1500 + i) (nI (1500 + i))) 59 (1500 + i) (nI 0)) fu 0 (by omega) (by simp (disch := omega) only [rd_hi, rd_mi, rd_hl, rd_ml, rd_hr, rd_mr, rd_si2, rd_sl1, rd_sl2, rd_sr1, rd_sr2]; exact e6) (fun x hx => ⟨by simp (disch := omega) only [rd_hi, rd_mi, rd_hl, rd_ml, rd_hr, rd_mr, rd_si2, rd_sl1, rd_sl2, rd_sr1, rd_sr2]; exact (hM x hx).1, by simp (disch := omega) only [rd_hi, rd_mi, rd_hl, rd_ml, rd_hr, rd_mr, rd_si2, rd_sl1, rd_sl2, rd_sr1, rd_sr2]; exact (hM x hx).2⟩)
            obtain ⟨M4, v1, ⟨v2, v3⟩, v4⟩ := m2 (mv_si (mv_si M2 60 (1500 + i) (nI (1500 + i + 1))) 61 (1500 + i) (nI (1500 + j1))) fu 0 (by omega) (by simp (disch := omega) only [rd_hi, rd_mi, rd_hl, rd_ml, rd_hr, rd_mr, rd_si2, rd_sl1, rd_sl2, rd_sr1, rd_sr2]; rw [u3 _ _ (by omega)]; simp (disch := omega) only [rd_hi, rd_mi, rd_hl, rd_ml, rd_hr, rd_mr, rd_si2, rd_sl1, rd_sl2, rd_sr1, rd_sr2]; exact e6) (fun x hx => ⟨by simp (disch := omega) only [rd_hi, rd_mi, rd_hl, rd_ml, rd_hr, rd_mr, rd_si2, rd_sl1, rd_sl2, rd_sr1, rd_sr2]; rw [u3 _ _ (by omega)]; simp (disch := omega) only [rd_hi, rd_mi, rd_hl, rd_ml, rd_hr, rd_mr, rd_si2, rd_sl1, rd_sl2, rd_sr1, rd_sr2]; exact (hM x hx).1, by simp (disch := omega) only [rd_hi, rd_mi, rd_hl, rd_ml, rd_hr, rd_mr, rd_si2, rd_sl1, rd_sl2, rd_sr1, rd_sr2]; rw [u3 _ _ (by omega)]; simp (disch := omega) only [rd_hi, rd_mi, rd_hl, rd_ml, rd_hr, rd_mr, rd_si2, rd_sl1, rd_sl2, rd_sr1, rd_sr2]; exact (hM x hx).2⟩)
            refine ⟨M4, lay_2 (by omega) hn e6 (by rw [(hM i (by omega)).1, c4]) u1 v1, ⟨v2.trans u2, fun a p y => ?_⟩, fun x x1 x2 => ?_⟩
            · rw [v3 a p (by omega), rd_mi (by omega), rd_mi (by omega), u3 a p (by omega), rd_mi (by omega), rd_mi (by omega), rd_mi (by omega)]
            · by_cases e : x = i
              · subst e
                simp only [if_true, c4]
                refine ⟨?_, ?_, ?_, fun _ => ⟨?_, ?_⟩⟩
                · rw [v3 _ _ (by omega)]; simp (disch := omega) only [rd_hi, rd_mi, rd_hl, rd_ml, rd_hr, rd_mr, rd_si2, rd_sl1, rd_sl2, rd_sr1, rd_sr2]; rw [u3 _ _ (by omega)]; simp (disch := omega) only [rd_hi, rd_mi, rd_hl, rd_ml, rd_hr, rd_mr, rd_si2, rd_sl1, rd_sl2, rd_sr1, rd_sr2]; rfl
                · rw [v3 _ _ (by omega)]; simp (disch := omega) only [rd_hi, rd_mi, rd_hl, rd_ml, rd_hr, rd_mr, rd_si2, rd_sl1, rd_sl2, rd_sr1, rd_sr2]; rw [u3 _ _ (by omega)]; simp (disch := omega) only [rd_hi, rd_mi, rd_hl, rd_ml, rd_hr, rd_mr, rd_si2, rd_sl1, rd_sl2, rd_sr1, rd_sr2]
                · rw [v3 _ _ (by omega)]; simp (disch := omega) only [rd_hi, rd_mi, rd_hl, rd_ml, rd_hr, rd_mr, rd_si2, rd_sl1, rd_sl2, rd_sr1, rd_sr2]; rw [u3 _ _ (by omega)]; simp (disch := omega) only [rd_hi, rd_mi, rd_hl, rd_ml, rd_hr, rd_mr, rd_si2, rd_sl1, rd_sl2, rd_sr1, rd_sr2]
                · rw [v3 _ _ (by omega)]; simp (disch := omega) only [rd_hi, rd_mi, rd_hl, rd_ml, rd_hr, rd_mr, rd_si2, rd_sl1, rd_sl2, rd_sr1, rd_sr2]; rfl
                · rw [v3 _ _ (by omega)]; simp (disch := omega) only [rd_hi, rd_mi, rd_hl, rd_ml, rd_hr, rd_mr, rd_si2, rd_sl1, rd_sl2, rd_sr1, rd_sr2]
              · by_cases e1 : x < j1
                · obtain ⟨a1, a2, a3, a4⟩ := u4 x (by omega) e1
                  simp only [e, if_false, e1, if_true]
                  refine ⟨?_, ?_, ?_, fun y => ⟨?_, ?_⟩⟩
                  · rw [v3 _ _ (by omega), rd_mi (by omega), rd_mi (by omega)]; exact a1
                  · rw [v3 _ _ (by omega), rd_mi (by omega), rd_mi (by omega)]; exact a2
                  · rw [v3 _ _ (by omega), rd_mi (by omega), rd_mi (by omega)]; exact a3
                  · rw [v3 _ _ (by omega), rd_mi (by omega), rd_mi (by omega)]; exact (a4 y).1
                  · rw [v3 _ _ (by omega), rd_mi (by omega), rd_mi (by omega)]; exact (a4 y).2
                · simp only [e, if_false, e1]
                  exact v4 x (by omega) x2
      · rw [if_neg c4] at h; cases h
    · rw [if_neg c3] at h
      by_cases c4 : K i = 0
      · rw [if_pos c4] at h
        cases h
        exact leaf (.inl c4) (fun _ => by omega) (by omega)
      · rw [if_neg c4] at h; cases h
end RJ1
