/-! PARSING. The kinds that tokens have. -/
def vk (v : Nat) : Prop := v ≤ 4 ∨ (40 ≤ v ∧ v ≤ 45) ∨ (58 ≤ v ∧ v ≤ 61) ∨ (300 ≤ v ∧ v ≤ 308)
theorem vk_kd {T : Nat → Nat} {n s : Nat} : vk (lx_kd T n s) := by
  unfold lx_kd lx_sg vk
  have := lx_wr (lx_lt T s (lx_re T n s - s))
  repeat' split
  all_goals omega
theorem vk_k {T : Nat → Nat} {n s : Nat} : vk (lx_k T n s) := by
  unfold lx_k
  by_cases h : s < n
  · rw [if_pos h]; exact vk_kd
  · rw [if_neg h]; unfold vk; omega
def lx_kt (r : Nat) : Nat := (1 :: 300 :: 301 :: 302 :: 303 :: 304 :: 305 :: 306 :: 307 :: 308 :: 2 :: 3 :: 4 :: 61 :: 40 :: 41 :: 44 :: 59 :: 58 :: 43 :: 45 :: 42 :: 60 :: 0 :: []).getD r 0
theorem tk_kt {v : Nat} (h : vk v) : lx_kt (lx_tk v) = v ∧ lx_tk v ≤ 23 := by
  have : v = 0 ∨ v = 1 ∨ v = 2 ∨ v = 3 ∨ v = 4 ∨ v = 40 ∨ v = 41 ∨ v = 42 ∨ v = 43 ∨ v = 44 ∨ v = 45 ∨ v = 58 ∨ v = 59 ∨ v = 60 ∨ v = 61 ∨ v = 300 ∨ v = 301 ∨ v = 302 ∨ v = 303 ∨ v = 304 ∨ v = 305 ∨ v = 306 ∨ v = 307 ∨ v = 308 := by
    unfold vk at h
    omega
  rcases this with rfl | rfl | rfl | rfl | rfl | rfl | rfl | rfl | rfl | rfl | rfl | rfl | rfl | rfl | rfl | rfl | rfl | rfl | rfl | rfl | rfl | rfl | rfl | rfl <;> decide
theorem kt_tk {r : Nat} (h : r ≤ 23) : lx_tk (lx_kt r) = r := by
  have : ∀ r, r ≤ 23 → lx_tk (lx_kt r) = r := by decide
  exact this r h
theorem tkA {v r : Nat} (hv : vk v) (hr : r ≤ 23) : (nI (lx_tk v) = nI r) = (v = lx_kt r) := by
  have h1 := tk_kt hv
  rw [k_eq (by omega) (by omega)]
  apply propext
  constructor
  · intro e
    rw [← e]
    exact h1.1.symm
  · intro e
    rw [e]
    exact kt_tk hr
theorem kt0 : lx_kt 0 = 1 := rfl
theorem kt1 : lx_kt 1 = 300 := rfl
theorem kt2 : lx_kt 2 = 301 := rfl
theorem kt3 : lx_kt 3 = 302 := rfl
theorem kt4 : lx_kt 4 = 303 := rfl
theorem kt5 : lx_kt 5 = 304 := rfl
theorem kt6 : lx_kt 6 = 305 := rfl
theorem kt7 : lx_kt 7 = 306 := rfl
theorem kt8 : lx_kt 8 = 307 := rfl
theorem kt9 : lx_kt 9 = 308 := rfl
theorem kt10 : lx_kt 10 = 2 := rfl
theorem kt11 : lx_kt 11 = 3 := rfl
theorem kt12 : lx_kt 12 = 4 := rfl
theorem kt13 : lx_kt 13 = 61 := rfl
theorem kt14 : lx_kt 14 = 40 := rfl
theorem kt15 : lx_kt 15 = 41 := rfl
theorem kt16 : lx_kt 16 = 44 := rfl
theorem kt17 : lx_kt 17 = 59 := rfl
theorem kt18 : lx_kt 18 = 58 := rfl
theorem kt19 : lx_kt 19 = 43 := rfl
theorem kt20 : lx_kt 20 = 45 := rfl
theorem kt21 : lx_kt 21 = 42 := rfl
theorem kt22 : lx_kt 22 = 60 := rfl
theorem kt23 : lx_kt 23 = 0 := rfl
/-! The class while it parses into the Program at b: M0 is the memory as the parsing began. -/
def cW (b : Nat) (M0 M : mv_M) : Prop := (∀ c k, ¬ (c = 1 ∧ k ≤ 1) → ¬ (c = 3 ∧ (k = 3 ∨ k = 4)) → ¬ (b ≤ c ∧ c ≤ b + 14) → M.1 c k = M0.1 c k) ∧ (∀ c k, ¬ (b ≤ c ∧ c ≤ b + 14) → M.2.1 c k = M0.2.1 c k) ∧ M.2.2 = M0.2.2
def cX (b : Nat) (M0 : mv_M) (T : Nat → Nat) (n cnt : Nat) : Prop := (b = 9 ∨ b = 24) ∧ M0.2.2 3 2 = some b ∧ c_toks M0 T n cnt ∧ n ≤ 4000
def cB (b : Nat) (M0 : mv_M) (f : Nat) (M : mv_M) : Prop := cW b M0 M ∧ M.1 3 4 = nI f ∧ f < 12 ∧ M.1 b 0 = nI (f + 1) ∧ ∃ p, p ≤ 4 ∧ M.1 (b + 2) f = nI p
/-- it goes well: it stands at token i, m names and nd nodes are told -/
def cO (b : Nat) (M0 : mv_M) (T : Nat → Nat) (n cnt f i m nd : Nat) (M : mv_M) : Prop := cB b M0 f M ∧ M.1 3 3 = nI i ∧ i ≤ cnt ∧ i ≤ 1000 ∧ lx_k T n (lx_st T n i) ≠ 1 ∧ M.1 (b + 3) f = nI m ∧ m ≤ 16 ∧ M.1 b 8 = nI nd ∧ nd ≤ i ∧ M.1 1 0 = nI 0
/-- a fault is told -/
def cR (b : Nat) (M0 : mv_M) (cnt f nb pl : Nat) (M : mv_M) : Prop := cB b M0 f M ∧ (∃ m, m ≤ 16 ∧ M.1 (b + 3) f = nI m) ∧ (∃ nd, nd ≤ 1000 ∧ M.1 b 8 = nI nd) ∧ M.1 3 3 = nI cnt ∧ M.1 1 0 = nI nb ∧ 0 < nb ∧ nb ≤ 6 ∧ M.1 1 1 = nI pl
/-- a fault is told, or it stands at what is no token -/
def cD (b : Nat) (M0 : mv_M) (T : Nat → Nat) (n cnt f nb pl : Nat) (M : mv_M) : Prop := cR b M0 cnt f nb pl M ∨ (cB b M0 f M ∧ (∃ m, m ≤ 16 ∧ M.1 (b + 3) f = nI m) ∧ (∃ nd, nd ≤ 1000 ∧ M.1 b 8 = nI nd) ∧ nb = 1 ∧ ∃ i, i < cnt ∧ i ≤ 1000 ∧ M.1 3 3 = nI i ∧ lx_k T n (lx_st T n i) = 1 ∧ pl = lx_st T n i ∧ M.1 1 0 = nI 0)
section CP
variable {b n cnt f i m nd nb pl : Nat} {M0 M : mv_M} {T : Nat → Nat}
theorem cW_tok (hx : cX b M0 T n cnt) (h : cW b M0 M) : M.1 2 2 = nI cnt ∧ (∀ k, M.1 40 k = M0.1 40 k) ∧ (∀ k, M.1 41 k = M0.1 41 k) ∧ (∀ k, M.2.1 42 k = M0.2.1 42 k) ∧ M.2.2 3 2 = some b := by
  obtain ⟨hb, hp, ht, _⟩ := hx
  obtain ⟨h1, h2, h3⟩ := h
  refine ⟨(h1 2 2 (by omega) (by omega) (by omega)).trans ht.1, fun k => h1 40 k (by omega) (by omega) (by omega), fun k => h1 41 k (by omega) (by omega) (by omega), fun k => h2 42 k (by omega), ?_⟩
  rw [h3]
  exact hp
theorem tk_kind (hx : cX b M0 T n cnt) (hi : i ≤ cnt) (hi2 : i ≤ 1000) : M0.1 40 i = nI (lx_k T n (lx_st T n i)) ∧ M0.1 41 i = nI (lx_st T n i) ∧ (lx_k T n (lx_st T n i) ≠ 0 → i < cnt) := by
  obtain ⟨hb, hp, ⟨t1, t2, t3, t4, t5, t6⟩, _⟩ := hx
  by_cases h : i < cnt
  · obtain ⟨a1, a2, a3, a4⟩ := t3 i h
    unfold lx_k
    rw [if_pos a1]
    exact ⟨a3, a2, fun _ => h⟩
  · obtain rfl : i = cnt := by omega
    have e := t4 (by omega)
    unfold lx_k
    rw [e, if_neg (by omega)]
    exact ⟨t5, t6, fun z => absurd rfl z⟩
theorem cO_kind (hx : cX b M0 T n cnt) (h : cO b M0 T n cnt f i m nd M) : fX3_kind M = some (nI (lx_k T n (lx_st T n i)), M) := by
  obtain ⟨⟨hW, _⟩, h3, hi, hi2, _⟩ := h
  obtain ⟨a1, a2, a3, a4, a5⟩ := cW_tok hx hW
  have b1 := (tk_kind hx hi hi2).1
  have hc := hx.2.2.1.2.1
  unfold fX3_kind fX8_kindOf
  simp (disch := omega) only [h3, a1, a2, b1, k_iT, k_iF, Bool.false_eq_true, eq_self, Nat.add_zero, k_lt', k_bs, k_T, k_F, k_inb, k_ck, k_nz, ↓kN, kL, k_lt, k_le, k_eq, kn_le, kn_lt, kn_eq, kn_le', kn_lt', kn_eq', nI_clamp, nI_add, k_sub, k_mul, k_div, rd_hi, rd_mi, rd_hl, rd_ml, rd_hr, rd_mr, rd_si2, rd_sl1, rd_sl2, rd_sr1, rd_sr2]
theorem cD_kind (hx : cX b M0 T n cnt) (h : cD b M0 T n cnt f nb pl M) : ∃ v, v ≤ 1 ∧ fX3_kind M = some (nI v, M) := by
  have hc := hx.2.2.1.2.1
  rcases h with ⟨⟨hW, _⟩, _, _, h3, _⟩ | ⟨⟨hW, _⟩, _, _, _, i, hi, hi2, h3, hk, _⟩
  · obtain ⟨a1, a2, a3, a4, a5⟩ := cW_tok hx hW
    refine ⟨0, by omega, ?_⟩
    have b1 := hx.2.2.1.2.2.2.2.1
    unfold fX3_kind fX8_kindOf
    simp (disch := omega) only [h3, a1, a2, b1, k_iT, k_iF, Bool.false_eq_true, eq_self, Nat.add_zero, k_lt', k_bs, k_T, k_F, k_inb, k_ck, k_nz, ↓kN, kL, k_lt, k_le, k_eq, kn_le, kn_lt, kn_eq, kn_le', kn_lt', kn_eq', nI_clamp, nI_add, k_sub, k_mul, k_div, rd_hi, rd_mi, rd_hl, rd_ml, rd_hr, rd_mr, rd_si2, rd_sl1, rd_sl2, rd_sr1, rd_sr2]
  · obtain ⟨a1, a2, a3, a4, a5⟩ := cW_tok hx hW
    refine ⟨1, by omega, ?_⟩
    have b1 := (tk_kind hx (by omega) hi2).1
    rw [hk] at b1
    unfold fX3_kind fX8_kindOf
    simp (disch := omega) only [h3, a1, a2, b1, k_iT, k_iF, Bool.false_eq_true, eq_self, Nat.add_zero, k_lt', k_bs, k_T, k_F, k_inb, k_ck, k_nz, ↓kN, kL, k_lt, k_le, k_eq, kn_le, kn_lt, kn_eq, kn_le', kn_lt', kn_eq', nI_clamp, nI_add, k_sub, k_mul, k_div, rd_hi, rd_mi, rd_hl, rd_ml, rd_hr, rd_mr, rd_si2, rd_sl1, rd_sl2, rd_sr1, rd_sr2]
end CP
