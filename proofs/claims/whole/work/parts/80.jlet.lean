/-! EXPRESSIONS are read alike. -/
def EQ (H b h : Nat) (M0 N0 : mv_M) (T : Nat → Nat) (n cnt f i m nd xn an : Nat) (L : List (Nat × Int32)) (D W Y : List Int32) (ot : Nat) (g : Nat → Nat → Nat) (M N : mv_M) (r : Int32) (M' N' : mv_M) : Prop := ∃ (i' m' c xn' an' : Nat) (g' : Nat → Nat → Nat), r = nI c ∧ cO b M0 T n cnt f i' m' (c + 1) M' ∧ rO h N0 T n f i' m' xn' an' L (nI (g' 0 c) :: D) W Y ot N' ∧ (i < i' ∧ nd ≤ c ∧ m ≤ m' ∧ xn < xn' ∧ an ≤ an' ∧ c + 1 + i ≤ nd + i' ∧ xn' + i ≤ xn + i' ∧ an' + 1 + i ≤ an + i') ∧ g' 1 c = nd ∧ TI b T n g' nd (c + 1) xn xn' m m' an' M' N' ∧ gA nd m g g' ∧ NM b h f m m' M' N' ∧ cE b f m nd M M' ∧ rE h f m xn an N N' ∧ LB g' nd (c + 1) H
def Sp (b h : Nat) (M0 N0 : mv_M) (T : Nat → Nat) (n cnt f : Nat) (o : Nat) (F : mv_M → Option (Int32 × mv_M)) (S0 : List (Nat × Int32)) (lb : Nat) : Prop := ∀ (i m nd xn an : Nat) (L : List (Nat × Int32)) (D W Y : List Int32) (g : Nat → Nat → Nat) (M N : mv_M), L.length ≤ lb → Y.length ≤ 4 → (1001 * h ≤ xn ∧ xn ≤ 1001 * h + i ∧ 1001 * h ≤ an ∧ an + D.length + W.length ≤ 1001 * h + i) → cO b M0 T n cnt f i m nd M → rO h N0 T n f i m xn an (S0 ++ L) D W Y o N → J b h M0 N0 T n cnt f N (F M) (EQ (lbB lb) b h M0 N0 T n cnt f i m nd xn an L D W Y o g M N)
section JE
variable {b h n cnt f i m nd nb pl xn an ot x K k o : Nat} {L : List (Nat × Int32)} {D W Y : List Int32} {M M' M0 N N' N0 N1 N2 : mv_M} {T : Nat → Nat} {g : Nat → Nat → Nat}
theorem NM_nil : NM b h f m m M N := fun k _ _ => by omega
theorem NM_app {m1 m2 : Nat} (a : NM b h f m m1 M N) (d : NM b h f m1 m2 M N) : NM b h f m m2 M N := fun k h1 h2 => by
  by_cases hk : k < m1
  · exact a k h1 hk
  · exact d k (by omega) h2
theorem NM_one (e : M.2.1 (b + 6) (f * 16 + m) = N.2.1 69 (16 * (12 * h + f) + m)) : NM b h f m (m + 1) M N := fun k h1 h2 => by
  obtain rfl : k = m := by omega
  exact e
theorem NM_congr {m1 m2 nd xn an : Nat} (a : NM b h f m m1 M N) (e1 : cE b f m2 nd M M') (e2 : rE h f m2 xn an N N') (hm : m1 ≤ m2) : NM b h f m m1 M' N' := fun k h1 h2 => by
  rw [e1.2 _ _ (by omega), e2.2 _ _ (by unfold rEl; omega)]
  exact a k h1 h2
/-- a segment, after what was read behind it -/
theorem TI_on {nd' xn' m' an' m1 xn1 an1 : Nat} {g' : Nat → Nat → Nat} (a : TI b T n g nd nd' xn xn' m m' an' M N) (e1 : cE b f m1 nd' M M') (e2 : rE h f m1 xn1 an1 N N') (e3 : gA nd' m1 g g') (h1 : m' ≤ m1) (h2 : xn' ≤ xn1) (h3 : an' ≤ an1) (hb : b = 9 ∨ b = 24) : TI b T n g' nd nd' xn xn' m m' an' M' N' := by
  refine TI_congr a (fun c k z1 z2 z3 z4 _ => e1.1 c k (by unfold cEa; omega)) (fun c k z1 z2 z3 z4 => e2.1 c k (by unfold rEa; omega)) (fun k z3 z4 => e2.2 77 k (by unfold rEl; omega)) (fun k z => e2.1 78 k (by unfold rEa; omega)) (fun k z1 z2 => e3.1 k z2) (fun k z1 z2 => e3.2 k (by omega))
/-- a place of a node that is not in the segment is written -/
theorem TI_x {nd' xn' m' an' c0 x0 m1 : Nat} (a : TI b T n g nd nd' xn xn' m m' an' M N) (e : rX h f m1 c0 x0 N N') (hc : (71 ≤ c0 ∧ c0 ≤ 76 ∧ (x0 < xn ∨ xn' ≤ x0)) ∨ c0 = 62) : TI b T n g nd nd' xn xn' m m' an' M N' := TI_congr a (fun c k _ _ _ _ _ => rfl) (fun c k z1 z2 z3 z4 => e.1 c k (by omega)) (fun k z3 z4 => e.2 77 k (by omega)) (fun k z => e.1 78 k (by omega)) (fun k _ _ => ⟨rfl, rfl⟩) (fun k _ _ => rfl)
theorem cE_3 {v : Int32} (e : M' = mv_si M 3 3 v) : cE b f m nd M M' := by
  rw [e]
  exact cE_si cE_refl (by unfold cEa; omega)
/-- KEEPA, KEEPB, KEEPC -/
theorem r_keep {s c0 v : Nat} (hs : (s = 15 ∧ c0 = 72) ∨ (s = 16 ∧ c0 = 73) ∨ (s = 17 ∧ c0 = 74)) (hh : h ≤ 1) (hr : rO h N0 T n f i m xn an ((s, nI x) :: L) (nI v :: D) W Y ot N) (hxx : 1001 * h ≤ x ∧ x < 1001 * h + 1001) (hl : L.length < 3000) (hd : D.length < 1100) : ∃ N', fX11_parse_26 N = fX11_parse_26 N' ∧ rO h N0 T n f i m xn an L D W Y ot N' ∧ N'.1 c0 x = nI v ∧ rX h f m c0 x N N' := by
  obtain ⟨hr1, hs1⟩ := r_pop hr
  obtain ⟨N2, e1, e2, e3⟩ := r_last hr1 hd
  refine ⟨mv_si N2 c0 x (nI v), P_go ((g_rest hr (by omega) hl).trans ?_), rO_si e2 hh (by omega), by simp (disch := omega) only [rd_hi, rd_mi, rd_hl, rd_ml, rd_hr, rd_mr, rd_si2, rd_sl1, rd_sl2, rd_sr1, rd_sr2], rX_si (rS_X (rS_trans hs1 e3))⟩
  unfold fX11_onRest
  rcases hs with ⟨rfl, rfl⟩ | ⟨rfl, rfl⟩ | ⟨rfl, rfl⟩ <;> simp (disch := omega) only [e1, k_iT, k_iF, Bool.false_eq_true, eq_self, Nat.add_zero, k_lt', k_bs, k_T, k_F, k_inb, k_ck, k_nz, ↓kN, kL, k_lt, k_le, k_eq, kn_le, kn_lt, kn_eq, kn_le', kn_lt', kn_eq', nI_clamp, nI_add, k_sub, k_mul, k_div, rd_hi, rd_mi, rd_hl, rd_ml, rd_hr, rd_mr, rd_si2, rd_sl1, rd_sl2, rd_sr1, rd_sr2]
theorem r_put (hr : rO h N0 T n f i m xn an ((18, nI x) :: L) D W Y ot N) (hl : L.length < 3000) (hd : D.length < 1100) : ∃ N', fX11_parse_26 N = fX11_parse_26 N' ∧ rO h N0 T n f i m xn an L (nI x :: D) W Y ot N' ∧ rS N N' := by
  obtain ⟨hr1, hs1⟩ := r_pop hr
  obtain ⟨N2, e1, e2, e3⟩ := r_make (v := nI x) hr1 hd
  refine ⟨N2, P_go ((g_rest hr (by omega) hl).trans ?_), e2, rS_trans hs1 e3⟩
  unfold fX11_onRest
  simp (disch := omega) only [e1, k_iT, k_iF, Bool.false_eq_true, eq_self, Nat.add_zero, k_lt', k_bs, k_T, k_F, k_inb, k_ck, k_nz, ↓kN, kL, k_lt, k_le, k_eq, kn_le, kn_lt, kn_eq, kn_le', kn_lt', kn_eq', nI_clamp, nI_add, k_sub, k_mul, k_div, rd_hi, rd_mi, rd_hl, rd_ml, rd_hr, rd_mr, rd_si2, rd_sl1, rd_sl2, rd_sr1, rd_sr2]
theorem r_ende {w : Int32} (hr : rO h N0 T n f i m xn an ((5, w) :: L) D W Y (ot + 1) N) (hl : L.length < 3000) : ∃ N', fX11_parse_26 N = fX11_parse_26 N' ∧ rO h N0 T n f i m xn an L D W Y ot N' ∧ rS N N' := by
  obtain ⟨hr1, hs1⟩ := r_pop hr
  obtain ⟨q1, q2⟩ := r_other (v := ot) hr1
  have k11 := hr1.2.2.2.2.2.2.2.2.2.2.2.2
  refine ⟨_, P_go ((g_sum hr (by omega) hl).trans ?_), q1, rS_trans hs1 q2⟩
  have e : ot + 1 - 1 = ot := by omega
  unfold fX11_onSum
  simp (disch := omega) only [k11, e, k_iT, k_iF, Bool.false_eq_true, eq_self, Nat.add_zero, k_lt', k_bs, k_T, k_F, k_inb, k_ck, k_nz, ↓kN, kL, k_lt, k_le, k_eq, kn_le, kn_lt, kn_eq, kn_le', kn_lt', kn_eq', nI_clamp, nI_add, k_sub, k_mul, k_div, rd_hi, rd_mi, rd_hl, rd_ml, rd_hr, rd_mr, rd_si2, rd_sl1, rd_sl2, rd_sr1, rd_sr2]
theorem gA_mono {m1 nd1 : Nat} {g' : Nat → Nat → Nat} (a : gA nd1 m1 g g') (h1 : nd ≤ nd1) (h2 : m ≤ m1) : gA nd m g g' := ⟨fun k hk => a.1 k (by omega), fun k hk => a.2 k (by omega)⟩
/-- a node with two expressions in it is done -/
theorem EQ_two {H Hc i' m' xn' an' c1 c2 x t : Nat} {gz : Nat → Nat → Nat} {r : Int32} (hr : r = nI (c2 + 1)) (hc : cO b M0 T n cnt f i' m' (c2 + 1 + 1) M') (hrO : rO h N0 T n f i' m' xn' an' L (nI x :: D) W Y ot N') (hb : i < i' ∧ nd ≤ c1 ∧ c1 < c2 ∧ m ≤ m' ∧ xn < xn' ∧ an ≤ an' ∧ c2 + 1 + 1 + i ≤ nd + i' ∧ xn' + i ≤ xn + i' ∧ an' + 1 + i ≤ an + i') (S : TI b T n gz nd (c2 + 1) xn xn' m m' an' M' N') (hne : ∀ c, nd ≤ c → c < c2 + 1 → gz 0 c ≠ x) (hx : xn ≤ x ∧ x < xn') (g1 : gz 1 c1 = nd) (g2 : gz 1 c2 = c1 + 1) (ht : t ≤ 1000 ∧ lx_st T n t < n) (e14 : M'.1 (b + 14) (c2 + 1) = nI t) (e75 : N'.1 75 x = nI (lx_st T n t)) (e9 : M'.1 (b + 9) (c2 + 1) = nI c1) (e10 : M'.1 (b + 10) (c2 + 1) = nI c2) (e72 : N'.1 72 x = nI (gz 0 c1)) (e73 : N'.1 73 x = nI (gz 0 c2)) (hk : (∃ s, (s = 43 ∨ s = 45 ∨ s = 42 ∨ s = 60 ∨ s = 4) ∧ M'.1 (b + 8) (c2 + 1) = nI s ∧ N'.1 71 x = nI 1 ∧ N'.1 74 x = nI (lx_tk s)) ∨ (M'.1 (b + 8) (c2 + 1) = nI 6 ∧ N'.1 71 x = nI 9) ∨ (M'.1 (b + 8) (c2 + 1) = nI 304 ∧ N'.1 71 x = nI 3 ∧ ∃ m0, m ≤ m0 ∧ m0 < m' ∧ M'.1 (b + 11) (c2 + 1) = nI m0 ∧ N'.1 74 x = nI m0 ∧ gz 2 m0 = c2 + 1) ∨ (M'.1 (b + 8) (c2 + 1) = nI 306 ∧ N'.1 71 x = nI 4 ∧ ∃ m0, m ≤ m0 ∧ m0 + 1 < m' ∧ M'.1 (b + 11) (c2 + 1) = nI m0 ∧ N'.1 74 x = nI m0 ∧ gz 2 m0 = c2 + 1 ∧ gz 2 (m0 + 1) = c2 + 1)) (hg : gA nd m g gz) (hnm : NM b h f m m' M' N') (hcE : cE b f m nd M M') (hrE : rE h f m xn an N N') (hlb : LB gz nd (c2 + 1) Hc) (hH : Hc < H) : EQ H b h M0 N0 T n cnt f i m nd xn an L D W Y ot g M N r M' N' := by
  refine ⟨i', m', c2 + 1, xn', an', gU gz (c2 + 1) x nd, hr, hc, by rw [gU_0]; exact hrO, by omega, gU_1, ?_, gA_trans hg (gA_U (by omega)) (Nat.le_refl _) (Nat.le_refl _), hnm, hcE, hrE, LB_root (LB_congr hlb (fun k _ z => gU_ne (by omega))) hH⟩
  refine TI_snoc (TI_congr S (fun _ _ _ _ _ _ _ => rfl) (fun _ _ _ _ _ _ => rfl) (fun _ _ _ => rfl) (fun _ _ => rfl) (fun k _ z => ⟨gU_ne (by omega), gU_ne (by omega)⟩) (fun k _ _ => gU_2)) (by rw [gU_0]; exact hx) (fun c z1 z2 => by rw [gU_0, gU_ne (by omega)]; exact hne c z1 z2) (by rw [gU_1]; omega) ⟨t, ht, e14, by rw [gU_0]; exact e75, .inr (.inr (.inl ⟨c1, c2, rfl, by omega, ?_, ?_, ?_, e9, e10, ?_, ?_, ?_⟩))⟩
  · rw [gU_1]; omega
  · rw [gU_ne (by omega)]; exact g2
  · rw [gU_1, gU_ne (by omega)]; exact g1.symm
  · rw [gU_0, gU_ne (by omega)]; exact e72
  · rw [gU_0, gU_ne (by omega)]; exact e73
  · simp only [gU_0, gU_2]
    exact hk
theorem EQ_three {H Hc i' m' xn' an' c1 c2 c3 x t : Nat} {gz : Nat → Nat → Nat} {r : Int32} (hr : r = nI (c3 + 1)) (hc : cO b M0 T n cnt f i' m' (c3 + 1 + 1) M') (hrO : rO h N0 T n f i' m' xn' an' L (nI x :: D) W Y ot N') (hb : i < i' ∧ nd ≤ c1 ∧ c1 < c2 ∧ c2 < c3 ∧ m ≤ m' ∧ xn < xn' ∧ an ≤ an' ∧ c3 + 1 + 1 + i ≤ nd + i' ∧ xn' + i ≤ xn + i' ∧ an' + 1 + i ≤ an + i') (S : TI b T n gz nd (c3 + 1) xn xn' m m' an' M' N') (hne : ∀ c, nd ≤ c → c < c3 + 1 → gz 0 c ≠ x) (hx : xn ≤ x ∧ x < xn') (g1 : gz 1 c1 = nd) (g2 : gz 1 c2 = c1 + 1) (g3 : gz 1 c3 = c2 + 1) (ht : t ≤ 1000 ∧ lx_st T n t < n) (e14 : M'.1 (b + 14) (c3 + 1) = nI t) (e75 : N'.1 75 x = nI (lx_st T n t)) (e8 : M'.1 (b + 8) (c3 + 1) = nI 301) (e71 : N'.1 71 x = nI 2) (e9 : M'.1 (b + 9) (c3 + 1) = nI c1) (e10 : M'.1 (b + 10) (c3 + 1) = nI c2) (e11 : M'.1 (b + 11) (c3 + 1) = nI c3) (e72 : N'.1 72 x = nI (gz 0 c1)) (e73 : N'.1 73 x = nI (gz 0 c2)) (e74 : N'.1 74 x = nI (gz 0 c3)) (hg : gA nd m g gz) (hnm : NM b h f m m' M' N') (hcE : cE b f m nd M M') (hrE : rE h f m xn an N N') (hlb : LB gz nd (c3 + 1) Hc) (hH : Hc < H) : EQ H b h M0 N0 T n cnt f i m nd xn an L D W Y ot g M N r M' N' := by
  refine ⟨i', m', c3 + 1, xn', an', gU gz (c3 + 1) x nd, hr, hc, by rw [gU_0]; exact hrO, by omega, gU_1, ?_, gA_trans hg (gA_U (by omega)) (Nat.le_refl _) (Nat.le_refl _), hnm, hcE, hrE, LB_root (LB_congr hlb (fun k _ z => gU_ne (by omega))) hH⟩
  refine TI_snoc (TI_congr S (fun _ _ _ _ _ _ _ => rfl) (fun _ _ _ _ _ _ => rfl) (fun _ _ _ => rfl) (fun _ _ => rfl) (fun k _ z => ⟨gU_ne (by omega), gU_ne (by omega)⟩) (fun k _ _ => gU_2)) (by rw [gU_0]; exact hx) (fun c z1 z2 => by rw [gU_0, gU_ne (by omega)]; exact hne c z1 z2) (by rw [gU_1]; omega) ⟨t, ht, e14, by rw [gU_0]; exact e75, .inr (.inr (.inr ⟨c1, c2, c3, rfl, by omega, by omega, ?_, ?_, ?_, ?_, e8, by rw [gU_0]; exact e71, e9, e10, e11, ?_, ?_, ?_⟩))⟩
  · rw [gU_1]; omega
  · rw [gU_ne (by omega)]; exact g3
  · rw [gU_ne (by omega)]; exact g2
  · rw [gU_1, gU_ne (by omega)]; exact g1.symm
  · rw [gU_0, gU_ne (by omega)]; exact e72
  · rw [gU_0, gU_ne (by omega)]; exact e73
  · rw [gU_0, gU_ne (by omega)]; exact e74
theorem EQ_leaf {H i' xn' t x : Nat} {r : Int32} (hr : r = nI nd) (hc : cO b M0 T n cnt f i' m (nd + 1) M') (hrO : rO h N0 T n f i' m xn' an L (nI x :: D) W Y ot N') (hb : i < i' ∧ xn < xn' ∧ xn' + i ≤ xn + i') (hx : xn ≤ x ∧ x < xn') (ht : t ≤ 1000 ∧ lx_st T n t < n) (e14 : M'.1 (b + 14) nd = nI t) (e75 : N'.1 75 x = nI (lx_st T n t)) (hk : (M'.1 (b + 8) nd = nI 3 ∧ N'.1 71 x = nI 5 ∧ M'.1 (b + 9) nd = N'.1 72 x) ∨ (M'.1 (b + 8) nd = nI 308 ∧ N'.1 71 x = nI 6 ∧ ∃ y, y ≤ 4 ∧ M'.1 (b + 13) nd = nI y ∧ N'.1 72 x = nI y) ∨ (M'.1 (b + 8) nd = nI 2 ∧ N'.1 71 x = nI 7 ∧ lx_k T n (lx_st T n t) = 2 ∧ N'.2.1 77 x = lx_tx T n (lx_st T n t))) (hcE : cE b f m nd M M') (hrE : rE h f m xn an N N') : EQ H b h M0 N0 T n cnt f i m nd xn an L D W Y ot g M N r M' N' := by
  refine ⟨i', m, nd, xn', an, gU g nd x nd, hr, hc, by rw [gU_0]; exact hrO, by omega, gU_1, ?_, gA_U (Nat.le_refl _), NM_nil, hcE, hrE, ⟨fun _ => 0, fun _ _ _ => Nat.zero_le _, fun a k _ _ _ _ => by omega⟩⟩
  refine TI_snoc TI_nil (by rw [gU_0]; exact hx) (fun c z1 z2 => by omega) (by rw [gU_1]; omega) ⟨t, ht, e14, by rw [gU_0]; exact e75, .inl ⟨gU_1, ?_⟩⟩
  simp only [gU_0]
  exact hk
theorem j_let (hx : pX b h M0 N0 T n cnt f) (HE : ∀ k, K ≤ k → Sp b h M0 N0 T n cnt f (o + 1) (RX3_parseE k 0 (nI (o + 1)) 0) [(4, nI 0)] (20 * (o + 1))) (hk : K + 1 ≤ k) (hK : 0 < K) (ho : o < 20) (hL : L.length ≤ 20 * o) (hY : Y.length ≤ 4) (hB : 1001 * h ≤ xn ∧ xn ≤ 1001 * h + i ∧ 1001 * h ≤ an ∧ an + D.length + W.length ≤ 1001 * h + i) (hc : cO b M0 T n cnt f i m nd M) (hr : rO h N0 T n f i m xn an ((4, nI 0) :: L) D W Y o N) (hkd : lx_k T n (lx_st T n i) = 304) : J b h M0 N0 T n cnt f N (RX3_parseE k 1 (nI (o + 1)) 0 M) (EQ (lbB (20 * o)) b h M0 N0 T n cnt f i m nd xn an L D W Y o g M N) := by
  have hb := hx.1.1
  have hh := hx.2.2.1
  have hi1 := hc.2.2.2.1
  have hnd := hc.2.2.2.2.2.2.2.2.1
  obtain ⟨j, rfl⟩ : ∃ j, k = j + 1 := ⟨k - 1, by omega⟩
  rw [RX3_parseE, if_neg (by decide), if_pos rfl]
  unfold fX3_parseLet
  rw [k_lt', hc.2.1]
  obtain ⟨q0, s0⟩ := r_pop hr
  have k11 := q0.2.2.2.2.2.2.2.2.2.2.2.2
  have t0 := rO_tk q0
  obtain ⟨q1, s1⟩ := r_other (v := o + 1) q0
  obtain ⟨N2, p2, q2, s2⟩ := r_push (s := 5) (w := nI 0) q1 (by omega)
  have t2 := rO_tk q2
  have u2 := rO_ta q2
  rw [hkd] at t0 t2
  obtain ⟨N3, p3, q3, s3, x1, x2⟩ := r_node (kd := nI 3) (pl := nI (lx_st T n i)) q2 hh (by omega) (by omega)
  obtain ⟨N4, p4, q4, s4⟩ := r_push (s := 18) (w := nI xn) q3 (by simp only [List.length_cons]; omega)
  obtain ⟨N5, p5, q5, s5⟩ := r_push (s := 16) (w := nI xn) q4 (by simp only [List.length_cons]; omega)
  obtain ⟨N6, p6, q6, s6⟩ := r_push (s := 4) (w := nI 0) q5 (by simp only [List.length_cons]; omega)
  obtain ⟨N7, p7, q7, s7⟩ := r_push (s := 1) (w := nI 6) q6 (by simp only [List.length_cons]; omega)
  obtain ⟨N8, p8, q8, s8⟩ := r_push (s := 15) (w := nI xn) q7 (by simp only [List.length_cons]; omega)
  obtain ⟨N9, p9, q9, s9⟩ := r_push (s := 4) (w := nI 0) q8 (by simp only [List.length_cons]; omega)
  obtain ⟨NA, pA, qA, sA⟩ := r_push (s := 1) (w := nI 13) q9 (by simp only [List.length_cons]; omega)
  obtain ⟨NB, pB, qB, sB⟩ := r_push (s := 13) (w := nI xn) qA (by simp only [List.length_cons]; omega)
  obtain ⟨M1, NC, e1, e2, e3, e4⟩ := j_pass hx hc qB (by omega)
  have sC : rS N3 NC := rS_trans s4 (rS_trans s5 (rS_trans s6 (rS_trans s7 (rS_trans s8 (rS_trans s9 (rS_trans sA (rS_trans sB (rS_tk e3))))))))
  have eP : fX11_parse_26 N = fX11_parse_26 NC := by
    refine P_go ((g_E hr (by omega)).trans ?_)
    unfold fX11_onE fX11_begins fX11_begins_61
    simp (disch := omega) only [t0, show lx_tk 304 = 5 from rfl, k11, p2, t2, u2, p3, p4, p5, p6, p7, p8, p9, pA, pB, e2, k_iT, k_iF, Bool.false_eq_true, eq_self, Nat.add_zero, k_lt', k_bs, k_T, k_F, k_inb, k_ck, k_nz, ↓kN, kL, k_lt, k_le, k_eq, kn_le, kn_lt, kn_eq, kn_le', kn_lt', kn_eq', nI_clamp, nI_add, k_sub, k_mul, k_div, rd_hi, rd_mi, rd_hl, rd_ml, rd_hr, rd_mr, rd_si2, rd_sl1, rd_sl2, rd_sr1, rd_sr2]
  refine J_bs e1 (J_step eP ?_)
  rcases e4 with ⟨nb, pl, d1, d2⟩ | ⟨d1, d2, d3⟩
  · refine J_dead ?_ (P_fault d2)
    (repeat' first | exact ok_some ‹_› | refine cD_bindR (cD_take' hx.1 ‹_› (by decide) (by decide)) (fun _ _ _ => ?_) | refine cD_bindR (cD_E' hx.1 ‹_› (by omega)) (fun _ _ _ => ?_) | refine cD_bindR (cD_type' hx.1 ‹_› (by omega)) (fun _ _ _ => ?_) | refine cD_bindR (cD_sides' hx.1 ‹_› (by omega) (by omega)) (fun _ _ _ => ?_) | refine cD_bindR (cD_tType hx.1 ‹_›) (fun _ _ _ => ?_) | refine ok_pairOf (fun _ => ?_) | refine cD_getp hx.1 ‹_› ?_ | refine cD_bind (cD_node hx.1 ‹_›) (fun _ _ _ => ?_) | refine cD_bind (cD_inner hx.1 ‹_›) (fun _ _ _ => ?_) | refine cD_textOf hx.1 ‹_› (fun _ => ?_) | refine cD_has hx.1 ‹_› ?_ (fun _ => ?_) | refine cD_kindB hx.1 ‹_› (fun _ _ => ?_) | refine cD_ifk ‹_› (by decide) (by decide) ?_ | exact cD_call hx.1 ‹_› | exact ok_some (cD_si hx.1.1 ‹_› (by omega)))
  have rC : rE h f m xn an N NC := rE_trans (rS_E (rS_trans s0 (rS_trans s1 s2))) (rE_trans s3 (rS_E (xn := xn + 1) (m := m) (an := an) sC) (by omega) (by omega) (by omega)) (by omega) (by omega) (by omega)
  have y1 : NC.1 71 xn = nI 3 := (sC.1 _ _ (by omega)).trans x1
  have y2 : NC.1 75 xn = nI (lx_st T n i) := (sC.1 _ _ (by omega)).trans x2
  -- the name
  refine J_bind (j_named hx d2 d3 (by omega) (by simp only [List.length_cons]; omega)) (by intros; (repeat' first | exact ok_some ‹_› | refine cD_bindR (cD_take' hx.1 ‹_› (by decide) (by decide)) (fun _ _ _ => ?_) | refine cD_bindR (cD_E' hx.1 ‹_› (by omega)) (fun _ _ _ => ?_) | refine cD_bindR (cD_type' hx.1 ‹_› (by omega)) (fun _ _ _ => ?_) | refine cD_bindR (cD_sides' hx.1 ‹_› (by omega) (by omega)) (fun _ _ _ => ?_) | refine cD_bindR (cD_tType hx.1 ‹_›) (fun _ _ _ => ?_) | refine ok_pairOf (fun _ => ?_) | refine cD_getp hx.1 ‹_› ?_ | refine cD_bind (cD_node hx.1 ‹_›) (fun _ _ _ => ?_) | refine cD_bind (cD_inner hx.1 ‹_›) (fun _ _ _ => ?_) | refine cD_textOf hx.1 ‹_› (fun _ => ?_) | refine cD_has hx.1 ‹_› ?_ (fun _ => ?_) | refine cD_kindB hx.1 ‹_› (fun _ _ => ?_) | refine cD_ifk ‹_› (by decide) (by decide) ?_ | exact cD_call hx.1 ‹_› | exact ok_some (cD_si hx.1.1 ‹_› (by omega)))) ?_
  rintro r M2 ND ⟨rfl, n1, n2, n3, n4, n5, n6, n7, n8, n9⟩
  refine J_bind (j_take (w := 13) hx n2 n3 (by omega) (by omega) (by simp only [List.length_cons]; omega)) (by intros; (repeat' first | exact ok_some ‹_› | refine cD_bindR (cD_take' hx.1 ‹_› (by decide) (by decide)) (fun _ _ _ => ?_) | refine cD_bindR (cD_E' hx.1 ‹_› (by omega)) (fun _ _ _ => ?_) | refine cD_bindR (cD_type' hx.1 ‹_› (by omega)) (fun _ _ _ => ?_) | refine cD_bindR (cD_sides' hx.1 ‹_› (by omega) (by omega)) (fun _ _ _ => ?_) | refine cD_bindR (cD_tType hx.1 ‹_›) (fun _ _ _ => ?_) | refine ok_pairOf (fun _ => ?_) | refine cD_getp hx.1 ‹_› ?_ | refine cD_bind (cD_node hx.1 ‹_›) (fun _ _ _ => ?_) | refine cD_bind (cD_inner hx.1 ‹_›) (fun _ _ _ => ?_) | refine cD_textOf hx.1 ‹_› (fun _ => ?_) | refine cD_has hx.1 ‹_› ?_ (fun _ => ?_) | refine cD_kindB hx.1 ‹_› (fun _ _ => ?_) | refine cD_ifk ‹_› (by decide) (by decide) ?_ | exact cD_call hx.1 ‹_› | exact ok_some (cD_si hx.1.1 ‹_› (by omega)))) ?_
  rintro _ M3 NE ⟨a0, a1, a2, a3⟩
  -- the first expression
  refine J_bind (HE j (by omega) (i + 1 + 1 + 1) (m + 1) nd (xn + 1) an _ D W Y g M3 NE (by simp only [List.length_cons]; omega) hY (by omega) a1 a2) (by intros; (repeat' first | exact ok_some ‹_› | refine cD_bindR (cD_take' hx.1 ‹_› (by decide) (by decide)) (fun _ _ _ => ?_) | refine cD_bindR (cD_E' hx.1 ‹_› (by omega)) (fun _ _ _ => ?_) | refine cD_bindR (cD_type' hx.1 ‹_› (by omega)) (fun _ _ _ => ?_) | refine cD_bindR (cD_sides' hx.1 ‹_› (by omega) (by omega)) (fun _ _ _ => ?_) | refine cD_bindR (cD_tType hx.1 ‹_›) (fun _ _ _ => ?_) | refine ok_pairOf (fun _ => ?_) | refine cD_getp hx.1 ‹_› ?_ | refine cD_bind (cD_node hx.1 ‹_›) (fun _ _ _ => ?_) | refine cD_bind (cD_inner hx.1 ‹_›) (fun _ _ _ => ?_) | refine cD_textOf hx.1 ‹_› (fun _ => ?_) | refine cD_has hx.1 ‹_› ?_ (fun _ => ?_) | refine cD_kindB hx.1 ‹_› (fun _ _ => ?_) | refine cD_ifk ‹_› (by decide) (by decide) ?_ | exact cD_call hx.1 ‹_› | exact ok_some (cD_si hx.1.1 ‹_› (by omega)))) ?_
  rintro r M4 NF ⟨i4, m4, c4, xn4, an4, g4, rfl, f1, f2, f3, f4, f5, f6, f7, f8, f9, fA⟩
  obtain ⟨NG, h1, h2, h3, h4⟩ := r_keep (.inl ⟨rfl, rfl⟩) hh f2 (by omega) (by simp only [List.length_cons]; omega) (by have := f1.2.2.2.1; omega)
  refine J_step h1 ?_
  refine J_bind (j_take (w := 6) hx f1 h2 (by omega) (by omega) (by simp only [List.length_cons]; omega)) (by intros; (repeat' first | exact ok_some ‹_› | refine cD_bindR (cD_take' hx.1 ‹_› (by decide) (by decide)) (fun _ _ _ => ?_) | refine cD_bindR (cD_E' hx.1 ‹_› (by omega)) (fun _ _ _ => ?_) | refine cD_bindR (cD_type' hx.1 ‹_› (by omega)) (fun _ _ _ => ?_) | refine cD_bindR (cD_sides' hx.1 ‹_› (by omega) (by omega)) (fun _ _ _ => ?_) | refine cD_bindR (cD_tType hx.1 ‹_›) (fun _ _ _ => ?_) | refine ok_pairOf (fun _ => ?_) | refine cD_getp hx.1 ‹_› ?_ | refine cD_bind (cD_node hx.1 ‹_›) (fun _ _ _ => ?_) | refine cD_bind (cD_inner hx.1 ‹_›) (fun _ _ _ => ?_) | refine cD_textOf hx.1 ‹_› (fun _ => ?_) | refine cD_has hx.1 ‹_› ?_ (fun _ => ?_) | refine cD_kindB hx.1 ‹_› (fun _ _ => ?_) | refine cD_ifk ‹_› (by decide) (by decide) ?_ | exact cD_call hx.1 ‹_› | exact ok_some (cD_si hx.1.1 ‹_› (by omega)))) ?_
  rintro _ M5 NH ⟨l0, l1, l2, l3⟩
  -- the last expression
  refine J_bind (HE j (by omega) (i4 + 1) m4 (c4 + 1) xn4 an4 _ D W Y g4 M5 NH (by simp only [List.length_cons]; omega) hY (by omega) l1 l2) (by intros; (repeat' first | exact ok_some ‹_› | refine cD_bindR (cD_take' hx.1 ‹_› (by decide) (by decide)) (fun _ _ _ => ?_) | refine cD_bindR (cD_E' hx.1 ‹_› (by omega)) (fun _ _ _ => ?_) | refine cD_bindR (cD_type' hx.1 ‹_› (by omega)) (fun _ _ _ => ?_) | refine cD_bindR (cD_sides' hx.1 ‹_› (by omega) (by omega)) (fun _ _ _ => ?_) | refine cD_bindR (cD_tType hx.1 ‹_›) (fun _ _ _ => ?_) | refine ok_pairOf (fun _ => ?_) | refine cD_getp hx.1 ‹_› ?_ | refine cD_bind (cD_node hx.1 ‹_›) (fun _ _ _ => ?_) | refine cD_bind (cD_inner hx.1 ‹_›) (fun _ _ _ => ?_) | refine cD_textOf hx.1 ‹_› (fun _ => ?_) | refine cD_has hx.1 ‹_› ?_ (fun _ => ?_) | refine cD_kindB hx.1 ‹_› (fun _ _ => ?_) | refine cD_ifk ‹_› (by decide) (by decide) ?_ | exact cD_call hx.1 ‹_› | exact ok_some (cD_si hx.1.1 ‹_› (by omega)))) ?_
  rintro r M6 NI ⟨i6, m6, c6, xn6, an6, g6, rfl, v1, v2, v3, v4, v5, v6, v7, v8, v9, vA⟩
  have hi6 := v1.2.2.2.1
  obtain ⟨NJ, w1, w2, w3, w4⟩ := r_keep (.inr (.inl ⟨rfl, rfl⟩)) hh v2 (by omega) (by simp only [List.length_cons]; omega) (by omega)
  obtain ⟨NK, w5, w6, w7⟩ := r_put w2 (by simp only [List.length_cons]; omega) (by omega)
  obtain ⟨NL, w8, w9, wA⟩ := r_ende w6 (by omega)
  refine J_step (w1.trans (w5.trans w8)) ?_
  refine J_getp hx v1.1.1 ?_
  obtain ⟨M7, z1, z2, z3, z4, z5, z6, z7, z8, z9⟩ := c_node (kd := 304) (t := nI i) (a1 := nI c4) (a2 := nI c6) (a3 := nI m) hb v1 (by omega)
  refine J_bs z1 (J_some ?_)
  have wL : rS NJ NL := rS_trans w7 wA
  -- frames
  have R2 : ∀ c k, 71 ≤ c ∧ c ≤ 78 → ¬ (c = 73 ∧ k = xn) → NL.1 c k = NI.1 c k := fun c k u1 u2 => (wL.1 c k (by omega)).trans (w4.1 c k (by omega))
  have RG : ∀ c k, 71 ≤ c ∧ c ≤ 78 → ¬ (c = 73 ∧ k = xn) → (c ≤ 77 → k < xn4) → (c = 78 → k < an4) → NL.1 c k = NG.1 c k := fun c k u1 u2 u3 u4 => (R2 c k u1 (by omega)).trans ((v9.1 c k (by unfold rEa; omega)).trans (l3.1 c k (by omega)))
  have R1 : ∀ c k, 71 ≤ c ∧ c ≤ 78 → ¬ ((c = 73 ∨ c = 72) ∧ k = xn) → (c ≤ 77 → k < xn4) → (c = 78 → k < an4) → NL.1 c k = NF.1 c k := fun c k u1 u2 u3 u4 => (RG c k u1 (by omega) u3 u4).trans (h4.1 c k (by omega))
  have R0 : ∀ c k, 71 ≤ c ∧ c ≤ 78 → ¬ ((c = 73 ∨ c = 72) ∧ k = xn) → c ≤ 77 → k < xn + 1 → NL.1 c k = ND.1 c k := fun c k u1 u2 u3 u4 => (R1 c k u1 u2 (by omega) (by omega)).trans ((f9.1 c k (by unfold rEa; omega)).trans (a3.1 c k (by omega)))
  have Q2 : ∀ c k, ¬ ((c = 62 ∧ k = 7) ∨ (c = 69 ∧ 16 * (12 * h + f) + m6 ≤ k)) → NL.2.1 c k = NI.2.1 c k := fun c k u => (wL.2 c k (by omega)).trans (w4.2 c k (by omega))
  have Q1 : ∀ c k, ¬ ((c = 62 ∧ k = 7) ∨ (c = 69 ∧ 16 * (12 * h + f) + m4 ≤ k)) → (c = 77 → k < xn4) → NL.2.1 c k = NF.2.1 c k := fun c k u u2 => (Q2 c k (by omega)).trans ((v9.2 c k (by unfold rEl; omega)).trans ((l3.2 c k (by omega)).trans (h4.2 c k (by omega))))
  have Q0 : ∀ c k, c = 69 → k < 16 * (12 * h + f) + m + 1 → NL.2.1 c k = ND.2.1 c k := fun c k u u2 => (Q1 c k (by omega) (by omega)).trans ((f9.2 c k (by unfold rEl; omega)).trans (a3.2 c k (by omega)))
  have C4 : cE b f m4 (c4 + 1) M4 M7 := cE_trans (cE_3 l0) (cE_trans v8 z3 (by omega) (by omega)) (by omega) (by omega)
  have C2 : cE b f (m + 1) nd M2 M7 := cE_trans (cE_3 a0) (cE_trans f8 C4 (by omega) (by omega)) (by omega) (by omega)
  have S1 : TI b T n (gB g6 m (c6 + 1)) nd (c4 + 1) (xn + 1) xn4 (m + 1) m4 an4 M7 NL := TI_congr f5 (fun c k u1 u2 u3 u4 _ => C4.1 c k (by unfold cEa; omega)) (fun c k u1 u2 u3 u4 => R1 c k (by omega) (by omega) (by omega) (by omega)) (fun k u1 u2 => Q1 77 k (by omega) (by omega)) (fun k u => R1 78 k (by omega) (by omega) (by omega) (by omega)) (fun k u1 u2 => ⟨(gB_ne (by omega)).trans (v6.1 k u2).1, (gB_ne (by omega)).trans (v6.1 k u2).2⟩) (fun k u1 u2 => (gB_ne (by omega)).trans (v6.2 k u2))
  have S2 : TI b T n (gB g6 m (c6 + 1)) (c4 + 1) (c6 + 1) xn4 xn6 m4 m6 an6 M7 NL := TI_congr v5 (fun c k u1 u2 u3 u4 _ => z3.1 c k (by unfold cEa; omega)) (fun c k u1 u2 u3 u4 => R2 c k (by omega) (by omega)) (fun k u1 u2 => Q2 77 k (by omega)) (fun k u => R2 78 k (by omega) (by omega)) (fun k u1 u2 => ⟨gB_ne (by omega), gB_ne (by omega)⟩) (fun k u1 u2 => gB_ne (by omega))
  have S := TI_app (TI_mono S1 (Nat.le_refl _) (Nat.le_refl _) (show an4 ≤ an6 by omega) (Nat.le_refl _) (Nat.le_refl _)) S2 (by omega) (by omega) (by omega) (by omega) (by omega)
  have ge4 : (gB g6 m (c6 + 1)) 0 c4 = g4 0 c4 := (gB_ne (by omega)).trans (v6.1 c4 (by omega)).1
  have ge6 : (gB g6 m (c6 + 1)) 0 c6 = g6 0 c6 := gB_ne (by omega)
  refine EQ_two (x := xn) (t := i) (c1 := c4) (gz := gB g6 m (c6 + 1)) rfl z2 w9 (by omega) (TI_mono S (by omega) (Nat.le_refl _) (Nat.le_refl _) (by omega) (Nat.le_refl _)) (fun c u1 u2 => by have := (S c u1 u2).1; omega) (by omega) (((gB_ne (by omega)).trans (v6.1 c4 (by omega)).2).trans f4) ((gB_ne (by omega)).trans v4) ⟨hi1, kd_lt (T := T) (by omega)⟩ z5 ?_ z6 z7 ?_ ?_ (.inr (.inr (.inl ⟨z4, ?_, m, by omega, by omega, z8, ?_, gB_2⟩))) ?_ ?_ ?_ ?_ (LB_app (LB_congr fA (fun k _ z => (gB_ne (by omega)).trans (v6.1 k z).2)) (LB_congr vA (fun k _ z => gB_ne (by omega))) (fun k z1 z2 => (S2 k z1 z2).2.2.2.1)) (by unfold lbB; omega)
  · rw [R0 75 xn (by omega) (by omega) (by omega) (by omega), n6.1 _ _ (by omega)]; exact y2
  · rw [RG 72 xn (by omega) (by omega) (by omega) (by omega), h3, ge4]
  · rw [wL.1 _ _ (by omega), w3, ge6]
  · rw [R0 71 xn (by omega) (by omega) (by omega) (by omega), n6.1 _ _ (by omega)]; exact y1
  · rw [R0 74 xn (by omega) (by omega) (by omega) (by omega)]; exact n4
  · exact gA_trans (gA_mono f6 (Nat.le_refl _) (by omega)) (gA_trans (gA_mono v6 (Nat.le_refl _) (show m ≤ m4 by omega)) (gA_B (nd := c4 + 1) (Nat.le_refl _)) (by omega) (by omega)) (by omega) (by omega)
  · refine NM_app (m1 := m + 1) (NM_one ?_) (NM_app (m1 := m4) (fun k u1 u2 => ?_) (fun k u1 u2 => ?_))
    · rw [C2.2 _ _ (by omega), Q0 69 _ rfl (by omega), n7, n8]
    · rw [C4.2 _ _ (by omega), Q1 69 _ (by omega) (by omega)]; exact f7 k u1 u2
    · rw [z3.2 _ _ (by omega), Q2 69 _ (by omega)]; exact v7 k u1 u2
  · exact cE_trans (cE_3 d1) (cE_trans n5 C2 (by omega) (by omega)) (by omega) (by omega)
  · refine rE_trans rC ⟨fun c k u => ?_, fun c k u => ?_⟩ (Nat.le_refl _) (Nat.le_refl _) (Nat.le_refl _)
    · have u' := u
      unfold rEa at u'
      rw [wL.1 c k (by omega), w4.1 c k (by omega), v9.1 c k (by unfold rEa; omega), l3.1 c k (by omega), h4.1 c k (by omega), f9.1 c k (by unfold rEa; omega), a3.1 c k (by omega), n6.1 c k (by omega)]
    · have u' := u
      unfold rEl at u'
      rw [wL.2 c k (by omega), w4.2 c k (by omega), v9.2 c k (by unfold rEl; omega), l3.2 c k (by omega), h4.2 c k (by omega), f9.2 c k (by unfold rEl; omega), a3.2 c k (by omega), n6.2 c k (by omega)]
end JE
