/-! TYPES: what the reference makes of an expression's parts -/
section TS
variable {h f x sc nm x2 x1 q y1 y2 : Nat} {N : mv_M} {w : Int32}
theorem sh_0 (hx : x < 2002) (e71 : N.1 71 x = nI 1 ∨ N.1 71 x = nI 5) (e44 : N.1 62 44 = nI sc) : fX11_onShut (nI x) w N = fX11_onShut_162 (nI x) w 0 (mv_si N 62 44 (nI sc)) := by
  unfold fX11_onShut
  rw [k_inb (by omega) (by omega), k_ck, nI_clamp (by omega), k_lt', e44]
  rcases e71 with e | e
  · rw [e, if_neg (by decide), if_neg (by decide)]
    unfold fX11_onShut_31
    rw [k_lt', if_neg (by decide), if_neg (by decide), if_neg (by decide), if_neg (by decide), if_neg (by decide), if_neg (by decide), if_neg (by decide), show (0 : Int32) = nI 0 from rfl, k_sub (by omega), Nat.sub_zero]
  · rw [e, if_neg (by decide), if_neg (by decide)]
    unfold fX11_onShut_31
    rw [k_lt', if_neg (by decide), if_neg (by decide), if_neg (by decide), if_neg (by decide), if_neg (by decide), if_neg (by decide), if_neg (by decide), show (0 : Int32) = nI 0 from rfl, k_sub (by omega), Nat.sub_zero]
theorem sh_6 (hx : x < 2002) (e71 : N.1 71 x = nI 6) (e44 : N.1 62 44 = nI sc) : fX11_onShut (nI x) w N = fX11_onShut_162 (nI x) w (N.1 72 x) (mv_si N 62 44 (nI sc)) := by
  unfold fX11_onShut
  rw [k_inb (by omega) (by omega), k_ck, nI_clamp (by omega), k_lt', e44, e71, if_neg (by decide), if_neg (by decide)]
  unfold fX11_onShut_31
  rw [k_lt', if_pos (by decide), show (0 : Int32) = nI 0 from rfl, k_sub (by omega), Nat.sub_zero, k_inb (by omega) (by omega), k_ck, nI_clamp (by omega), rd_mi (by omega)]
theorem sh_7 (hh : h ≤ 1) (hf : f < 12) (hx : x < 2002) (e71 : N.1 71 x = nI 7) (e44 : N.1 62 44 = nI sc) (e33 : N.1 62 33 = nI (12 * h + f)) (e72 : N.1 72 x = nI nm) (hn : nm < 16) : fX11_onShut (nI x) w N = fX11_onShut_162 (nI x) w (N.1 70 (16 * (12 * h + f) + nm)) (mv_si N 62 44 (nI sc)) := by
  unfold fX11_onShut
  rw [k_inb (by omega) (by omega), k_ck, nI_clamp (by omega), k_lt', e44, e71, if_neg (by decide), if_neg (by decide)]
  unfold fX11_onShut_31
  rw [k_lt', if_neg (by decide), if_pos (by decide), show (0 : Int32) = nI 0 from rfl, k_sub (by omega), Nat.sub_zero, k_inb (by omega) (by omega), k_ck, nI_clamp (by omega), rd_mi (by omega), rd_mi (by omega), e33, e72, show (16 : Int32) = nI 16 from rfl, k_mul, nI_add, k_inb (by omega) (by omega), k_ck, nI_clamp (by omega), rd_mi (by omega)]
theorem sh_93 (hx : x < 2002) (hx2 : x2 < 2002) (e73 : N.1 73 x = nI x2) : fX11_onShut_93 (nI x) w (mv_si N 62 44 (nI sc)) = fX11_onShut_162 (nI x) w (N.1 76 x2) (mv_si N 62 44 (nI sc)) := by
  unfold fX11_onShut_93
  rw [k_inb (by omega) (by omega), k_ck, nI_clamp (by omega), rd_mi (by omega), e73, k_inb (by omega) (by omega), k_ck, nI_clamp (by omega), rd_mi (by omega)]
theorem sh_2 (hx : x < 2002) (hx2 : x2 < 2002) (e71 : N.1 71 x = nI 2) (e44 : N.1 62 44 = nI sc) (e73 : N.1 73 x = nI x2) : fX11_onShut (nI x) w N = fX11_onShut_162 (nI x) w (N.1 76 x2) (mv_si N 62 44 (nI sc)) := by
  unfold fX11_onShut
  rw [k_inb (by omega) (by omega), k_ck, nI_clamp (by omega), k_lt', e44, e71, if_neg (by decide), if_neg (by decide)]
  unfold fX11_onShut_31
  rw [k_lt', if_neg (by decide), if_neg (by decide), if_pos (by decide), show (0 : Int32) = nI 0 from rfl, k_sub (by omega), Nat.sub_zero]
  exact sh_93 hx hx2 e73
theorem sh_3 (hx : x < 2002) (hx2 : x2 < 2002) (e71 : N.1 71 x = nI 3) (e44 : N.1 62 44 = nI (sc + 1)) (e73 : N.1 73 x = nI x2) : fX11_onShut (nI x) w N = fX11_onShut_162 (nI x) w (N.1 76 x2) (mv_si N 62 44 (nI sc)) := by
  unfold fX11_onShut
  rw [k_inb (by omega) (by omega), k_ck, nI_clamp (by omega), k_lt', e44, e71, if_pos (by decide)]
  unfold fX11_onShut_31
  rw [k_lt', if_neg (by decide), if_neg (by decide), if_neg (by decide), if_pos (by decide), show (1 : Int32) = nI 1 from rfl, k_sub (by omega), show sc + 1 - 1 = sc by omega]
  exact sh_93 hx hx2 e73
theorem sh_4 (hx : x < 2002) (hx2 : x2 < 2002) (e71 : N.1 71 x = nI 4) (e44 : N.1 62 44 = nI (sc + 1 + 1)) (e73 : N.1 73 x = nI x2) : fX11_onShut (nI x) w N = fX11_onShut_162 (nI x) w (N.1 76 x2) (mv_si N 62 44 (nI sc)) := by
  unfold fX11_onShut
  rw [k_inb (by omega) (by omega), k_ck, nI_clamp (by omega), k_lt', e44, e71, if_neg (by decide), if_pos (by decide)]
  unfold fX11_onShut_31
  rw [k_lt', if_neg (by decide), if_neg (by decide), if_neg (by decide), if_neg (by decide), if_pos (by decide), show (2 : Int32) = nI 2 from rfl, k_sub (by omega), show sc + 1 + 1 - 2 = sc by omega]
  exact sh_93 hx hx2 e73
theorem sh_8 (hx : x < 2002) (hq : q < 24) (e71 : N.1 71 x = nI 8) (e44 : N.1 62 44 = nI sc) (e74 : N.1 74 x = nI q) : fX11_onShut (nI x) w N = fX11_onShut_162 (nI x) w (N.1 65 q) (mv_si N 62 44 (nI sc)) := by
  unfold fX11_onShut
  rw [k_inb (by omega) (by omega), k_ck, nI_clamp (by omega), k_lt', e44, e71, if_neg (by decide), if_neg (by decide)]
  unfold fX11_onShut_31
  rw [k_lt', if_neg (by decide), if_neg (by decide), if_neg (by decide), if_neg (by decide), if_neg (by decide), if_pos (by decide), show (0 : Int32) = nI 0 from rfl, k_sub (by omega), Nat.sub_zero, k_inb (by omega) (by omega), k_ck, nI_clamp (by omega), rd_mi (by omega), e74, k_inb (by omega) (by omega), k_ck, nI_clamp (by omega), rd_mi (by omega)]
theorem sh_9 {r : Int32} (hx : x < 2002) (hx1 : x1 < 2002) (hx2 : x2 < 2002) (e71 : N.1 71 x = nI 9) (e44 : N.1 62 44 = nI sc) (e72 : N.1 72 x = nI x1) (e73 : N.1 73 x = nI x2) (ep : ∀ X, fX11_pairOf (N.1 76 x1) (N.1 76 x2) X = some (r, X)) : fX11_onShut (nI x) w N = fX11_onShut_162 (nI x) w r (mv_si N 62 44 (nI sc)) := by
  unfold fX11_onShut
  rw [k_inb (by omega) (by omega), k_ck, nI_clamp (by omega), k_lt', e44, e71, if_neg (by decide), if_neg (by decide)]
  unfold fX11_onShut_31
  rw [k_lt', if_neg (by decide), if_neg (by decide), if_neg (by decide), if_neg (by decide), if_neg (by decide), if_neg (by decide), if_pos (by decide), show (0 : Int32) = nI 0 from rfl, k_sub (by omega), Nat.sub_zero, k_inb (by omega) (by omega), k_ck, nI_clamp (by omega), rd_mi (by omega), e72, k_inb (by omega) (by omega), k_ck, k_ck, rd_mi (by omega), e73, k_inb (by omega) (by omega), k_ck, nI_clamp (by omega), nI_clamp (by omega), rd_mi (by omega), rd_mi (by omega), ep, k_bs]
end TS
