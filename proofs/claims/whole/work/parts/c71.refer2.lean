noncomputable def askB (x1 : Int32) (x2 : Int32) (x3 : Int32) (x4 : Int32) (M9 : mv_M) : Option (Unit × mv_M) :=
  if x4 = 7 then
    mv_chk (mv_inb x1 2002) <|
    mv_chk (mv_inb (x3 + (M9.1 72 x1.toNatClampNeg)) 8000) <|
    mv_let (mv_si M9 88 (x3 + (M9.1 72 x1.toNatClampNeg)).toNatClampNeg x2) fun M22 =>
    some ((), M22)
  else
    if x4 = 1 then
      fX11_onAsk_121 x1 x2 x3 x4 M9
    else
      if x4 = 9 then
        fX11_onAsk_121 x1 x2 x3 x4 M9
      else
        if x4 = 2 then
          mv_bind (fX11_asking 2 x1 0 x3 M9) fun _ M12 =>
          mv_bind (fX11_asking 3 x1 0 (x3 + 16) M12) fun _ M13 =>
          mv_chk (mv_inb x1 2002) <|
          mv_bind (fX11_asking 1 (M13.1 74 x1.toNatClampNeg) x2 (x3 + 32) M13) fun _ M15 =>
          mv_chk (mv_inb x1 2002) <|
          mv_bind (fX11_asking 1 (M15.1 73 x1.toNatClampNeg) x2 (x3 + 16) M15) fun _ M17 =>
          mv_chk (mv_inb x1 2002) <|
          mv_bind (fX11_asking 1 (M17.1 72 x1.toNatClampNeg) 1 x3 M17) fun _ M19 =>
          some ((), M19)
        else
          if x4 = 3 then
            fX11_onAsk_321 x1 x2 x3 x4 M9
          else
            if x4 = 4 then
              fX11_onAsk_321 x1 x2 x3 x4 M9
            else
              if x4 = 8 then
                mv_chk (mv_inb (x3 / 16) 500) <|
                if (M9.1 89 (x3 / 16).toNatClampNeg) = 0 then
                  mv_bind (fX11_asking 6 x1 (8 * x2) x3 M9) fun _ M11 =>
                  some ((), M11)
                else
                  some ((), M9)
              else
                some ((), M9)
section RB
variable {b h F ND f a q n i k c d lv lv' t t' p g nn : Nat} {M N N' N1 N2 N3 : mv_M} {P : Nat → Nat → Nat} {R : Nat → Nat → Option (Nat → Nat)} {ty u y : Nat → Nat} {w : Nat → Int32} {X Y Z : Option (Nat → Nat)} {op nd v to : Int32}
theorem a_go (hg : gX11_asks_13 N = some (.inl (), N')) : fX11_asks_13 N = fX11_asks_13 N' := by
  unfold fX11_asks_13
  exact lp_go hg
theorem rty (hs : aS b h P F ND f R M N) (hn : n < P 10 f) : P 13 (16 * f + n) < 6 ∧ (P 13 (16 * f + n) ≤ 4 → N.1 70 (16 * (12 * h + f) + n) = nI (P 13 (16 * f + n))) := by
  have := (hs.1.2.2.2 f hs.2.2.1).2.2.2.2.2.2.2.2.1 n hn
  exact ⟨by omega, fun z => ((hs.2.2.2.1.2.2.2.2.2 f hs.2.2.1).2.2.1 n hn z).2⟩
theorem jV_tg (hs : aS b h P F ND f R M N) (hn : n < P 10 f) {x y : Nat} (hx : x < dem (P 13 (16 * f + n))) (hy : y < dem (P 13 (16 * f + n))) : jV (N.1 70 (16 * (12 * h + f) + n)) (nI x) (nI y) (nI 1) = nI (tg (P 13 (16 * f + n)) x y) ∧ jV (N.1 70 (16 * (12 * h + f) + n)) (nI x) (nI y) (nI 0) = nI (ei (P 13 (16 * f + n)) x y) := by
  obtain ⟨t6, ht⟩ := rty hs hn
  by_cases t4 : P 13 (16 * f + n) ≤ 4
  · rw [ht t4]
    obtain ⟨j1, j2⟩ := jn_row (M := N) (t := P 13 (16 * f + n)) (by omega) hx hy
    have e1 := jV_eq (nI (P 13 (16 * f + n))) (nI x) (nI y) (nI 1) N
    have e2 := jV_eq (nI (P 13 (16 * f + n))) (nI x) (nI y) (nI 0) N
    rw [show fX11_joined (nI (P 13 (16 * f + n))) (nI x) (nI y) (nI 1) N = _ from j1] at e1
    rw [show fX11_joined (nI (P 13 (16 * f + n))) (nI x) (nI y) (nI 0) N = _ from j2] at e2
    simp only [Option.some.injEq, Prod.mk.injEq, and_true] at e1 e2
    exact ⟨e1.symm, e2.symm⟩
  · have e5 : P 13 (16 * f + n) = 5 := by omega
    rw [e5] at hx hy ⊢
    have : dem 5 = 1 := rfl
    obtain rfl : x = 0 := by omega
    obtain rfl : y = 0 := by omega
    obtain ⟨j1, j2⟩ := jn_0 (M := N) (v := N.1 70 (16 * (12 * h + f) + n))
    have e1 := jV_eq (N.1 70 (16 * (12 * h + f) + n)) (nI 0) (nI 0) (nI 1) N
    have e2 := jV_eq (N.1 70 (16 * (12 * h + f) + n)) (nI 0) (nI 0) (nI 0) N
    rw [show fX11_joined (N.1 70 (16 * (12 * h + f) + n)) (nI 0) (nI 0) (nI 1) N = _ from j1] at e1
    rw [show fX11_joined (N.1 70 (16 * (12 * h + f) + n)) (nI 0) (nI 0) (nI 0) N = _ from j2] at e2
    simp only [Option.some.injEq, Prod.mk.injEq, and_true] at e1 e2
    exact ⟨e1.symm, e2.symm⟩
theorem a_jn (hs : aS b h P F ND f R M N) (h36 : N.1 62 36 = nI (t + 1)) (ht : t < 3000) (htk : tk N t (nI 2) nd v (nI (16 * lv))) (hl : lv + 1 < 490) (KX : aK (P 10 f) lv X N) (KY : aK (P 10 f) (lv + 1) Y N) (vX : vOK (fun n => P 13 (16 * f + n)) (P 10 f) X) (vY : vOK (fun n => P 13 (16 * f + n)) (P 10 f) Y) : ∃ N', fX11_asks_13 N = fX11_asks_13 N' ∧ N'.1 62 36 = nI t ∧ kL2 t lv N N' ∧ aK (P 10 f) lv (jn (fun n => P 13 (16 * f + n)) X Y) N' := by
  have L4 : kL2 t lv N (mv_si N 62 36 (nI t)) := kL2_si (by omega)
  have hs4 := aS_F hs L4.1
  have E : ∀ fx fy, fx ≤ 1 → fy ≤ 1 → N.1 89 lv = nI fx → N.1 89 (lv + 1) = nI fy → gX11_asks_13 N = some (.inl (), mv_si (pG 88 (mv_si N 62 36 (nI t)) (16 * lv) (P 10 f) (jW (mv_si N 62 36 (nI t)) 1 fx fy lv (16 * (12 * h + f)))) 89 lv (nI (1 - (1 - fx) * (1 - fy)))) := by
    intro fx fy x1 y1 ex ey
    have J := a_join hs4 hl (w := 1) (by omega) x1 y1 (by simp (disch := omega) only [rd_hi, rd_mi, rd_hl, rd_ml, rd_hr, rd_mr, rd_si2, rd_sl1, rd_sl2, rd_sr1, rd_sr2]; exact ex) (by simp (disch := omega) only [rd_hi, rd_mi, rd_hl, rd_ml, rd_hr, rd_mr, rd_si2, rd_sl1, rd_sl2, rd_sr1, rd_sr2]; exact ey)
    rw [if_neg (show ¬ (1 : Nat) = 0 by omega)] at J
    obtain ⟨k1, k2, k3, k4⟩ := htk
    unfold gX11_asks_13 fX11_asks_101 fX11_asks_114 fX11_asks_256
    simp (disch := omega) only [h36, k1, k2, k3, k4, J, Nat.add_sub_cancel, k_iT, k_iF, Bool.false_eq_true, eq_self, Nat.add_zero, k_lt', k_bs, k_T, k_F, k_inb, k_ck, k_nz, ↓kN, kL, k_lt, k_le, k_eq, kn_le, kn_lt, kn_eq, kn_le', kn_lt', kn_eq', nI_clamp, nI_add, k_sub, k_mul, k_div, rd_hi, rd_mi, rd_hl, rd_ml, rd_hr, rd_mr, rd_si2, rd_sl1, rd_sl2, rd_sr1, rd_sr2]
  have fr : ∀ W fl, (mv_si (pG 88 (mv_si N 62 36 (nI t)) (16 * lv) (P 10 f) W) 89 lv (nI fl)).1 62 36 = nI t ∧ kL2 t lv N (mv_si (pG 88 (mv_si N 62 36 (nI t)) (16 * lv) (P 10 f) W) 89 lv (nI fl)) := fun W fl => ⟨by rw [rd_mi (by omega), pG_out (by omega)]; simp (disch := omega) only [rd_hi, rd_mi, rd_hl, rd_ml, rd_hr, rd_mr, rd_si2, rd_sl1, rd_sl2, rd_sr1, rd_sr2], kL2_tr L4 (kL2_tr (kL2_pG (Nat.le_refl _)) (kL2_si (by omega)) (Nat.le_refl _) (Nat.le_refl _)) (Nat.le_refl _) (Nat.le_refl _)⟩
  rcases KX with ⟨rfl, ex⟩ | ⟨x, rfl, ex, vx⟩
  · have : ∃ fy, fy ≤ 1 ∧ N.1 89 (lv + 1) = nI fy := by
      rcases KY with ⟨_, e⟩ | ⟨_, _, e, _⟩
      · exact ⟨1, by omega, e⟩
      · exact ⟨0, by omega, e⟩
    obtain ⟨fy, y1, ey⟩ := this
    refine ⟨_, a_go (E 1 fy (by omega) y1 ex ey), (fr _ _).1, (fr _ _).2, .inl ⟨rfl, ?_⟩⟩
    rw [rd_hi (by omega)]
    simp only [Nat.sub_self, Nat.zero_mul, Nat.sub_zero]
  · rcases KY with ⟨rfl, ey⟩ | ⟨y, rfl, ey, vy⟩
    · refine ⟨_, a_go (E 0 1 (by omega) (by omega) ex ey), (fr _ _).1, (fr _ _).2, .inl ⟨rfl, ?_⟩⟩
      rw [rd_hi (by omega)]
    · refine ⟨_, a_go (E 0 0 (by omega) (by omega) ex ey), (fr _ _).1, (fr _ _).2, .inr ⟨_, rfl, ?_, fun n hn => ?_⟩⟩
      · rw [rd_hi (by omega)]
      · have a1 := vx n hn
        have a2 := vy n hn
        rw [rd_mi (by omega), pG_in hn]
        unfold jW
        rw [if_neg (show ¬ (1 = 0 ∧ 0 ≠ 0) by omega), if_neg (show ¬ (1 = 0 ∧ 0 ≠ 0) by omega), rd_mi (by omega), rd_mi (by omega), rd_mi (by omega), a1, show 16 * lv + 16 + n = 16 * (lv + 1) + n by omega, a2]
        exact (jV_tg hs hn (vX x rfl n hn) (vY y rfl n hn)).1
theorem a_ei (hs : aS b h P F ND f R M N) (h36 : N.1 62 36 = nI (t + 1)) (ht : t < 3000) (htk : tk N t (nI 3) nd v (nI (16 * lv))) (hl : lv + 1 < 490) (KX : aK (P 10 f) lv X N) (KY : aK (P 10 f) (lv + 1) Y N) (vX : vOK (fun n => P 13 (16 * f + n)) (P 10 f) X) (vY : vOK (fun n => P 13 (16 * f + n)) (P 10 f) Y) : ∃ N', fX11_asks_13 N = fX11_asks_13 N' ∧ N'.1 62 36 = nI t ∧ kL2 t lv N N' ∧ aK (P 10 f) lv (eo (fun n => P 13 (16 * f + n)) X Y) N' := by
  have L4 : kL2 t lv N (mv_si N 62 36 (nI t)) := kL2_si (by omega)
  have hs4 := aS_F hs L4.1
  have E : ∀ fx fy, fx ≤ 1 → fy ≤ 1 → N.1 89 lv = nI fx → N.1 89 (lv + 1) = nI fy → gX11_asks_13 N = some (.inl (), mv_si (pG 88 (mv_si N 62 36 (nI t)) (16 * lv) (P 10 f) (jW (mv_si N 62 36 (nI t)) 0 fx fy lv (16 * (12 * h + f)))) 89 lv (nI (fx * fy))) := by
    intro fx fy x1 y1 ex ey
    have J := a_join hs4 hl (w := 0) (by omega) x1 y1 (by simp (disch := omega) only [rd_hi, rd_mi, rd_hl, rd_ml, rd_hr, rd_mr, rd_si2, rd_sl1, rd_sl2, rd_sr1, rd_sr2]; exact ex) (by simp (disch := omega) only [rd_hi, rd_mi, rd_hl, rd_ml, rd_hr, rd_mr, rd_si2, rd_sl1, rd_sl2, rd_sr1, rd_sr2]; exact ey)
    rw [if_pos rfl] at J
    obtain ⟨k1, k2, k3, k4⟩ := htk
    unfold gX11_asks_13 fX11_asks_101 fX11_asks_114 fX11_asks_256
    simp (disch := omega) only [h36, k1, k2, k3, k4, J, Nat.add_sub_cancel, k_iT, k_iF, Bool.false_eq_true, eq_self, Nat.add_zero, k_lt', k_bs, k_T, k_F, k_inb, k_ck, k_nz, ↓kN, kL, k_lt, k_le, k_eq, kn_le, kn_lt, kn_eq, kn_le', kn_lt', kn_eq', nI_clamp, nI_add, k_sub, k_mul, k_div, rd_hi, rd_mi, rd_hl, rd_ml, rd_hr, rd_mr, rd_si2, rd_sl1, rd_sl2, rd_sr1, rd_sr2]
  have fr : ∀ W fl, (mv_si (pG 88 (mv_si N 62 36 (nI t)) (16 * lv) (P 10 f) W) 89 lv (nI fl)).1 62 36 = nI t ∧ kL2 t lv N (mv_si (pG 88 (mv_si N 62 36 (nI t)) (16 * lv) (P 10 f) W) 89 lv (nI fl)) := fun W fl => ⟨by rw [rd_mi (by omega), pG_out (by omega)]; simp (disch := omega) only [rd_hi, rd_mi, rd_hl, rd_ml, rd_hr, rd_mr, rd_si2, rd_sl1, rd_sl2, rd_sr1, rd_sr2], kL2_tr L4 (kL2_tr (kL2_pG (Nat.le_refl _)) (kL2_si (by omega)) (Nat.le_refl _) (Nat.le_refl _)) (Nat.le_refl _) (Nat.le_refl _)⟩
  rcases KX with ⟨rfl, ex⟩ | ⟨x, rfl, ex, vx⟩
  · rcases KY with ⟨rfl, ey⟩ | ⟨y, rfl, ey, vy⟩
    · refine ⟨_, a_go (E 1 1 (by omega) (by omega) ex ey), (fr _ _).1, (fr _ _).2, .inl ⟨rfl, ?_⟩⟩
      rw [rd_hi (by omega)]
    · refine ⟨_, a_go (E 1 0 (by omega) (by omega) ex ey), (fr _ _).1, (fr _ _).2, .inr ⟨_, rfl, ?_, fun n hn => ?_⟩⟩
      · rw [rd_hi (by omega)]
      · have a2 := vy n hn
        rw [rd_mi (by omega), pG_in hn]
        unfold jW
        rw [if_pos (show 0 = 0 ∧ 1 ≠ 0 by omega), rd_mi (by omega), show 16 * lv + 16 + n = 16 * (lv + 1) + n by omega, a2]
  · rcases KY with ⟨rfl, ey⟩ | ⟨y, rfl, ey, vy⟩
    · refine ⟨_, a_go (E 0 1 (by omega) (by omega) ex ey), (fr _ _).1, (fr _ _).2, .inr ⟨_, rfl, ?_, fun n hn => ?_⟩⟩
      · rw [rd_hi (by omega)]
      · have a1 := vx n hn
        rw [rd_mi (by omega), pG_in hn]
        unfold jW
        rw [if_neg (show ¬ (0 = 0 ∧ 0 ≠ 0) by omega), if_pos (show 0 = 0 ∧ 1 ≠ 0 by omega), rd_mi (by omega), a1]
    · refine ⟨_, a_go (E 0 0 (by omega) (by omega) ex ey), (fr _ _).1, (fr _ _).2, .inr ⟨_, rfl, ?_, fun n hn => ?_⟩⟩
      · rw [rd_hi (by omega)]
      · have a1 := vx n hn
        have a2 := vy n hn
        rw [rd_mi (by omega), pG_in hn]
        unfold jW
        rw [if_neg (show ¬ (0 = 0 ∧ 0 ≠ 0) by omega), if_neg (show ¬ (0 = 0 ∧ 0 ≠ 0) by omega), rd_mi (by omega), rd_mi (by omega), rd_mi (by omega), a1, show 16 * lv + 16 + n = 16 * (lv + 1) + n by omega, a2]
        exact (jV_tg hs hn (vX x rfl n hn) (vY y rfl n hn)).2
/-- clearing a sheet -/
theorem a_clr {x1 x2 : Int32} (hl : lv < 490) : fX11_onAsk_3 x1 x2 (nI (16 * lv)) (nI 0) N = fX11_onAsk_3 x1 x2 (nI (16 * lv)) (nI 16) (pG 88 N (16 * lv) 16 (fun _ => nI 0)) := by
  have key : ∀ j i, i + j = 16 → fX11_onAsk_3 x1 x2 (nI (16 * lv)) (nI i) (pG 88 N (16 * lv) i (fun _ => nI 0)) = fX11_onAsk_3 x1 x2 (nI (16 * lv)) (nI 16) (pG 88 N (16 * lv) 16 (fun _ => nI 0)) := by
    intro j
    induction j with
    | zero =>
      intro i hi
      rw [show i = 16 by omega]
    | succ j ih =>
      intro i hi
      have h1 := ih (i + 1) (by omega)
      unfold fX11_onAsk_3 at h1 ⊢
      refine Eq.trans (lp_go (s' := (x1, x2, nI (16 * lv), nI (i + 1))) (M' := pG 88 N (16 * lv) (i + 1) (fun _ => nI 0)) ?_) h1
      unfold gX11_onAsk_3
      rw [← pG_s]
      simp (disch := omega) only [k_iT, k_iF, Bool.false_eq_true, eq_self, Nat.add_zero, k_lt', k_bs, k_T, k_F, k_inb, k_ck, k_nz, ↓kN, kL, k_lt, k_le, k_eq, kn_le, kn_lt, kn_eq, kn_le', kn_lt', kn_eq', nI_clamp, nI_add, k_sub, k_mul, k_div, rd_hi, rd_mi, rd_hl, rd_ml, rd_hr, rd_mr, rd_si2, rd_sl1, rd_sl2, rd_sr1, rd_sr2]
  have h1 := key 16 0 (by omega)
  rw [pG_0] at h1
  exact h1
end RB
