noncomputable def wB (r_X5_weighCall : Int32 → Int32 → Int32 → mv_M → Option (Unit × mv_M)) (r_X5_weighCase : Int32 → Int32 → Int32 → mv_M → Option (Unit × mv_M)) (r_X5_weighIf : Int32 → Int32 → Int32 → mv_M → Option (Unit × mv_M)) (r_X5_weighLet : Int32 → Int32 → Int32 → mv_M → Option (Unit × mv_M)) (r_X5_weighTogether : Int32 → Int32 → Int32 → mv_M → Option (Unit × mv_M)) (a0 : Int32) (a1 : Int32) (a2 : Int32) (v4 : Int32) (M9 : mv_M) : Option (Unit × mv_M) :=
  mv_getp (M9.2.2 5 1) fun b10 =>
  mv_chk (mv_inb a0 1000) <|
  if (M9.1 (b10 + 8) a0.toNatClampNeg) = 2 then
    mv_getp (M9.2.2 5 1) fun b13 =>
    mv_getp (M9.2.2 5 1) fun b14 =>
    mv_chk (mv_inb a0 1000) <|
    mv_bind (fX4_hasName b13 (M9.1 5 2) (M9.1 (b14 + 9) a0.toNatClampNeg) M9) fun r16 M17 =>
    if r16 = 0 then
      some ((), M17)
    else
      mv_getp (M17.2.2 5 1) fun b18 =>
      mv_chk (mv_inb a0 1000) <|
      mv_chk (mv_inb (v4 + (M17.1 (b18 + 9) a0.toNatClampNeg)) 1344) <|
      mv_let (mv_si M17 46 (v4 + (M17.1 (b18 + 9) a0.toNatClampNeg)).toNatClampNeg a1) fun M21 =>
      some ((), M21)
  else
    if (M9.1 (b10 + 8) a0.toNatClampNeg) = 3 then
      some ((), M9)
    else
      if (M9.1 (b10 + 8) a0.toNatClampNeg) = 5 then
        mv_bind (r_X5_weighCall a0 a1 a2 M9) fun _ M24 =>
        some ((), M24)
      else
        if (M9.1 (b10 + 8) a0.toNatClampNeg) = 6 then
          mv_getp (M9.2.2 5 1) fun b26 =>
          mv_chk (mv_inb a0 1000) <|
          mv_getp (M9.2.2 5 1) fun b28 =>
          mv_chk (mv_inb a0 1000) <|
          mv_bind (fX6_askedOfFirst (M9.1 (b28 + 13) a0.toNatClampNeg) a1 M9) fun r30 M31 =>
          mv_bind (r_X5_weighTogether (M9.1 (b26 + 9) a0.toNatClampNeg) r30 a2 M31) fun _ M32 =>
          mv_getp (M32.2.2 5 1) fun b33 =>
          mv_chk (mv_inb a0 1000) <|
          mv_getp (M32.2.2 5 1) fun b35 =>
          mv_chk (mv_inb a0 1000) <|
          mv_bind (fX6_askedOfSecond (M32.1 (b35 + 13) a0.toNatClampNeg) a1 M32) fun r37 M38 =>
          mv_bind (r_X5_weighTogether (M32.1 (b33 + 10) a0.toNatClampNeg) r37 a2 M38) fun _ M39 =>
          some ((), M39)
        else
          if (M9.1 (b10 + 8) a0.toNatClampNeg) = 301 then
            mv_bind (r_X5_weighIf a0 a1 a2 M9) fun _ M41 =>
            some ((), M41)
          else
            if (M9.1 (b10 + 8) a0.toNatClampNeg) = 304 then
              mv_bind (r_X5_weighLet a0 a1 a2 M9) fun _ M43 =>
              some ((), M43)
            else
              if (M9.1 (b10 + 8) a0.toNatClampNeg) = 306 then
                mv_bind (r_X5_weighCase a0 a1 a2 M9) fun _ M45 =>
                some ((), M45)
              else
                if (M9.1 (b10 + 8) a0.toNatClampNeg) = 308 then
                  mv_chk (mv_inb a2 84) <|
                  mv_let (mv_si M9 47 a2.toNatClampNeg (vp_nar .boolean 1)) fun M48 =>
                  some ((), M48)
                else
                  mv_getp (M9.2.2 5 1) fun b49 =>
                  mv_chk (mv_inb a0 1000) <|
                  mv_bind (r_X5_weighTogether (M9.1 (b49 + 9) a0.toNatClampNeg) 1 a2 M9) fun _ M51 =>
                  mv_getp (M51.2.2 5 1) fun b52 =>
                  mv_chk (mv_inb a0 1000) <|
                  mv_bind (r_X5_weighTogether (M51.1 (b52 + 10) a0.toNatClampNeg) 1 a2 M51) fun _ M54 =>
                  some ((), M54)
section WM
variable {b h F ND f a q n i k c d lv g nn : Nat} {M M' M0 M1 N : mv_M} {P : Nat → Nat → Nat} {R : Nat → Nat → Option (Nat → Nat)} {ty w u y : Nat → Nat} {X Y Z : Option (Nat → Nat)}
theorem rs_rf : rsame nn X X := by
  cases X with
  | none => exact .inl ⟨rfl, rfl⟩
  | some x => exact .inr ⟨x, x, rfl, rfl, fun _ _ => rfl⟩
theorem rs_tr (h1 : rsame nn X Y) (h2 : rsame nn Y Z) : rsame nn X Z := by
  rcases h1 with ⟨rfl, rfl⟩ | ⟨x, y, rfl, rfl, e⟩
  · exact h2
  · rcases h2 with ⟨e2, _⟩ | ⟨y', z, e1, rfl, e2⟩
    · cases e2
    · cases e1
      exact .inr ⟨x, z, rfl, rfl, fun k hk => (e k hk).trans (e2 k hk)⟩
theorem rs_sy (h1 : rsame nn X Y) : rsame nn Y X := by
  rcases h1 with ⟨rfl, rfl⟩ | ⟨x, y, rfl, rfl, e⟩
  · exact .inl ⟨rfl, rfl⟩
  · exact .inr ⟨y, x, rfl, rfl, fun k hk => (e k hk).symm⟩
theorem rs_jn {X' Y' : Option (Nat → Nat)} (h1 : rsame nn X X') (h2 : rsame nn Y Y') : rsame nn (jn ty X Y) (jn ty X' Y') := by
  rcases h1 with ⟨rfl, rfl⟩ | ⟨x, x', rfl, rfl, e⟩
  · exact .inl ⟨rfl, rfl⟩
  · rcases h2 with ⟨rfl, rfl⟩ | ⟨y, y', rfl, rfl, e'⟩
    · exact .inl ⟨rfl, rfl⟩
    · exact .inr ⟨_, _, rfl, rfl, fun k hk => by show tg _ _ _ = tg _ _ _; rw [e k hk, e' k hk]⟩
theorem rs_cm (ht : ∀ n, n < nn → ty n < 6) (vX : vOK ty nn X) (vY : vOK ty nn Y) : rsame nn (jn ty X Y) (jn ty Y X) := by
  cases X with
  | none => exact .inl ⟨rfl, jn_none⟩
  | some x =>
    cases Y with
    | none => exact .inl ⟨rfl, rfl⟩
    | some y => exact .inr ⟨_, _, rfl, rfl, fun k hk => (tg_row (ht k hk) (vX x rfl k hk) (vY y rfl k hk)).2.1⟩
theorem rs_0l (ht : ∀ n, n < nn → ty n < 6) (vX : vOK ty nn X) : rsame nn (jn ty (some (fun _ => 0)) X) X := by
  cases X with
  | none => exact .inl ⟨rfl, rfl⟩
  | some x => exact .inr ⟨_, _, rfl, rfl, fun k hk => (tg_row (ht k hk) (vX x rfl k hk) (vX x rfl k hk)).2.2.2.1⟩
theorem rs_0r (ht : ∀ n, n < nn → ty n < 6) (vX : vOK ty nn X) : rsame nn (jn ty X (some (fun _ => 0))) X := rs_tr (rs_cm ht vX vOK_0) (rs_0l ht vX)
theorem wK_cg (hK : wK nn ty lv X M) (h1 : rsame nn X Y) : wK nn ty lv Y M := by
  obtain ⟨u, hu, hx⟩ := hK
  refine ⟨u, hu, ?_⟩
  rcases hx with ⟨rfl, e⟩ | ⟨x, rfl, e, ex⟩
  · rcases h1 with ⟨_, rfl⟩ | ⟨x, y, e1, _⟩
    · exact .inl ⟨rfl, e⟩
    · cases e1
  · rcases h1 with ⟨e1, _⟩ | ⟨x', y, e1, rfl, ey⟩
    · cases e1
    · cases e1
      exact .inr ⟨y, rfl, e, fun n hn => (ex n hn).trans (ey n hn)⟩
theorem wK_up (hK : wK nn ty lv X M) (hL : wL (lv + 1) M M') (hn : nn ≤ 16) : wK nn ty lv X M' := by
  obtain ⟨u, hu, hx⟩ := hK
  refine ⟨u, fun n h0 => ⟨(hu n h0).1, (hL.2.1 _ (by omega)).trans (hu n h0).2⟩, ?_⟩
  have e := hL.2.2 lv (by omega)
  rcases hx with ⟨rfl, e1⟩ | ⟨x, rfl, e1, ex⟩
  · exact .inl ⟨rfl, e.trans e1⟩
  · exact .inr ⟨x, rfl, e.trans e1, ex⟩
theorem rx0 {x y z : Int32} : RX5_weigh (g + 1) 0 x y z M = fX5_weigh (fun a0 a1 a2 M => RX5_weigh g 5 a0 a1 a2 M) (fun a0 a1 a2 M => RX5_weigh g 4 a0 a1 a2 M) (fun a0 a1 a2 M => RX5_weigh g 2 a0 a1 a2 M) (fun a0 a1 a2 M => RX5_weigh g 3 a0 a1 a2 M) (fun a0 a1 a2 M => RX5_weigh g 1 a0 a1 a2 M) x y z M := rfl
theorem rx1 {x y z : Int32} : RX5_weigh (g + 1) 1 x y z M = fX5_weighTogether (fun a0 a1 a2 M => RX5_weigh g 0 a0 a1 a2 M) x y z M := rfl
theorem rx2 {x y z : Int32} : RX5_weigh (g + 1) 2 x y z M = fX5_weighIf (fun a0 a1 a2 M => RX5_weigh g 0 a0 a1 a2 M) (fun a0 a1 a2 M => RX5_weigh g 1 a0 a1 a2 M) x y z M := rfl
theorem rx3 {x y z : Int32} : RX5_weigh (g + 1) 3 x y z M = fX5_weighLet (fun a0 a1 a2 M => RX5_weigh g 0 a0 a1 a2 M) (fun a0 a1 a2 M => RX5_weigh g 1 a0 a1 a2 M) x y z M := rfl
theorem rx4 {x y z : Int32} : RX5_weigh (g + 1) 4 x y z M = fX5_weighCase (fun a0 a1 a2 M => RX5_weigh g 0 a0 a1 a2 M) (fun a0 a1 a2 M => RX5_weigh g 1 a0 a1 a2 M) x y z M := rfl
theorem rx5 {x y z : Int32} : RX5_weigh (g + 1) 5 x y z M = fX5_weighCall (fun a0 a1 a2 M => RX5_weigh g 1 a0 a1 a2 M) x y z M := rfl
/-- weighing with labels below k is as it should be -/
def wI (b h : Nat) (P : Nat → Nat → Nat) (F ND f : Nat) (R : Nat → Nat → Option (Nat → Nat)) (N : mv_M) (k : Nat) : Prop := ∀ M, wS b h P F ND f R N M → ∀ lv c d, P 15 f ≤ c → c ≤ P 12 f → P 8 c < k → 0 < d → d < dem (P 5 c) → lv + k ≤ 83 → ∀ g, 3 * k ≤ g → ∃ M', RX5_weigh g 0 (nI c) (nI d) (nI lv) M = some ((), M') ∧ wL lv M M' ∧ wK (P 10 f) (fun n => P 13 (16 * f + n)) lv (pE P R (fun n => P 13 (16 * f + n)) k c d) M'
def wTg (b h : Nat) (P : Nat → Nat → Nat) (F ND f : Nat) (R : Nat → Nat → Option (Nat → Nat)) (N : mv_M) (k : Nat) : Prop := ∀ M, wS b h P F ND f R N M → ∀ lv c d X, wK (P 10 f) (fun n => P 13 (16 * f + n)) lv X M → P 15 f ≤ c → c ≤ P 12 f → P 8 c < k → d < dem (P 5 c) → lv + 1 + k ≤ 83 → ∀ g, 3 * k + 1 ≤ g → ∃ M', RX5_weigh g 1 (nI c) (nI d) (nI lv) M = some ((), M') ∧ wL lv M M' ∧ wK (P 10 f) (fun n => P 13 (16 * f + n)) lv (if d = 0 then X else jn (fun n => P 13 (16 * f + n)) X (pE P R (fun n => P 13 (16 * f + n)) k c d)) M'
theorem w_tog (ih : wI b h P F ND f R N k) : wTg b h P F ND f R N k := by
  intro M hs lv c d X hK c1 c2 hl hd hlv g hg
  obtain ⟨g, rfl⟩ : ∃ g', g = g' + 1 := ⟨g - 1, by omega⟩
  have hn := (hs.1.2.2.2 f hs.2.2.1).2.2.1
  have hd' := dem_le (t := P 5 c)
  rw [rx1]
  by_cases h0 : d = 0
  · rw [if_pos h0, h0]
    refine ⟨M, ?_, wL_rf, hK⟩
    unfold fX5_weighTogether
    simp (disch := omega) only [k_iT, k_iF, Bool.false_eq_true, eq_self, Nat.add_zero, k_lt', k_bs, k_T, k_F, k_inb, k_ck, k_nz, ↓kN, kL, k_lt, k_le, k_eq, kn_le, kn_lt, kn_eq, kn_le', kn_lt', kn_eq', nI_clamp, nI_add, k_sub, k_mul, k_div, rd_hi, rd_mi, rd_hl, rd_ml, rd_hr, rd_mr, rd_si2, rd_sl1, rd_sl2, rd_sr1, rd_sr2]
  · rw [if_neg h0]
    obtain ⟨u, hu, hx⟩ := hK
    rcases hx with ⟨rfl, e⟩ | ⟨x, rfl, e, ex⟩
    · refine ⟨M, ?_, wL_rf, u, hu, .inl ⟨rfl, e⟩⟩
      unfold fX5_weighTogether
      simp (disch := omega) only [e, k_iT, k_iF, Bool.false_eq_true, eq_self, Nat.add_zero, k_lt', k_bs, k_T, k_F, k_inb, k_ck, k_nz, ↓kN, kL, k_lt, k_le, k_eq, kn_le, kn_lt, kn_eq, kn_le', kn_lt', kn_eq', nI_clamp, nI_add, k_sub, k_mul, k_div, rd_hi, rd_mi, rd_hl, rd_ml, rd_hr, rd_mr, rd_si2, rd_sl1, rd_sl2, rd_sr1, rd_sr2]
    · obtain ⟨M2, E2, L2, u2, hu2, hx2⟩ := ih M hs (lv + 1) c d c1 c2 hl (by omega) hd (by omega) g (by omega)
      have hs2 := wS_F hs L2.1
      have L2' : wL lv M M2 := wL_tr (lv' := lv + 1) wL_rf L2 (by omega)
      have hn5 : ∀ fl, (∀ m, m < P 10 f → u m < dem (P 13 (16 * f + m)) ∧ (mv_si M2 47 lv (nI fl)).1 46 (16 * lv + m) = nI (u m)) ∧ (∀ m, m < P 10 f → u2 m < dem (P 13 (16 * f + m)) ∧ (mv_si M2 47 lv (nI fl)).1 46 (16 * (lv + 1) + m) = nI (u2 m)) := by
        intro fl
        refine ⟨fun m hm => ⟨(hu m hm).1, ?_⟩, fun m hm => ⟨(hu2 m hm).1, ?_⟩⟩
        · simp (disch := omega) only [rd_hi, rd_mi, rd_hl, rd_ml, rd_hr, rd_mr, rd_si2, rd_sl1, rd_sl2, rd_sr1, rd_sr2]
          exact (L2.2.1 _ (by omega)).trans (hu m hm).2
        · simp (disch := omega) only [rd_hi, rd_mi, rd_hl, rd_ml, rd_hr, rd_mr, rd_si2, rd_sl1, rd_sl2, rd_sr1, rd_sr2]
          exact (hu2 m hm).2
      have fin : ∀ fl, fl ≤ 1 → M2.1 47 (lv + 1) = nI fl → vp_nar .boolean (nI fl) = nI fl → wL lv M (pB 46 (mv_si M2 47 lv (nI fl)) (16 * lv) (P 10 f) (fun m => tg (P 13 (16 * f + m)) (u m) (u2 m))) ∧ fX5_weighTogether (fun a0 a1 a2 M => RX5_weigh g 0 a0 a1 a2 M) (nI c) (nI d) (nI lv) M = some ((), pB 46 (mv_si M2 47 lv (nI fl)) (16 * lv) (P 10 f) (fun m => tg (P 13 (16 * f + m)) (u m) (u2 m))) := by
        intro fl hfl e47 evp
        have L5 := wL_tr L2' (wL_si47 (lv := lv) (M := M2) (v := nI fl) (p := lv) (Nat.le_refl _)) (Nat.le_refl _)
        refine ⟨wL_tr L5 (wL_pB (lv := lv) (Nat.le_refl _)) (Nat.le_refl _), ?_⟩
        have w5 := w_54 (r := fun a0 a1 a2 M => RX5_weigh g 0 a0 a1 a2 M) (wS_F hs L5.1) (by omega) (hn5 fl).1 (hn5 fl).2
        have e16 : lv * 16 = 16 * lv := by omega
        unfold fX5_weighTogether
        simp (disch := omega) only [e, E2, e47, evp, e16, w5, k_iT, k_iF, Bool.false_eq_true, eq_self, Nat.add_zero, k_lt', k_bs, k_T, k_F, k_inb, k_ck, k_nz, ↓kN, kL, k_lt, k_le, k_eq, kn_le, kn_lt, kn_eq, kn_le', kn_lt', kn_eq', nI_clamp, nI_add, k_sub, k_mul, k_div, rd_hi, rd_mi, rd_hl, rd_ml, rd_hr, rd_mr, rd_si2, rd_sl1, rd_sl2, rd_sr1, rd_sr2]
      have val : ∀ M5 : mv_M, ∀ n, n < P 10 f → tg (P 13 (16 * f + n)) (u n) (u2 n) < dem (P 13 (16 * f + n)) ∧ (pB 46 M5 (16 * lv) (P 10 f) (fun m => tg (P 13 (16 * f + m)) (u m) (u2 m))).1 46 (16 * lv + n) = nI (tg (P 13 (16 * f + n)) (u n) (u2 n)) := fun M5 n hn' => ⟨(tg_row (ty6 hs hn') (hu n hn').1 (hu2 n hn').1).1, pB_in hn'⟩
      rcases hx2 with ⟨ep, e47⟩ | ⟨x2, ep, e47, ex2⟩
      · obtain ⟨L, E⟩ := fin 1 (by omega) e47 vp1
        refine ⟨_, E, L, _, val _, .inl ⟨by rw [ep]; exact jn_none, ?_⟩⟩
        rw [pB_out (by omega)]
        simp (disch := omega) only [rd_hi, rd_mi, rd_hl, rd_ml, rd_hr, rd_mr, rd_si2, rd_sl1, rd_sl2, rd_sr1, rd_sr2]
      · obtain ⟨L, E⟩ := fin 0 (by omega) e47 vp0
        refine ⟨_, E, L, _, val _, .inr ⟨_, by rw [ep]; exact jn_some, ?_, fun n hn' => ?_⟩⟩
        · rw [pB_out (by omega)]
          simp (disch := omega) only [rd_hi, rd_mi, rd_hl, rd_ml, rd_hr, rd_mr, rd_si2, rd_sl1, rd_sl2, rd_sr1, rd_sr2]
        · show tg _ _ _ = tg _ _ _
          rw [ex n hn', ex2 n hn']
end WM
