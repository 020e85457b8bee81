/-! RUNS begin: parameters bound, inputs laid, on both sides -/
def tG (K : Nat → Nat) (it sc : Nat → Nat) (i : Nat) : Prop := ∀ x, x < i → it x ≤ 4 ∧ K x ≤ 2 ∧ (K x = 0 → it x = 0) ∧ (K x = 2 → 0 < it x ∧ x + 1 < i ∧ sc x < i ∧ it (x + 1) = (it x - 1) / 2 ∧ it (sc x) = (it x - 1) % 2)
/-- parameters below k bound, inputs below i laid -/
def pI (K : Nat → Nat) (V : Nat → Int32) (ty it sc sp : Nat → Nat) (i k : Nat) (M N : mv_M) : Prop := tG K it sc i ∧ lC K V sc 0 i M ∧ lR K V 0 i N ∧ lQ K sc 0 i N ∧ ∀ u, u < k → sp u < i ∧ it (sp u) = ty u ∧ M.1 50 (16 * 0 + u) = nI (1500 + sp u) ∧ N.1 103 (16 * 0 + u) = nI (sp u) ∧ N.1 104 u = nI (sp u)
def fS (M N M' N' : mv_M) : Prop := (M'.2 = M.2 ∧ ∀ a p, ¬ ((a = 50 ∧ p < 16) ∨ (57 ≤ a ∧ a ≤ 61 ∧ 1500 ≤ p)) → M'.1 a p = M.1 a p) ∧ N'.2 = N.2 ∧ ∀ a p, ¬ (a = 94 ∨ (97 ≤ a ∧ a ≤ 104)) → N'.1 a p = N.1 a p
section RL1
variable {b h F ND q n : Nat} {M N M' N' : mv_M} {K : Nat → Nat} {V : Nat → Int32} {P : Nat → Nat → Nat} {a a1 a2 : Int32}
theorem ft_none {ty : Nat → Nat} : ∀ m k, ft K n ty m k none = none := by
  intro m
  induction m with
  | zero => intro k; rfl
  | succ m ih => intro k; exact ih (k + 1)
theorem st_e (hb : b = 9 ∨ b = 24) (h76 : M.2.2 7 6 = some b) (hq : q < 12) (e2 : M.1 (b + 2) q = nI n) : fX2_start_25 (nI q) a (nI n) M = some ((), M) := by
  have gp : ∀ {γ : Type} (K : Nat → Option γ), mv_getp (some b) K = K b := fun K => gp_b hb
  unfold fX2_start_25
  refine lp_out (t := ()) ?_
  show gX2_start_25 (nI q) a (nI n) M = _
  unfold gX2_start_25
  rw [h76, gp, k_inb hq (by omega), k_ck, nI_clamp (by omega), e2, if_pos (Int32.le_refl _)]
theorem st_g {A k i j : Nat} {M2 : mv_M} (hb : b = 9 ∨ b = 24) (h76 : M.2.2 7 6 = some b) (hq : q < 12) (e2 : M.1 (b + 2) q = nI A) (hk : k < A) (hA : A ≤ 4) (hi : i < 2000) (hl : RX7_lay 12 0 (nI i) (mv_si M 50 (16 * 0 + k) (nI (1500 + i))) = some (nI j, M2)) : fX2_start_25 (nI q) (nI i) (nI k) M = fX2_start_25 (nI q) (nI j) (nI (k + 1)) M2 := by
  have gp : ∀ {γ : Type} (K : Nat → Option γ), mv_getp (some b) K = K b := fun K => gp_b hb
  have cb : ∀ v, fX2_bind (nI 0) (nI k) v M = some ((), mv_si M 50 (16 * 0 + k) v) := fun v => c_bind (by omega) (by omega)
  have hl' : tX7_lay (nI i) (mv_si M 50 (16 * 0 + k) (nI (1500 + i))) = some (nI j, M2) := hl
  unfold fX2_start_25
  refine lp_go ?_
  show gX2_start_25 (nI q) (nI i) (nI k) M = _
  unfold gX2_start_25
  rw [h76, gp, k_inb hq (by omega), k_ck, nI_clamp (by omega), e2, if_neg (by rw [k_le (by omega) (by omega)]; omega), show (0 : Int32) = nI 0 from rfl, show (1500 : Int32) + nI i = nI (1500 + i) from nI_add 1500 i, cb, k_bs, hl', k_bs, k_lt', show nI k + (1 : Int32) = nI (k + 1) from nI_add k 1]
theorem rn_g {A k i j ty : Nat} {N2 : mv_M} (hh : h ≤ 1) (hq : q < 12) (e66 : N.1 66 (12 * h + q) = nI A) (hk : k < A) (hA : A ≤ 4) (e70 : N.1 70 (16 * (12 * h + q) + k) = nI ty) (hl : fX11_lay (nI i) (nI ty) (mv_si (mv_si N 104 k (nI i)) 103 (16 * 0 + k) (nI i)) = some (nI j, N2)) : fX11_run_144 a a1 a2 (nI (12 * h + q)) (nI i) (nI k) N = fX11_run_144 a a1 a2 (nI (12 * h + q)) (nI j) (nI (k + 1)) N2 := by
  rw [show 16 * 0 + k = k by omega] at hl
  unfold fX11_run_144
  refine lp_go ?_
  show gX11_run_144 a a1 a2 (nI (12 * h + q)) (nI i) (nI k) N = _
  unfold gX11_run_144
  rw [k_inb (by omega) (by omega), k_ck, nI_clamp (by omega), e66, if_neg (by rw [k_le (by omega) (by omega)]; omega), k_inb (by omega) (by omega), k_ck, k_lt', k_inb (by omega) (by omega), k_ck, k_lt', nI_clamp (by omega), show (16 : Int32) * nI (12 * h + q) + nI k = nI (16 * (12 * h + q) + k) by rw [show (16 : Int32) = nI 16 from rfl, k_mul, nI_add], k_inb (by omega) (by omega), k_ck, nI_clamp (by omega), show (mv_si (mv_si N 104 k (nI i)) 103 k (nI i)).1 70 (16 * (12 * h + q) + k) = nI ty by simp (disch := omega) only [rd_hi, rd_mi, rd_hl, rd_ml, rd_hr, rd_mr, rd_si2, rd_sl1, rd_sl2, rd_sr1, rd_sr2]; exact e70, hl, k_bs, k_lt', show nI k + (1 : Int32) = nI (k + 1) from nI_add k 1]
theorem j_start (hW : WFp P F ND) (hq : q < F) (hn : n ≤ 40) (hK : ∀ x, x < n → K x ≤ 2) : ∀ m k i it sc sp M N, k + m = P 9 q → i ≤ n → ft K n (fun k => P 13 (16 * q + k)) m k (some i) = some n → PR b h P F ND M N → M.2.2 7 6 = some b → M.1 6 0 = nI n → N.1 62 55 = nI n → (∀ x, x < n → M.1 48 x = nI (K x) ∧ M.1 49 x = V x) → (∀ x, x < n → N.1 92 x = nI (K x) ∧ N.1 93 x = V x) → pI K V (fun k => P 13 (16 * q + k)) it sc sp i k M N → ∃ M' N' it' sc' sp', fX2_start_25 (nI q) (nI i) (nI k) M = some ((), M') ∧ fX11_run_144 a a1 a2 (nI (12 * h + q)) (nI i) (nI k) N = fX11_run_144 a a1 a2 (nI (12 * h + q)) (nI n) (nI (P 9 q)) N' ∧ fS M N M' N' ∧ pI K V (fun k => P 13 (16 * q + k)) it' sc' sp' n (P 9 q) M' N' := by
  have hF := hW.2.1
  have wq := hW.2.2.2 q hq
  have hp4 := wq.1
  have hp10 := wq.2.1
  have hp16 := wq.2.2.1
  intro m
  induction m with
  | zero =>
    intro k i it sc sp M N hk hi hft hp h76 e6 e55 hM hN hI
    obtain rfl : i = n := by injection hft
    obtain rfl : k = P 9 q := by omega
    exact ⟨M, N, it, sc, sp, st_e hp.1 h76 (by omega) (hp.2.2.2.2.2 q hq).1.1, rfl, ⟨⟨rfl, fun _ _ _ => rfl⟩, rfl, fun _ _ _ => rfl⟩, hI⟩
  | succ m ih =>
    intro k i it sc sp M N hk hi hft hp h76 e6 e55 hM hN hI
    have t4 := wq.2.2.2.2.2.2.2.1 k (by omega)
    have e70 := ((hp.2.2.2.2.2 q hq).2.2.1 k (by omega) t4).2
    have e66 := (hp.2.2.2.2.2 q hq).2.1.1
    have e2 := (hp.2.2.2.2.2 q hq).1.1
    have hh := hp.2.1
    have hft' : ft K n (fun k => P 13 (16 * q + k)) m (k + 1) (bh K n 3 (P 13 (16 * q + k)) i) = some n := hft
    cases hb : bh K n 3 (P 13 (16 * q + k)) i with
    | none => rw [hb, ft_none] at hft'; cases hft'
    | some j =>
      rw [hb] at hft'
      obtain ⟨⟨l1, l2⟩, it2, sc2, i2, t2, m2⟩ := c_lay (V := V) hn 3 (P 13 (16 * q + k)) i j t4 (by omega) (by omega) (by omega) hb
      obtain ⟨M2, u1, ⟨u2, u3⟩, u4⟩ := m2 (mv_si M 50 (16 * 0 + k) (nI (1500 + i))) 12 0 (by omega) (by simp (disch := omega) only [rd_hi, rd_mi, rd_hl, rd_ml, rd_hr, rd_mr, rd_si2, rd_sl1, rd_sl2, rd_sr1, rd_sr2]; exact e6) (fun x hx => ⟨by simp (disch := omega) only [rd_hi, rd_mi, rd_hl, rd_ml, rd_hr, rd_mr, rd_si2, rd_sl1, rd_sl2, rd_sr1, rd_sr2]; exact (hM x hx).1, by simp (disch := omega) only [rd_hi, rd_mi, rd_hl, rd_ml, rd_hr, rd_mr, rd_si2, rd_sl1, rd_sl2, rd_sr1, rd_sr2]; exact (hM x hx).2⟩)
      obtain ⟨N2, v1, ⟨v2, v3⟩, v4, v5⟩ := r_layI (V := V) (N := mv_si (mv_si N 104 k (nI i)) 103 (16 * 0 + k) (nI i)) hn t4 hb l1 l2 i2 t2 (by simp (disch := omega) only [rd_hi, rd_mi, rd_hl, rd_ml, rd_hr, rd_mr, rd_si2, rd_sl1, rd_sl2, rd_sr1, rd_sr2]; exact e55) (fun x hx => ⟨by simp (disch := omega) only [rd_hi, rd_mi, rd_hl, rd_ml, rd_hr, rd_mr, rd_si2, rd_sl1, rd_sl2, rd_sr1, rd_sr2]; exact (hN x hx).1, by simp (disch := omega) only [rd_hi, rd_mi, rd_hl, rd_ml, rd_hr, rd_mr, rd_si2, rd_sl1, rd_sl2, rd_sr1, rd_sr2]; exact (hN x hx).2⟩) hK
      have ec := st_g hp.1 h76 (show q < 12 by omega) e2 (show k < P 9 q by omega) hp4 (by omega) u1
      have er := rn_g (a := a) (a1 := a1) (a2 := a2) hh (show q < 12 by omega) e66 (show k < P 9 q by omega) hp4 e70 v1
      obtain ⟨g1, g2, g3, g4, g5⟩ := hI
      have fM : ∀ a p, ¬ ((a = 50 ∧ p < 16) ∨ (57 ≤ a ∧ a ≤ 61 ∧ 1500 ≤ p)) → M2.1 a p = M.1 a p := fun a p z => by rw [u3 a p (by omega), rd_mi (by omega)]
      have fN : ∀ a p, ¬ (a = 94 ∨ (97 ≤ a ∧ a ≤ 104)) → N2.1 a p = N.1 a p := fun a p z => by rw [v3 a p (by omega), rd_mi (by omega), rd_mi (by omega)]
      have hp2 : PR b h P F ND M2 N2 := PR_F hp (fun c k z1 z2 => fM c k (by have := hp.1; omega)) (fun c k z1 z2 => fN c k (by omega))
      have hI2 : pI K V (fun k => P 13 (16 * q + k)) (fun x => if x < i then it x else it2 x) (fun x => if x < i then sc x else sc2 x) (fun u => if u < k then sp u else i) j (k + 1) M2 N2 := by
        refine ⟨fun x hx => ?_, fun x _ hx => ?_, fun x _ hx => ?_, fun x _ hx hk2 => ?_, fun u hu => ?_⟩
        · by_cases e : x < i
          · obtain ⟨c1, c2, c3, c4⟩ := g1 x e
            simp only [e, if_true]
            refine ⟨c1, c2, c3, fun z => ?_⟩
            obtain ⟨d1, d2, d3, d4, d5⟩ := c4 z
            refine ⟨d1, by omega, by omega, ?_, ?_⟩
            · rw [if_pos d2]; exact d4
            · rw [if_pos d3]; exact d5
          · obtain ⟨c1, c2, c3, c4, c5⟩ := t2 x (by omega) hx
            simp only [e, if_false]
            refine ⟨c1, c2, c4, fun z => ?_⟩
            obtain ⟨d1, d2, d3, d4, d5, d6, d7⟩ := c5 z
            refine ⟨d1, d2, d3, ?_, ?_⟩
            · rw [if_neg (by omega)]; exact d5
            · rw [if_neg (by omega)]; exact d6
        · by_cases e : x < i
          · obtain ⟨c1, c2, c3, c4⟩ := g2 x (by omega) e
            simp only [e, if_true]
            refine ⟨?_, ?_, ?_, fun z => ⟨?_, ?_⟩⟩
            · rw [u3 _ _ (by omega), rd_mi (by omega)]; exact c1
            · rw [u3 _ _ (by omega), rd_mi (by omega)]; exact c2
            · rw [u3 _ _ (by omega), rd_mi (by omega)]; exact c3
            · rw [u3 _ _ (by omega), rd_mi (by omega)]; exact (c4 z).1
            · rw [u3 _ _ (by omega), rd_mi (by omega)]; exact (c4 z).2
          · simp only [e, if_false]
            exact u4 x (by omega) hx
        · by_cases e : x < i
          · obtain ⟨c1, c2, c3, c4⟩ := g3 x (by omega) e
            refine ⟨?_, ?_, ?_, ?_⟩
            · rw [v3 _ _ (by omega), rd_mi (by omega), rd_mi (by omega)]; exact c1
            · rw [v3 _ _ (by omega), rd_mi (by omega), rd_mi (by omega)]; exact c2
            · rw [v3 _ _ (by omega), rd_mi (by omega), rd_mi (by omega)]; exact c3
            · rw [v3 _ _ (by omega), rd_mi (by omega), rd_mi (by omega)]; exact c4
          · exact v4 x (by omega) hx
        · by_cases e : x < i
          · obtain ⟨c1, c2⟩ := g4 x (by omega) e hk2
            simp only [e, if_true]
            refine ⟨?_, ?_⟩
            · rw [v3 _ _ (by omega), rd_mi (by omega), rd_mi (by omega)]; exact c1
            · rw [v3 _ _ (by omega), rd_mi (by omega), rd_mi (by omega)]; exact c2
          · simp only [e, if_false]
            exact v5 x (by omega) hx hk2
        · by_cases e : u < k
          · obtain ⟨c1, c2, c3, c4, c5⟩ := g5 u e
            simp only [e, if_true]
            refine ⟨by omega, ?_, ?_, ?_, ?_⟩
            · rw [if_pos c1]; exact c2
            · rw [u3 _ _ (by omega), rd_mi (by omega)]; exact c3
            · rw [v3 _ _ (by omega), rd_mi (by omega), rd_mi (by omega)]; exact c4
            · rw [v3 _ _ (by omega), rd_mi (by omega), rd_mi (by omega)]; exact c5
          · obtain rfl : u = k := by omega
            simp only [e, if_false]
            refine ⟨l1, ?_, ?_, ?_, ?_⟩
            · rw [if_neg (by omega)]; exact i2
            · rw [u3 _ _ (by omega)]; simp (disch := omega) only [rd_hi, rd_mi, rd_hl, rd_ml, rd_hr, rd_mr, rd_si2, rd_sl1, rd_sl2, rd_sr1, rd_sr2]
            · rw [v3 _ _ (by omega)]; simp (disch := omega) only [rd_hi, rd_mi, rd_hl, rd_ml, rd_hr, rd_mr, rd_si2, rd_sl1, rd_sl2, rd_sr1, rd_sr2]
            · rw [v3 _ _ (by omega)]; simp (disch := omega) only [rd_hi, rd_mi, rd_hl, rd_ml, rd_hr, rd_mr, rd_si2, rd_sl1, rd_sl2, rd_sr1, rd_sr2]
      obtain ⟨M', N', it', sc', sp', o1, o2, ⟨⟨o3, o4⟩, o5, o6⟩, o7⟩ := ih (k + 1) j _ _ _ M2 N2 (by omega) l2 hft' hp2 (by rw [u2]; exact h76) ((fM _ _ (by omega)).trans e6) ((fN _ _ (by omega)).trans e55) (fun x hx => ⟨(fM _ _ (by omega)).trans (hM x hx).1, (fM _ _ (by omega)).trans (hM x hx).2⟩) (fun x hx => ⟨(fN _ _ (by omega)).trans (hN x hx).1, (fN _ _ (by omega)).trans (hN x hx).2⟩) hI2
      exact ⟨M', N', it', sc', sp', ec.trans o1, er.trans o2, ⟨⟨o3.trans u2, fun a p z => (o4 a p z).trans (fM a p z)⟩, o5.trans v2, fun a p z => (o6 a p z).trans (fN a p z)⟩, o7⟩
end RL1
