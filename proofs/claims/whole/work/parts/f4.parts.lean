/-! RUNS: parts demanded -/
def dP (N : mv_M) (t s q : Nat) (y : Int32) : mv_M := if q = 0 then N else pT (pT N t (nI 9) (nI s) (nI q)) (t + 1) (nI 8) y (nI 0)
/-- one part is needed, on both sides -/
def NPo (b h : Nat) (P : Nat → Nat → Nat) (F ND : Nat) (it : Nat → Nat) (n m pr cl : Nat) (ff : Nat → Nat) (mx t : Nat) (M N : mv_M) (C G : Option (Unit × mv_M)) : Prop :=
  (∃ M' N', C = some ((), M') ∧ G = some ((), N') ∧ Fn P n ff M N M' N') ∨
  (∃ M' N' m' pr' cl' ff' st' dd', C = some ((), M') ∧ G = fX11_goes_0 N' ∧ SS b h P F ND it n m' pr' cl' ff' st' mx 0 dd' t 0 M' N' ∧ Ex P it n (fun _ _ => True) m pr cl ff M N m' pr' cl' ff' M' N' ∧ gF M N M' N' ∧ kT t 0 N N')
section RI1
variable {b h F ND n m pr cl m' pr' cl' k t t' fr x st st' mx dp dd dd' kp d e i ty y f c s nm p q r fu : Nat} {P : Nat → Nat → Nat} {it ff ff' ff2 : Nat → Nat} {M N M' N' M0 N0 M1 N1 M2 N2 M3 N3 : mv_M} {v op a w : Int32} {C G : Option (Unit × mv_M)}
theorem d61 (hn : c = 2 ∨ c = 5) (hd : 0 < d) (hd2 : d < 30) (hp : p < 1540) (h1 : 1 ≤ ty) (h4 : ty ≤ 4) (h36 : N.1 62 36 = nI t) (ht : t < 2900) : fX11_demand_61 (nI ty) (nI d) (nI p) (nI c) N = some ((), dP N t ((ty - 1) / 2) ((d - 1) / c) (N.1 101 p)) := by
  have q1 : ∀ a w, fX11_task (nI 9) a w N = some ((), pT N t (nI 9) a w) := fun a w => r_task h36 (by omega)
  have f1 : fX11_firstOf (nI ty) N = some (nI ((ty - 1) / 2), N) := by
    unfold fX11_firstOf
    by_cases u : ty < 3
    · rw [if_pos (by rw [kM, k_lt (by omega) (by omega)]; exact u), show (ty - 1) / 2 = 0 by omega]; rfl
    · rw [if_neg (by rw [kM, k_lt (by omega) (by omega)]; exact u), show (ty - 1) / 2 = 1 by omega]; rfl
  unfold fX11_demand_61 dP
  rcases hn with rfl | rfl
  · by_cases u : (d - 1) / 2 = 0
    · rw [if_pos u]
      simp (disch := omega) only [↓reduceIte, u, k_iT, k_iF, Bool.false_eq_true, eq_self, Nat.add_zero, k_lt', k_bs, k_T, k_F, k_inb, k_ck, k_nz, ↓kN, kL, k_lt, k_le, k_eq, kn_le, kn_lt, kn_eq, kn_le', kn_lt', kn_eq', nI_clamp, nI_add, k_sub, k_mul, k_div, rd_hi, rd_mi, rd_hl, rd_ml, rd_hr, rd_mr, rd_si2, rd_sl1, rd_sl2, rd_sr1, rd_sr2]
    · rw [if_neg u]
      simp (disch := omega) only [↓reduceIte, f1, q1, k_iT, k_iF, Bool.false_eq_true, eq_self, Nat.add_zero, k_lt', k_bs, k_T, k_F, k_inb, k_ck, k_nz, ↓kN, kL, k_lt, k_le, k_eq, kn_le, kn_lt, kn_eq, kn_le', kn_lt', kn_eq', nI_clamp, nI_add, k_sub, k_mul, k_div, rd_hi, rd_mi, rd_hl, rd_ml, rd_hr, rd_mr, rd_si2, rd_sl1, rd_sl2, rd_sr1, rd_sr2]
      rw [r_task (t := t + 1) pT_36 (by omega), k_bs, pT_s (by omega)]
  · by_cases u : (d - 1) / 5 = 0
    · rw [if_pos u]
      simp (disch := omega) only [↓reduceIte, u, k_iT, k_iF, Bool.false_eq_true, eq_self, Nat.add_zero, k_lt', k_bs, k_T, k_F, k_inb, k_ck, k_nz, ↓kN, kL, k_lt, k_le, k_eq, kn_le, kn_lt, kn_eq, kn_le', kn_lt', kn_eq', nI_clamp, nI_add, k_sub, k_mul, k_div, rd_hi, rd_mi, rd_hl, rd_ml, rd_hr, rd_mr, rd_si2, rd_sl1, rd_sl2, rd_sr1, rd_sr2]
    · rw [if_neg u]
      simp (disch := omega) only [↓reduceIte, f1, q1, k_iT, k_iF, Bool.false_eq_true, eq_self, Nat.add_zero, k_lt', k_bs, k_T, k_F, k_inb, k_ck, k_nz, ↓kN, kL, k_lt, k_le, k_eq, kn_le, kn_lt, kn_eq, kn_le', kn_lt', kn_eq', nI_clamp, nI_add, k_sub, k_mul, k_div, rd_hi, rd_mi, rd_hl, rd_ml, rd_hr, rd_mr, rd_si2, rd_sl1, rd_sl2, rd_sr1, rd_sr2]
      rw [r_task (t := t + 1) pT_36 (by omega), k_bs, pT_s (by omega)]
theorem dP_36 (h36 : N.1 62 36 = nI t) : (dP N t s q w).1 62 36 = nI (if q = 0 then t else t + 2) := by
  unfold dP
  by_cases u : q = 0
  · rw [if_pos u, if_pos u]; exact h36
  · rw [if_neg u, if_neg u]; exact pT_36
theorem dP_s {c' p' : Nat} (hc : ¬ ((c' = 62 ∧ p' = 36) ∨ ((c' = 81 ∨ c' = 82 ∨ c' = 85) ∧ t ≤ p'))) : (dP N t s q w).1 c' p' = N.1 c' p' := by
  unfold dP
  by_cases u : q = 0
  · rw [if_pos u]
  · rw [if_neg u, pT_s (by omega), pT_s (by omega)]
theorem dP_2 : (dP N t s q w).2 = N.2 := by
  unfold dP
  by_cases u : q = 0
  · rw [if_pos u]
  · rw [if_neg u]; rfl
theorem dem_as (h1 : 1 ≤ ty) (h4 : ty ≤ 4) : d2 ty = dem ((ty - 1) % 2) ∧ (d2 ty = 2 ∨ d2 ty = 5) := by
  rcases (show ty = 1 ∨ ty = 2 ∨ ty = 3 ∨ ty = 4 by omega) with rfl | rfl | rfl | rfl <;> decide
theorem r_demand (hd : 0 < d) (hd2 : d < 30) (hp : p < 1540) (h1 : 1 ≤ ty) (h4 : ty ≤ 4) (h78 : N.1 62 78 = nI p) (h36 : N.1 62 36 = nI t) (ht : t < 2800) : fX11_demand (nI ty) (nI d) N = some ((), dP (dP N t ((ty - 1) % 2) (as ty d) (N.1 102 p)) (if as ty d = 0 then t else t + 2) ((ty - 1) / 2) (af ty d) (N.1 101 p)) := by
  obtain ⟨c1, c2⟩ := dem_as h1 h4
  have f2 : fX11_secondOf (nI ty) N = some (nI ((ty - 1) % 2), N) := by
    rcases (show ty = 1 ∨ ty = 2 ∨ ty = 3 ∨ ty = 4 by omega) with rfl | rfl | rfl | rfl <;> rfl
  have f3 : fX11_demands (nI ((ty - 1) % 2)) N = some (nI (d2 ty), N) := by rw [c1]; exact (cl_row (by omega) (show 0 < dem ((ty - 1) % 2) from dem_pos)).2.1
  have q1 : ∀ a w, fX11_task 9 a w N = some ((), pT N t 9 a w) := fun a w => r_task h36 (by omega)
  have e78 : ∀ X : mv_M, True := fun _ => trivial
  have key : (nI d - 1) - (nI d - 1) / nI (d2 ty) * nI (d2 ty) = nI (as ty d) := by
    unfold as
    rcases c2 with c2 | c2
    · rw [c2, show (1 : Int32) = nI 1 from rfl, k_sub (by omega), k_div (by omega) (by omega) (by omega), k_mul, k_sub (by omega)]
      congr 1
      omega
    · rw [c2, show (1 : Int32) = nI 1 from rfl, k_sub (by omega), k_div (by omega) (by omega) (by omega), k_mul, k_sub (by omega)]
      congr 1
      omega
  have has : as ty d < 30 := by unfold as; rcases c2 with c2 | c2 <;> rw [c2] <;> omega
  have hnz : mv_nz (nI (d2 ty)) = true := by rcases c2 with c2 | c2 <;> rw [c2] <;> rfl
  unfold fX11_demand
  rw [if_neg (by rw [kM, k_eq (by omega) (by omega)]; omega), if_neg (by rw [kM, k_eq (by omega) (by omega)]; omega), k_lt', f2, k_bs, f3, k_bs, hnz, k_ck, key, h78]
  by_cases u : as ty d = 0
  · rw [if_pos (by rw [u]; decide), d61 c2 hd hd2 hp h1 h4 h36 (by omega), u, if_pos rfl]
    unfold af
    rw [show dP N t ((ty - 1) % 2) 0 (N.1 102 p) = N from if_pos rfl]
  · rw [if_neg (by rw [kM, k_le (by omega) (by omega)]; omega), f2, k_bs, k_ck, q1, k_bs, k_inb hp (by omega), k_ck, r_task (t := t + 1) pT_36 (by omega), k_bs, nI_clamp (by omega), pT_s (by omega), if_neg u]
    have e : pT (pT N t 9 (nI ((ty - 1) % 2)) (nI (as ty d))) (t + 1) 8 (N.1 102 p) 0 = dP N t ((ty - 1) % 2) (as ty d) (N.1 102 p) := (if_neg u).symm
    rw [e, d61 (t := t + 2) c2 hd hd2 hp h1 h4 (by rw [dP_36 h36, if_neg u]) (by omega), dP_s (by omega)]
    rfl
theorem np_f (h2 : M.1 7 2 = nI e) (he : 0 < e ∧ e < 100) : ∀ fu, RX2_needParts (fu + 1) 0 v a w M = some ((), M) ∧ RX2_needParts (fu + 1) 1 v a w M = some ((), M) := by
  intro fu
  have z : ¬ M.1 7 2 = 0 := by rw [h2, kM, k_eq (by omega) (by omega)]; omega
  constructor
  · rw [RX2_needParts, if_pos rfl]
    unfold fX2_needParts
    by_cases u : a ≤ 0
    · rw [if_pos u]
    · rw [if_neg u, if_neg z]
  · rw [RX2_needParts, if_neg (by decide)]
    unfold fX2_needPart
    by_cases u : w = 0
    · rw [if_pos u]
    · rw [if_neg u, if_neg z]
theorem np_0 (fu : Nat) : RX2_needParts (fu + 1) 0 v (nI 0) w M = some ((), M) := by
  rw [RX2_needParts, if_pos rfl]
  unfold fX2_needParts
  rw [if_pos (by decide)]
theorem np_p (hk : k < 1540) (hq : 0 < q) (hq2 : q < 100) (h2 : M.1 7 2 = nI 0) : RX2_needParts (fu + 1) 1 (nI k) a (nI q) M = mv_bind (cN k M) fun _ M6 => RX2_needParts fu 0 (M6.1 7 9) a (nI q) M6 := by
  rw [RX2_needParts, if_neg (by decide)]
  unfold fX2_needPart fX2_needPart_47 cN
  rw [if_neg (by rw [kM, k_eq (by omega) (by omega)]; omega), if_pos (by rw [h2]; rfl), nI_clamp (by omega)]
  cases fX2_isToBeWorked (nI k) M with
  | none => rfl
  | some r =>
    obtain ⟨r1, M2⟩ := r
    rw [k_bs, k_bs]
    by_cases u : r1 = 0
    · rw [if_pos u, if_pos u, k_bs]
      exact bind_id
    · rw [if_neg u, if_neg u]
      cases mv_inb (nI k) 1500 with
      | false => rfl
      | true =>
        rw [k_ck, k_ck, k_ck, k_ck]
        cases fX2_workOut (M2.1 55 k) (M2.1 56 k) M2 with
        | none => rfl
        | some s =>
          obtain ⟨_, M5⟩ := s
          rw [k_bs, k_bs]
          cases fX2_settle (nI k) M5 with
          | none => rfl
          | some s =>
            obtain ⟨_, M6⟩ := s
            rw [k_bs, k_bs]
            exact bind_id
/-- what the induction gives -/
def NPh (b h : Nat) (P : Nat → Nat → Nat) (F ND : Nat) (it : Nat → Nat) (n mx r : Nat) : Prop := ∀ ty d fu t st dd m pr cl ff M N, ty ≤ 4 → ((r = 0 → ty = 0) ∧ (r = 1 → ty ≤ 1)) → 2 * r + 1 ≤ fu → (ty = 0 ∨ (0 < d ∧ d < dem ty)) → SS b h P F ND it n m pr cl ff st mx 0 dd t 0 M N → vV P it n m pr M N (M.1 7 9) ty → M.1 7 9 = N.1 62 78 → t + 4 * r ≤ 36 → ∃ Nd, fX11_demand (nI ty) (nI d) N = some ((), Nd) ∧ NPo b h P F ND it n m pr cl ff mx t M N (RX2_needParts fu 0 (M.1 7 9) (nI ty) (nI d) M) (fX11_goes_0 Nd)
theorem NPo_tr {Z : Nat → Nat → Prop} (hE : Ex P it n Z m pr cl ff M N m' pr' cl' ff' M1 N1) (hg : gF M N M1 N1) (hk : kT t 0 N N1) (hR : NPo b h P F ND it n m' pr' cl' ff' mx t M1 N1 C G) : NPo b h P F ND it n m pr cl ff mx t M N C G := by
  rcases hR with ⟨M', N', r1, r2, r3⟩ | ⟨M', N', m2, pr2, cl2, ff2, st2, dd2, r1, r2, r3, r4, r5, r6⟩
  · exact .inl ⟨M', N', r1, r2, Fn_tr hE hg r3⟩
  · exact .inr ⟨M', N', m2, pr2, cl2, ff2, st2, dd2, r1, r2, r3, Ex_tr (Ex_Z hE (fun _ _ _ _ => trivial)) r4 (fun _ _ _ z => z), gF_tr hg r5, kT_tr hk r6 (Nat.le_refl _) (Nat.le_refl _)⟩
theorem np_part (ih : NPh b h P F ND it n mx r) (hS : SS b h P F ND it n m pr cl ff st mx 0 dd (if q = 0 then t else t + 2) 0 M N) (oK : oT P it n m M k ty) (hty : ty ≤ 4) (hl : (r = 0 → ty = 0) ∧ (r = 1 → ty ≤ 1)) (hq : q < dem ty) (hfu : 2 * r + 2 ≤ fu) (ht : t + 4 * r ≤ 36) (h9 : q ≠ 0 → tk3 N t (nI 9) (nI ty) (nI q) ∧ tk3 N (t + 1) (nI 8) (nI (fi k)) (nI 0)) : NPo b h P F ND it n m pr cl ff mx t M N (RX2_needParts fu 1 (nI k) (nI ty) (nI q) M) (fX11_goes_0 N) := by
  obtain ⟨fu, rfl⟩ : ∃ g, fu = g + 1 := ⟨fu - 1, by omega⟩
  have hdm : dem ty ≤ 26 := by
    rcases (show ty = 0 ∨ ty = 1 ∨ ty = 2 ∨ ty = 3 ∨ ty = 4 by omega) with rfl | rfl | rfl | rfl | rfl <;> decide
  have hkb := oT_b hS.2.1.1.1 hS.2.1.1.2.2.2 oK
  by_cases hq0 : q = 0
  · subst hq0
    refine .inr ⟨M, N, m, pr, cl, ff, st, dd, ?_, rfl, hS, Ex_rf, gF_rf, kT_rf⟩
    rw [RX2_needParts, if_neg (by decide)]
    unfold fX2_needPart
    rw [if_pos (by decide)]
  obtain ⟨k9, k8⟩ := h9 hq0
  rw [if_neg hq0] at hS
  have e72 := hS.2.2.2.2.2.2.2.2.1.1
  rw [np_p hkb (by omega) (by omega) e72]
  rcases nd_thing (t := t + 1) hS k8 oK (by omega) with ⟨M', N', r1, r2, r3⟩ | ⟨M', N', m', pr', cl', ff', st', dd', r1, r2, r3, r4, r5, r6, r7, r8, r9⟩
  · obtain ⟨e, m', ⟨f1, f2, f3, f4⟩, _⟩ := r3.1
    obtain ⟨gu, rfl⟩ : ∃ g, fu = g + 1 := ⟨fu - 1, by omega⟩
    refine .inl ⟨M', N', ?_, r2, r3⟩
    rw [r1, k_bs]
    exact (np_f f1 (by omega) gu).1
  · rw [r1, k_bs, r2]
    obtain ⟨⟨i1, i2, i3, i4, i5, i6⟩, ⟨i7, i8⟩, ⟨i9, iA⟩, ⟨iB, iC⟩, ⟨iD, iE⟩, ⟨iF, iG⟩, iH, iI⟩ := r3.2.2.2
    have gk := r_pop9 iH (by omega) iG (tk3_s k9 r6 (by omega))
    obtain ⟨S7, E7, g7⟩ := SS_k (M' := M') (N' := mv_si N' 62 36 (nI t)) (st' := st') (dd' := dd') (t' := t) (kp' := 0) r3 rfl (fun a p u => rfl) rfl (fun a p u => by unfold kR' at u; simp (disch := omega) only [rd_hi, rd_mi, rd_hl, rd_ml, rd_hr, rd_mr, rd_si2, rd_sl1, rd_sl2, rd_sr1, rd_sr2]) ⟨⟨i1, i2, i3, i4, by omega, by omega⟩, ⟨i7, by simp (disch := omega) only [rd_hi, rd_mi, rd_hl, rd_ml, rd_hr, rd_mr, rd_si2, rd_sl1, rd_sl2, rd_sr1, rd_sr2]; exact i8⟩, ⟨iB, by simp (disch := omega) only [rd_hi, rd_mi, rd_hl, rd_ml, rd_hr, rd_mr, rd_si2, rd_sl1, rd_sl2, rd_sr1, rd_sr2]; exact iC⟩, ⟨iD, by simp (disch := omega) only [rd_hi, rd_mi, rd_hl, rd_ml, rd_hr, rd_mr, rd_si2, rd_sl1, rd_sl2, rd_sr1, rd_sr2]; exact iE⟩, ⟨iF, by simp (disch := omega) only [rd_hi, rd_mi, rd_hl, rd_ml, rd_hr, rd_mr, rd_si2, rd_sl1, rd_sl2, rd_sr1, rd_sr2]; exact iG⟩, by simp (disch := omega) only [rd_hi, rd_mi, rd_hl, rd_ml, rd_hr, rd_mr, rd_si2, rd_sl1, rd_sl2, rd_sr1, rd_sr2], by simp (disch := omega) only [rd_hi, rd_mi, rd_hl, rd_ml, rd_hr, rd_mr, rd_si2, rd_sl1, rd_sl2, rd_sr1, rd_sr2]; exact iI⟩
    obtain ⟨Nd, n1, n2⟩ := ih ty q fu t st' dd' m' pr' cl' ff' M' _ hty hl (by omega) (.inr ⟨by omega, hq⟩) S7 (Ex_v (E7 (fun _ _ => False)) r9) (by simp (disch := omega) only [rd_hi, rd_mi, rd_hl, rd_ml, rd_hr, rd_mr, rd_si2, rd_sl1, rd_sl2, rd_sr1, rd_sr2]; exact r7) ht
    rw [n1, k_bs] at gk
    rw [G_go gk]
    exact NPo_tr (Ex_tr r4 (E7 _) (fun _ _ _ z => z)) (gF_tr r5 g7) ⟨fun a i z hi => by simp (disch := omega) only [rd_hi, rd_mi, rd_hl, rd_ml, rd_hr, rd_mr, rd_si2, rd_sl1, rd_sl2, rd_sr1, rd_sr2]; exact r6.1 a i z (by omega), fun i hi => by omega⟩ n2
theorem np_all : ∀ r, NPh b h P F ND it n mx r := by
  intro r
  induction r with
  | zero =>
    intro ty d fu t st dd m pr cl ff M N hty hl hfu hd hS hv h79 ht
    obtain rfl : ty = 0 := hl.1 rfl
    obtain ⟨fu, rfl⟩ : ∃ g, fu = g + 1 := ⟨fu - 1, by omega⟩
    exact ⟨N, rfl, .inr ⟨M, N, m, pr, cl, ff, st, dd, np_0 fu, rfl, hS, Ex_rf, gF_rf, kT_rf⟩⟩
  | succ r ih =>
    intro ty d fu t st dd m pr cl ff M N hty hl hfu hd hS hv h79 ht
    obtain ⟨fu, rfl⟩ : ∃ g, fu = g + 1 := ⟨fu - 1, by omega⟩
    by_cases h0 : ty = 0
    · subst h0
      exact ⟨N, rfl, .inr ⟨M, N, m, pr, cl, ff, st, dd, np_0 fu, rfl, hS, Ex_rf, gF_rf, kT_rf⟩⟩
    obtain ⟨p, k1, k2, v1, v2, v3, v4, v5, v6, v7, v8⟩ : ∃ p k1 k2, M.1 7 9 = nI p ∧ (p < pr ∨ (1500 ≤ p ∧ p < 1540)) ∧ M.1 60 p = nI k1 ∧ M.1 61 p = nI k2 ∧ N.1 101 p = nI (fi k1) ∧ N.1 102 p = nI (fi k2) ∧ oT P it n m M k1 ((ty - 1) / 2) ∧ oT P it n m M k2 ((ty - 1) % 2) := by
      rcases hv with z | z
      · omega
      · exact z
    have hpb : p < 1540 := by have := hS.2.1.1; omega
    obtain ⟨hd1, hd2⟩ : 0 < d ∧ d < dem ty := by omega
    have hdm : dem ty ≤ 26 := by
      rcases (show ty = 0 ∨ ty = 1 ∨ ty = 2 ∨ ty = 3 ∨ ty = 4 by omega) with rfl | rfl | rfl | rfl | rfl <;> decide
    obtain ⟨⟨i1, i2, i3, i4, i5, i6⟩, ⟨i7, i8⟩, ⟨i9, iA⟩, ⟨iB, iC⟩, ⟨iD, iE⟩, ⟨iF, iG⟩, iH, iI⟩ := hS.2.2.2
    have rd := r_demand (t := t) hd1 (by omega) hpb (by omega) hty (h79.symm.trans v1) iH (by omega)
    have af1 : af ty d < dem ((ty - 1) / 2) ∧ as ty d < dem ((ty - 1) % 2) := by
      have := (pt_row (t := ty) (d := d) (by omega) (by omega) hd2 (by omega))
      exact ⟨this.1, this.2.1⟩
    have af2 := (cl_row (M := M) (show ty < 5 by omega) hd2).2.2.1 (by omega) h0
    rw [v5, v6] at rd
    refine ⟨_, rd, ?_⟩
    generalize hq1 : af ty d = q1 at *
    generalize hq2 : as ty d = q2 at *
    generalize hNa : dP N t ((ty - 1) % 2) q2 (nI (fi k2)) = Na at rd
    generalize hT : (if q2 = 0 then t else t + 2) = T at rd
    have hT2 : t ≤ T ∧ T ≤ t + 2 := by by_cases u : q2 = 0 <;> simp only [u, if_true, if_false] at hT <;> omega
    generalize hNb : dP Na T ((ty - 1) / 2) q1 (nI (fi k1)) = Nb at rd
    have ea : ∀ a i, ¬ ((a = 62 ∧ i = 36) ∨ ((a = 81 ∨ a = 82 ∨ a = 85) ∧ t ≤ i)) → Na.1 a i = N.1 a i := fun a i u => by rw [← hNa]; exact dP_s u
    have eb : ∀ a i, ¬ ((a = 62 ∧ i = 36) ∨ ((a = 81 ∨ a = 82 ∨ a = 85) ∧ T ≤ i)) → Nb.1 a i = Na.1 a i := fun a i u => by rw [← hNb]; exact dP_s u
    have eab : ∀ a i, ¬ ((a = 62 ∧ i = 36) ∨ ((a = 81 ∨ a = 82 ∨ a = 85) ∧ t ≤ i)) → Nb.1 a i = N.1 a i := fun a i u => (eb a i (by omega)).trans (ea a i u)
    have a36 : Na.1 62 36 = nI T := by rw [← hNa, dP_36 iH, hT]
    have b36 : Nb.1 62 36 = nI (if q1 = 0 then T else T + 2) := by rw [← hNb, dP_36 a36]
    have hT3 : (if q1 = 0 then T else T + 2) ≤ T + 2 := by by_cases u : q1 = 0 <;> simp only [u, if_true, if_false] <;> omega
    obtain ⟨S2, E2, g2⟩ := SS_k (M' := M) (N' := Nb) (st' := st) (dd' := dd) (t' := if q1 = 0 then T else T + 2) (kp' := 0) hS rfl (fun a p u => rfl) (by rw [← hNb, dP_2, ← hNa, dP_2]) (fun a p u => eab a p (by unfold kR' at u; omega)) ⟨⟨i1, i2, i3, i4, by omega, by omega⟩, ⟨i7, (eab _ _ (by omega)).trans i8⟩, ⟨iB, (eab _ _ (by omega)).trans iC⟩, ⟨iD, (eab _ _ (by omega)).trans iE⟩, ⟨iF, (eab _ _ (by omega)).trans iG⟩, b36, (eab _ _ (by omega)).trans iI⟩
    have lv1 : ((r = 0 → (ty - 1) / 2 = 0) ∧ (r = 1 → (ty - 1) / 2 ≤ 1)) ∧ ((r = 0 → (ty - 1) % 2 = 0) ∧ (r = 1 → (ty - 1) % 2 ≤ 1)) := by
      refine ⟨⟨fun z => ?_, fun z => by omega⟩, ⟨fun z => ?_, fun z => by omega⟩⟩
      · have := hl.2 (by omega); omega
      · have := hl.2 (by omega); omega
    have P1 := np_part (fu := fu) (q := q1) (t := T) (k := k1) ih S2 (Ex_o (E2 (fun _ _ => False)) v7) (by omega) lv1.1 af1.1 (by omega) (by omega) (fun z => by rw [← hNb]; unfold dP; rw [if_neg z]; exact ⟨tk3_p pT_top (by omega), pT_top⟩)
    have c0 : RX2_needParts (fu + 1) 0 (M.1 7 9) (nI ty) (nI d) M = mv_bind (RX2_needParts fu 1 (nI k1) (nI ((ty - 1) / 2)) (nI q1) M) fun _ M8 => RX2_needParts fu 1 (M8.1 61 p) (nI ((ty - 1) % 2)) (nI q2) M8 := by
      have f1 : fX6_firstOf (nI ty) M = some (nI ((ty - 1) / 2), M) := by
        rcases (show ty = 1 ∨ ty = 2 ∨ ty = 3 ∨ ty = 4 by omega) with rfl | rfl | rfl | rfl <;> rfl
      have f2 : ∀ X, fX6_secondOf (nI ty) X = some (nI ((ty - 1) % 2), X) := by
        intro X
        rcases (show ty = 1 ∨ ty = 2 ∨ ty = 3 ∨ ty = 4 by omega) with rfl | rfl | rfl | rfl <;> rfl
      have f3 : ∀ X, fX6_askedOfSecond (nI ty) (nI d) X = some (nI q2, X) := fun X => by rw [← hq2]; exact ((cl_row (M := X) (show ty < 5 by omega) hd2).2.2.1 (by omega) h0).2
      rw [RX2_needParts, if_pos rfl, v1]
      unfold fX2_needParts
      rw [if_neg (by rw [kM, k_le (by omega) (by omega)]; omega), if_pos (by rw [iF]; rfl), c_has hpb, k_bs, if_neg (by decide), k_inb hpb (by omega), k_ck, f1, k_bs, af2.1, k_bs, nI_clamp (by omega), v3]
      show (mv_bind (RX2_needParts fu 1 (nI k1) (nI ((ty - 1) / 2)) (nI q1) M) fun _ M8 => mv_chk true (mv_bind (fX6_secondOf (nI ty) M8) fun r10 M11 => mv_bind (fX6_askedOfSecond (nI ty) (nI d) M11) fun r12 M13 => mv_bind (RX2_needParts fu 1 (M8.1 61 p) r10 r12 M13) fun _ M14 => some ((), M14))) = _
      cases RX2_needParts fu 1 (nI k1) (nI ((ty - 1) / 2)) (nI q1) M with
      | none => rfl
      | some s =>
        obtain ⟨_, M8⟩ := s
        rw [k_bs, k_bs, k_ck, f2, k_bs, f3, k_bs]
        exact bind_id
    rw [c0]
    have kNb : kT t 0 N Nb := ⟨fun a i z hi => eab a i (by omega), fun i hi => by omega⟩
    rcases P1 with ⟨M', N', r1, r2, r3⟩ | ⟨M', N', m', pr', cl', ff', st', dd', r1, r2, r3, r4, r5, r6⟩
    · obtain ⟨e, m', ⟨f1, f2, f3, f4⟩, _⟩ := r3.1
      obtain ⟨gu, rfl⟩ : ∃ g, fu = g + 1 := ⟨fu - 1, by omega⟩
      refine .inl ⟨M', N', ?_, r2, Fn_tr (E2 (fun _ _ => False)) g2 r3⟩
      rw [r1, k_bs]
      exact (np_f f1 (by omega) gu).2
    · have e61 : M'.1 61 p = nI k2 := (r4.2.2.2.1 p (by omega)).2.1.trans v4
      rw [r1, k_bs, e61, r2]
      rw [← hT] at r3
      have hTt : kT t 0 N N' := kT_tr kNb r6 (by omega) (Nat.le_refl _)
      have P2 := np_part (fu := fu) (q := q2) (t := t) (k := k2) ih r3 (Ex_o r4 (Ex_o (E2 (fun _ _ => False)) v8)) (by omega) lv1.2 af1.2 (by omega) (by omega) (fun z => by
        have hTz : T = t + 2 := by rw [← hT, if_neg z]
        have q9 : tk3 Nb t (nI 9) (nI ((ty - 1) % 2)) (nI q2) ∧ tk3 Nb (t + 1) (nI 8) (nI (fi k2)) (nI 0) := by
          have w : tk3 Na t (nI 9) (nI ((ty - 1) % 2)) (nI q2) ∧ tk3 Na (t + 1) (nI 8) (nI (fi k2)) (nI 0) := by
            rw [← hNa]; unfold dP; rw [if_neg z]; exact ⟨tk3_p pT_top (by omega), pT_top⟩
          obtain ⟨⟨w1, w2, w3⟩, w4, w5, w6⟩ := w
          exact ⟨⟨(eb _ _ (by omega)).trans w1, (eb _ _ (by omega)).trans w2, (eb _ _ (by omega)).trans w3⟩, (eb _ _ (by omega)).trans w4, (eb _ _ (by omega)).trans w5, (eb _ _ (by omega)).trans w6⟩
        exact ⟨tk3_s q9.1 r6 (by omega), tk3_s q9.2 r6 (by omega)⟩)
      exact NPo_tr (Ex_tr (E2 _) r4 (fun _ _ _ z => z)) (gF_tr g2 r5) hTt P2
end RI1
