section DJ
variable {b h F ND q n : Nat} {M N : mv_M} {K : Nat → Nat} {P : Nat → Nat → Nat} {a a1 a2 : Int32}
theorem r_bn {o : Option Nat} {t : Nat} (hn : n ≤ 40) (ht : t ≤ 4) (ho : oN n o) (e55 : N.1 62 55 = nI n) (hK : ∀ i, i < n → K i ≤ 2 ∧ N.1 92 i = nI (K i)) : ∃ N', fX11_behind (bi o) (nI t) N = some (bi (bnx K n t o), N') ∧ N'.2 = N.2 ∧ ∀ a p, a ≠ 94 → N'.1 a p = N.1 a p := by
  cases o with
  | none =>
    refine ⟨mv_si N 94 0 (nI t), ?_, rfl, fun a p ha => by rw [rd_mi (by omega)]⟩
    unfold fX11_behind
    exact rb_m1 (s := 1) (by omega)
  | some i => exact r_behind hn ht (by have := ho i rfl; omega) e55 hK
theorem r_fit (hW : WFp P F ND) (hq : q < F) (hn : n ≤ 40) : ∀ m k o N, k + m = P 9 q → oN n o → PR b h P F ND M N → N.1 62 45 ≠ 0 → N.1 62 55 = nI n → (∀ i, i < n → K i ≤ 2 ∧ N.1 92 i = nI (K i)) → ∃ N', fX11_run_29 a a1 a2 (nI (12 * h + q)) (bi o) (nI k) N = fX11_run_75 a a1 a2 (nI (12 * h + q)) (bi (ft K n (fun k => P 13 (16 * q + k)) m k o)) N' ∧ N'.2 = N.2 ∧ ∀ a p, a ≠ 94 → N'.1 a p = N.1 a p := by
  have hF := hW.2.1
  have hp4 := (hW.2.2.2 q hq).1
  intro m
  induction m with
  | zero =>
    intro k o N hk ho hp e45 e55 hK
    have hh := hp.2.1
    have e66 := (hp.2.2.2.2.2 q hq).2.1.1
    refine ⟨N, ?_, rfl, fun _ _ _ => rfl⟩
    unfold fX11_run_29
    refine lp_inr ?_
    unfold gX11_run_29
    rw [if_neg e45]
    simp (disch := omega) only [e66, k_iT, k_iF, Bool.false_eq_true, eq_self, Nat.add_zero, k_lt', k_bs, k_T, k_F, k_inb, k_ck, k_nz, ↓kN, kL, k_lt, k_le, k_eq, kn_le, kn_lt, kn_eq, kn_le', kn_lt', kn_eq', nI_clamp, nI_add, k_sub, k_mul, k_div, rd_hi, rd_mi, rd_hl, rd_ml, rd_hr, rd_mr, rd_si2, rd_sl1, rd_sl2, rd_sr1, rd_sr2]
    rfl
  | succ m ih =>
    intro k o N hk ho hp e45 e55 hK
    have hh := hp.2.1
    have e66 := (hp.2.2.2.2.2 q hq).2.1.1
    have wf := hW.2.2.2 q hq
    have t4 := wf.2.2.2.2.2.2.2.1 k (by omega)
    have h10 := wf.2.1
    have h16 := wf.2.2.1
    have e70 := ((hp.2.2.2.2.2 q hq).2.2.1 k (by omega) t4).2
    obtain ⟨N1, E1, z1, z2⟩ := r_bn (K := K) hn t4 ho e55 hK
    obtain ⟨N2, E2, y1, y2⟩ := ih (k + 1) (bnx K n (P 13 (16 * q + k)) o) N1 (by omega) oN_s (PR_F hp (fun _ _ _ _ => rfl) (fun c k u1 u2 => z2 c k (by omega))) (by rw [z2 62 45 (by omega)]; exact e45) ((z2 62 55 (by omega)).trans e55) (fun i hi => ⟨(hK i hi).1, (z2 92 i (by omega)).trans (hK i hi).2⟩)
    refine ⟨N2, ?_, y1.trans z1, fun a p ha => (y2 a p ha).trans (z2 a p ha)⟩
    unfold fX11_run_29 at E2 ⊢
    refine Eq.trans (lp_go ?_) E2
    unfold gX11_run_29
    rw [if_neg e45]
    simp (disch := omega) only [e66, e70, E1, k_iT, k_iF, Bool.false_eq_true, eq_self, Nat.add_zero, k_lt', k_bs, k_T, k_F, k_inb, k_ck, k_nz, ↓kN, kL, k_lt, k_le, k_eq, kn_le, kn_lt, kn_eq, kn_le', kn_lt', kn_eq', nI_clamp, nI_add, k_sub, k_mul, k_div, rd_hi, rd_mi, rd_hl, rd_ml, rd_hr, rd_mr, rd_si2, rd_sl1, rd_sl2, rd_sr1, rd_sr2]
end DJ
