/-! INPUTS fit a function's parameters -/
def bnx (K : Nat → Nat) (n t : Nat) : Option Nat → Option Nat
  | none => none
  | some i => bh K n 3 t i
def ft (K : Nat → Nat) (n : Nat) (ty : Nat → Nat) : Nat → Nat → Option Nat → Option Nat
  | 0, _, o => o
  | m + 1, k, o => ft K n ty m (k + 1) (bnx K n (ty k) o)
section DI
variable {b h F ND q n : Nat} {M N : mv_M} {K : Nat → Nat} {P : Nat → Nat → Nat}
def oN (n : Nat) (o : Option Nat) : Prop := ∀ j, o = some j → j ≤ n
theorem oN_s {t : Nat} {o : Option Nat} : oN n (bnx K n t o) := by
  intro j hj
  cases o with
  | none => cases hj
  | some i => exact bh_le _ _ _ _ hj
theorem ft_N {ty : Nat → Nat} : ∀ m k o, oN n o → oN n (ft K n ty m k o) := by
  intro m
  induction m with
  | zero => intro k o h; exact h
  | succ m ih => intro k o h; exact ih (k + 1) _ oN_s
theorem c_fit (hW : WFp P F ND) (hp : PR b h P F ND M N) (hq : q < F) (hn : n ≤ 40) (e6 : M.1 6 0 = nI n) (hK : ∀ i, i < n → K i ≤ 2 ∧ M.1 48 i = nI (K i)) : ∃ v, v ≤ 1 ∧ fX1_fit b (nI q) M = some (nI v, M) ∧ (v = 1 ↔ ft K n (fun k => P 13 (16 * q + k)) (P 9 q) 0 (some 0) = some n) := by
  have hF := hW.2.1
  have hp4 := (hW.2.2.2 q hq).1
  have e2 := (hp.2.2.2.2.2 q hq).1.1
  have key : ∀ m k o, k + m = P 9 q → oN n o → ∃ v, v ≤ 1 ∧ fX1_fit_5 b (nI q) (bi o) (nI k) M = some (nI v, M) ∧ (v = 1 ↔ ft K n (fun k => P 13 (16 * q + k)) m k o = some n) := by
    intro m
    induction m with
    | zero =>
      intro k o hk ho
      have G : ∀ v, v ≤ 1 → (v = 1 ↔ bi o = nI n) → fX1_fit_5 b (nI q) (bi o) (nI k) M = some (nI v, M) := by
        intro v hv hvo
        unfold fX1_fit_5
        refine lp_out ?_
        unfold gX1_fit_5
        by_cases z : bi o = nI n
        · have z' : (bi o = nI n) = True := eq_true z
          obtain rfl := hvo.2 z
          simp (disch := omega) only [e2, e6, z', k_iT, k_iF, Bool.false_eq_true, eq_self, Nat.add_zero, k_lt', k_bs, k_T, k_F, k_inb, k_ck, k_nz, ↓kN, kL, k_lt, k_le, k_eq, kn_le, kn_lt, kn_eq, kn_le', kn_lt', kn_eq', nI_clamp, nI_add, k_sub, k_mul, k_div, rd_hi, rd_mi, rd_hl, rd_ml, rd_hr, rd_mr, rd_si2, rd_sl1, rd_sl2, rd_sr1, rd_sr2]
        · have z' : (bi o = nI n) = False := eq_false z
          obtain rfl : v = 0 := by
            have : v ≠ 1 := fun y => z (hvo.1 y)
            omega
          simp (disch := omega) only [e2, e6, z', k_iT, k_iF, Bool.false_eq_true, eq_self, Nat.add_zero, k_lt', k_bs, k_T, k_F, k_inb, k_ck, k_nz, ↓kN, kL, k_lt, k_le, k_eq, kn_le, kn_lt, kn_eq, kn_le', kn_lt', kn_eq', nI_clamp, nI_add, k_sub, k_mul, k_div, rd_hi, rd_mi, rd_hl, rd_ml, rd_hr, rd_mr, rd_si2, rd_sl1, rd_sl2, rd_sr1, rd_sr2]
      cases o with
      | none =>
        have nz : ¬ bi none = nI n := by
          show ¬ nN = nI n
          rw [kn_eq' (by omega)]
          exact id
        exact ⟨0, by omega, G 0 (by omega) ⟨fun y => by omega, fun y => absurd y nz⟩, ⟨fun y => by omega, fun y => by cases y⟩⟩
      | some j =>
        have hj := ho j rfl
        have ej : bi (some j) = nI n ↔ j = n := by
          show nI j = nI n ↔ _
          rw [k_eq (by omega) (by omega)]
        by_cases z : j = n
        · exact ⟨1, by omega, G 1 (by omega) ⟨fun _ => ej.2 z, fun _ => rfl⟩, ⟨fun _ => by rw [z]; rfl, fun _ => rfl⟩⟩
        · refine ⟨0, by omega, G 0 (by omega) ⟨fun y => by omega, fun y => absurd (ej.1 y) z⟩, ⟨fun y => by omega, fun y => ?_⟩⟩
          exact absurd (Option.some.inj y) z
    | succ m ih =>
      intro k o hk ho
      obtain ⟨nt, t4⟩ := i_nty hW hp hq (k := k) (by omega)
      obtain ⟨v, v1, v2, v3⟩ := ih (k + 1) _ (by omega) (oN_s (K := K) (n := n) (t := P 13 (16 * q + k)) (o := o))
      have B : tX1_behind (nI (P 13 (16 * q + k))) (bi o) M = some (bi (bnx K n (P 13 (16 * q + k)) o), M) := by
        cases o with
        | none => exact cb_m1
        | some i =>
          have := c_bh hn e6 hK 12 (P 13 (16 * q + k)) i t4 (by omega) (by omega) (by omega) (by have := ho i rfl; omega)
          rw [bh_f 12 3 _ _ t4 (by omega) (by omega) (by omega) (by omega) (by omega) (by omega)] at this
          exact this
      refine ⟨v, v1, ?_, v3⟩
      unfold fX1_fit_5 at v2 ⊢
      refine Eq.trans (lp_go ?_) v2
      unfold gX1_fit_5
      simp (disch := omega) only [e2, nt, B, k_iT, k_iF, Bool.false_eq_true, eq_self, Nat.add_zero, k_lt', k_bs, k_T, k_F, k_inb, k_ck, k_nz, ↓kN, kL, k_lt, k_le, k_eq, kn_le, kn_lt, kn_eq, kn_le', kn_lt', kn_eq', nI_clamp, nI_add, k_sub, k_mul, k_div, rd_hi, rd_mi, rd_hl, rd_ml, rd_hr, rd_mr, rd_si2, rd_sl1, rd_sl2, rd_sr1, rd_sr2]
  exact key (P 9 q) 0 (some 0) (by omega) (fun j hj => by cases hj; omega)
end DI
