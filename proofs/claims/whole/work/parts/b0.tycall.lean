/-! TYPES: calls -/
noncomputable def lpK {σ τ : Type} (g : σ → mv_M → Option ((σ ⊕ τ) × mv_M)) (o : Option ((σ ⊕ τ) × mv_M)) : Option (τ × mv_M) := match o with
  | none => none
  | some (.inl s, M) => mv_loop g s M
  | some (.inr t, M) => some (t, M)
theorem lpK_loop {σ τ : Type} {g : σ → mv_M → Option ((σ ⊕ τ) × mv_M)} {s : σ} {M : mv_M} : mv_loop g s M = lpK g (g s M) := by
  match hg : g s M with
  | none =>
    rw [mv_loop_eq, hg]
    rfl
  | some (.inl s', M') => rw [lp_go hg]; rfl
  | some (.inr t, M') => rw [lp_out hg]; rfl
theorem lpK_bind {σ τ α : Type} {g : σ → mv_M → Option ((σ ⊕ τ) × mv_M)} {o : Option (α × mv_M)} {K : α → mv_M → Option ((σ ⊕ τ) × mv_M)} : lpK g (mv_bind o K) = mv_bind o (fun r M => lpK g (K r M)) := by
  cases o with
  | none => rfl
  | some r => rfl
theorem lpK_inr {σ τ : Type} {g : σ → mv_M → Option ((σ ⊕ τ) × mv_M)} {o : Option (τ × mv_M)} : lpK g (mv_inr o) = o := by
  cases o with
  | none => rfl
  | some r => rfl
/-- the arguments on the stack -/
def aL (g : Nat → Nat → Nat) (e : Nat → Nat) (t : Nat → Nat) (L0 : List (Nat × Int32 × Int32)) : Nat → Nat → List (Nat × Int32 × Int32)
  | _, 0 => L0
  | i, d + 1 => (1, nI (g 0 (e i)), nI (t i)) :: aL g e t L0 (i + 1) d
theorem aL_len {g : Nat → Nat → Nat} {e t : Nat → Nat} {L0 : List (Nat × Int32 × Int32)} : ∀ d i, (aL g e t L0 i d).length = L0.length + d := by
  intro d
  induction d with
  | zero => intro i; rfl
  | succ d ih => intro i; show (aL g e t L0 (i + 1) d).length + 1 = _; rw [ih]; omega
section TK
variable {b h n cnt f m nd F ND sc lo hi xl xh an p c k nb pl t k0 B q pq : Nat} {M M' M0 M1 N N' N0 N1 N2 : mv_M} {T S : Nat → Nat} {g : Nat → Nat → Nat} {lab : Nat → Nat} {L : List (Nat × Int32 × Int32)} {w : Int32}
theorem y_146 {R : Int32 → Int32 → mv_M → Option (Int32 × mv_M)} (hx : yX b M0 T n cnt F ND) (hW : yW b M0 M) (hq : q < F) : fX9_typeOfCall_146 R (nI q) M = some (M0.1 (b + 4) q, M) := by
  have hF := hx.2.2.2.1.2
  unfold fX9_typeOfCall_146
  rw [y_get hx hW, k_inb (by omega) (by omega), k_ck, nI_clamp (by omega), hW.1 _ _ ((yA_ne hx.1).2.2.2.2.1 _)]
theorem yD_89 (hx : yX b M0 T n cnt F ND) (hq : q < F) (hpq : M0.1 (b + 2) q = nI pq) (hpq4 : pq ≤ 4) : ∀ d k, k + d = pq → ∀ (x : Int32) (M : mv_M), yD b M0 f nb pl M → mv_ok (fX9_typeOfCall_89 (fun a0 a1 M => RX9_typeOf (k0 + 1) 0 a0 a1 M) (nI q) x (nI k) M) (fun _ M' => yD b M0 f nb pl M') := by
  have hF := hx.2.2.2.1.2
  intro d
  induction d with
  | zero =>
    intro k hk x M hd
    have e : M.1 (b + 2) q = nI pq := (hd.1.1 _ _ ((yA_ne hx.1).2.2.2.1 _)).trans hpq
    unfold fX9_typeOfCall_89
    rw [lpK_loop]
    show mv_ok (lpK _ (gX9_typeOfCall_89 _ (nI q) x (nI k) M)) _
    unfold gX9_typeOfCall_89
    rw [y_get hx hd.1, k_inb (by omega) (by omega), k_ck, nI_clamp (by omega), e, if_pos (by rw [k_le (by omega) (by omega)]; omega), lpK_inr, y_146 hx hd.1 hq]
    exact hd
  | succ d ih =>
    intro k hk x M hd
    have e : M.1 (b + 2) q = nI pq := (hd.1.1 _ _ ((yA_ne hx.1).2.2.2.1 _)).trans hpq
    unfold fX9_typeOfCall_89
    rw [lpK_loop]
    show mv_ok (lpK _ (gX9_typeOfCall_89 _ (nI q) x (nI k) M)) _
    unfold gX9_typeOfCall_89
    rw [y_get hx hd.1, k_inb (by omega) (by omega), k_ck, nI_clamp (by omega), e, if_neg (by rw [k_le (by omega) (by omega)]; omega), y_get hx hd.1]
    rcases y_hasNode hx hd.1 x with e1 | ⟨e1, e2⟩
    · rw [e1, k_bs, if_pos rfl, lpK_inr, y_146 hx hd.1 hq]
      exact hd
    · obtain ⟨v, ev⟩ := y_nameType' (k := k) hx hd.1 hq (by omega)
      have ed : RX9_typeOf (k0 + 1) 0 x v M = some (0, M) := yD_ty hd
      rw [e1, k_bs, if_neg (by decide), y_get hx hd.1, ev, k_bs]
      show mv_ok (lpK _ (mv_bind (RX9_typeOf (k0 + 1) 0 x v M) _)) _
      rw [ed, k_bs, y_get hx hd.1, e2, k_ck, k_lt', k_lt', nI_1]
      exact ih (k + 1) (by omega) _ M hd
/-- the reference finds the function -/
theorem z_find {v : Int64} {x : Nat} (hh : h ≤ 1) (hF : F ≤ 12) (hx : x < 2002) (h27 : N.1 62 27 = nI h) (h28 : N.1 62 28 = nI F) (hv : N.2.1 77 x = v) : ∀ d k, k + d = F → ∀ g0 : Int32, ((∀ j, k ≤ j → j < F → N.2.1 64 (12 * h + j) ≠ v) → fX11_judgeCall_10 (nI x) g0 (nI (12 * h + k)) N = fX11_judgeCall_10 (nI x) g0 (nI (12 * h + F)) N) ∧ (∀ j, k ≤ j → j < F → N.2.1 64 (12 * h + j) = v → (∀ i, i < F → i ≠ j → N.2.1 64 (12 * h + i) ≠ v) → fX11_judgeCall_10 (nI x) g0 (nI (12 * h + k)) N = fX11_judgeCall_10 (nI x) (nI (12 * h + j)) (nI (12 * h + F)) N) := by
  intro d
  induction d with
  | zero =>
    intro k hk g0
    obtain rfl : k = F := by omega
    exact ⟨fun _ => rfl, fun j j1 j2 => by omega⟩
  | succ d ih =>
    intro k hk g0
    have ee : 12 * h + k + 1 = 12 * h + (k + 1) := by omega
    have miss : N.2.1 64 (12 * h + k) ≠ v → fX11_judgeCall_10 (nI x) g0 (nI (12 * h + k)) N = fX11_judgeCall_10 (nI x) g0 (nI (12 * h + (k + 1))) N := by
      intro hne
      have cc : (lg_cmp (N.2.1 64 (12 * h + k)) v = nI 0) = False := by rw [cmp0]; exact eq_false hne
      unfold fX11_judgeCall_10
      refine lp_go (s' := (nI x, g0, nI (12 * h + (k + 1)))) ?_
      show gX11_judgeCall_10 (nI x) g0 (nI (12 * h + k)) N = _
      unfold gX11_judgeCall_10 fX11_judgeCall_47
      simp (disch := omega) only [h27, h28, hv, cc, ee, k_iT, k_iF, Bool.false_eq_true, eq_self, Nat.add_zero, k_lt', k_bs, k_T, k_F, k_inb, k_ck, k_nz, ↓kN, kL, k_lt, k_le, k_eq, kn_le, kn_lt, kn_eq, kn_le', kn_lt', kn_eq', nI_clamp, nI_add, k_sub, k_mul, k_div, rd_hi, rd_mi, rd_hl, rd_ml, rd_hr, rd_mr, rd_si2, rd_sl1, rd_sl2, rd_sr1, rd_sr2]
    have hit : N.2.1 64 (12 * h + k) = v → fX11_judgeCall_10 (nI x) g0 (nI (12 * h + k)) N = fX11_judgeCall_10 (nI x) (nI (12 * h + k)) (nI (12 * h + (k + 1))) N := by
      intro he
      have cc : (lg_cmp v v = nI 0) = True := by rw [cmp0]; exact eq_true rfl
      unfold fX11_judgeCall_10
      refine lp_go (s' := (nI x, nI (12 * h + k), nI (12 * h + (k + 1)))) ?_
      show gX11_judgeCall_10 (nI x) g0 (nI (12 * h + k)) N = _
      unfold gX11_judgeCall_10 fX11_judgeCall_47
      simp (disch := omega) only [h27, h28, hv, he, cc, ee, k_iT, k_iF, Bool.false_eq_true, eq_self, Nat.add_zero, k_lt', k_bs, k_T, k_F, k_inb, k_ck, k_nz, ↓kN, kL, k_lt, k_le, k_eq, kn_le, kn_lt, kn_eq, kn_le', kn_lt', kn_eq', nI_clamp, nI_add, k_sub, k_mul, k_div, rd_hi, rd_mi, rd_hl, rd_ml, rd_hr, rd_mr, rd_si2, rd_sl1, rd_sl2, rd_sr1, rd_sr2]
    refine ⟨fun hn => ?_, fun j j1 j2 j3 j4 => ?_⟩
    · rw [miss (hn k (by omega) (by omega))]
      exact (ih (k + 1) (by omega) g0).1 (fun j j1 j2 => hn j (by omega) j2)
    · by_cases e : j = k
      · subst e
        rw [hit j3]
        exact (ih (j + 1) (by omega) _).1 (fun i i1 i2 => j4 i i2 (by omega))
      · rw [miss (j4 k (by omega) (by omega))]
        exact (ih (k + 1) (by omega) g0).2 j (by omega) j2 j3 j4
/-- its arguments come onto the stack -/
theorem z_args {x a q : Nat} {e t : Nat → Nat} {L0 : List (Nat × Int32 × Int32)} (hh : h ≤ 1) (hx : x < 2002) (hq : q < 12) (hpq : pq ≤ 4) (ha : a + pq ≤ 2002) (e72 : N0.1 72 x = nI a) (h72 : ∀ N, zW h N0 N → N.1 72 x = N0.1 72 x → N.1 72 x = nI a) (e78 : ∀ k, k < pq → N0.1 78 (a + k) = nI (g 0 (e k))) (hl : L0.length + 4 < 3000) : ∀ k, k ≤ pq → ∀ N, zO h N0 f (aL g e t L0 k (pq - k)) sc S N → N.1 72 x = nI a → (∀ i, i < pq → N.1 70 (16 * (12 * h + q) + i) = nI (t i)) → ∃ N', fX11_judgeCall_111 (nI x) (nI (12 * h + q)) (nI k - 1) N = some ((), N') ∧ zO h N0 f (aL g e t L0 0 pq) sc S N' ∧ zS N N' := by
  intro k
  induction k with
  | zero =>
    intro _ N hz _ _
    refine ⟨N, ?_, hz, zS_refl⟩
    unfold fX11_judgeCall_111
    refine lp_out ?_
    show gX11_judgeCall_111 (nI x) (nI (12 * h + q)) (nI 0 - 1) N = _
    unfold gX11_judgeCall_111
    rw [if_pos (by decide)]
  | succ k ih =>
    intro hk N hz h7 h70
    have eS : nI (k + 1) - 1 = nI k := by rw [show (1 : Int32) = nI 1 from rfl, k_sub (by omega)]; rfl
    obtain ⟨N2, p2, q2, s2⟩ := z_push (s := 1) (a := nI (g 0 (e k))) (w := nI (t k)) hz (by rw [aL_len]; omega)
    have hz2 : zO h N0 f (aL g e t L0 k (pq - k)) sc S N2 := by
      rw [show pq - k = (pq - (k + 1)) + 1 by omega]
      exact q2
    obtain ⟨N3, r1, r2, r3⟩ := ih (by omega) N2 hz2 ((s2.1 _ _ (by omega)).trans h7) (fun i hi => (s2.1 _ _ (by omega)).trans (h70 i hi))
    refine ⟨N3, ?_, r2, zS_trans s2 r3⟩
    rw [eS, ← r1]
    have f78 : N.1 78 (a + k) = nI (g 0 (e k)) := (hz.1.1 _ _ (by unfold zA; omega)).trans (e78 k (by omega))
    have f70 := h70 k (by omega)
    have p2' : fX11_task 1 (nI (g 0 (e k))) (nI (t k)) N = some ((), N2) := p2
    unfold fX11_judgeCall_111
    refine lp_go (s' := (nI x, nI (12 * h + q), nI k - 1)) ?_
    show gX11_judgeCall_111 (nI x) (nI (12 * h + q)) (nI k) N = _
    unfold gX11_judgeCall_111
    rw [if_neg (by rw [show (0 : Int32) = nI 0 from rfl, k_lt (by omega) (by omega)]; omega), k_inb (by omega) (by omega), k_ck, nI_clamp (by omega), h7, nI_add, k_inb (by omega) (by omega), k_ck, show (16 : Int32) = nI 16 from rfl, k_mul, nI_add, k_inb (by omega) (by omega), k_ck, nI_clamp (by omega), nI_clamp (by omega), f78, f70, p2', k_bs, k_lt']
end TK
