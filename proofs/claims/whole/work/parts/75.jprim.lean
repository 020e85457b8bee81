/-! what an expression that is read may change in the class -/
def cEa (b f nd c k : Nat) : Prop := (c = 1 ∧ k ≤ 1) ∨ (c = 3 ∧ k = 3) ∨ (c = b ∧ k = 8) ∨ (c = b + 3 ∧ k = f) ∨ (b + 8 ≤ c ∧ c ≤ b + 14 ∧ nd ≤ k)
def cE (b f m nd : Nat) (M M' : mv_M) : Prop := (∀ c k, ¬ cEa b f nd c k → M'.1 c k = M.1 c k) ∧ (∀ c k, ¬ (c = b + 6 ∧ f * 16 + m ≤ k) → M'.2.1 c k = M.2.1 c k)
/-- one place of the node x, a name, stacks, the token -/
def rX (h f m c0 x : Nat) (N N' : mv_M) : Prop := (∀ c k, ¬ ((c = 62 ∧ ((3 ≤ k ∧ k ≤ 10) ∨ k = 32 ∨ k = 36 ∨ k = 38 ∨ k = 40 ∨ k = 41)) ∨ (80 ≤ c ∧ c ≤ 84) ∨ (c = 67 ∧ k = 12 * h + f) ∨ (c = c0 ∧ k = x)) → N'.1 c k = N.1 c k) ∧ (∀ c k, ¬ ((c = 62 ∧ k = 7) ∨ (c = 69 ∧ 16 * (12 * h + f) + m ≤ k)) → N'.2.1 c k = N.2.1 c k)
section JP
variable {α β : Type} {b h n cnt f i m nd nb pl xn an ot m1 nd1 c0 x : Nat} {L : List (Nat × Int32)} {D W Y : List Int32} {M M' M0 M1 M2 N N' N0 N1 N2 : mv_M} {T : Nat → Nat} {o : Option (α × mv_M)} {Q : α → mv_M → mv_M → Prop}
theorem cE_refl : cE b f m nd M M := ⟨fun _ _ _ => rfl, fun _ _ _ => rfl⟩
theorem cE_trans (a : cE b f m nd M M1) (d : cE b f m1 nd1 M1 M2) (h1 : m ≤ m1) (h2 : nd ≤ nd1) : cE b f m nd M M2 := by
  refine ⟨fun c k z => (d.1 c k ?_).trans (a.1 c k z), fun c k z => (d.2 c k ?_).trans (a.2 c k z)⟩
  · unfold cEa at z ⊢; omega
  · omega
theorem cE_si {c k : Nat} {v : Int32} (a : cE b f m nd M M1) (hc : cEa b f nd c k) : cE b f m nd M (mv_si M1 c k v) := by
  refine ⟨fun c' k' z => ?_, a.2⟩
  rw [rd_mi (by rintro ⟨rfl, rfl⟩; exact z hc)]
  exact a.1 c' k' z
theorem cE_sl {k : Nat} {v : Int64} (a : cE b f m nd M M1) (hc : f * 16 + m ≤ k) : cE b f m nd M (mv_sl M1 (b + 6) k v) := by
  refine ⟨a.1, fun c' k' z => ?_⟩
  rw [rd_ml (by rintro ⟨rfl, rfl⟩; exact z ⟨rfl, hc⟩)]
  exact a.2 c' k' z
theorem rS_X (a : rS N N1) : rX h f m c0 x N N1 := ⟨fun c k z => a.1 c k (by omega), fun c k z => a.2 c k (by omega)⟩
theorem rX_trans (a : rX h f m c0 x N N1) (d : rX h f m1 c0 x N1 N2) (h1 : m ≤ m1) : rX h f m c0 x N N2 := ⟨fun c k z => (d.1 c k z).trans (a.1 c k z), fun c k z => (d.2 c k (by omega)).trans (a.2 c k z)⟩
theorem rX_E {xn : Nat} (a : rX h f m c0 x N N1) (hc : 71 ≤ c0 ∧ c0 ≤ 76) (hx : xn ≤ x) : rE h f m xn an N N1 := by
  refine ⟨fun c k z => a.1 c k ?_, fun c k z => a.2 c k ?_⟩
  · unfold rEa at z; omega
  · unfold rEl at z; omega
theorem rX_si {v : Int32} (a : rX h f m c0 x N N1) : rX h f m c0 x N (mv_si N1 c0 x v) := ⟨fun c k z => by simp (disch := omega) only [rd_hi, rd_mi, rd_hl, rd_ml, rd_hr, rd_mr, rd_si2, rd_sl1, rd_sl2, rd_sr1, rd_sr2]; exact a.1 c k z, a.2⟩
theorem g_type {s : Nat} {w : Int32} (hr : rO h N0 T n f i m xn an ((s, w) :: L) D W Y ot N) (hs : s ≤ 3) (hl : L.length < 3000) : gX11_parse_26 N = mv_bind (fX11_onType (nI s) w (mv_si N 62 36 (nI L.length))) (fun _ M14 => some (.inl (), M14)) := by
  obtain ⟨k1, k2, ⟨k3, k4⟩, _⟩ := hr.2.2.2.2.2.2
  have k9 := hr.2.2.2.2.2.1
  rw [List.length_cons] at k3
  have e : L.length + 1 - 1 = L.length := by omega
  unfold gX11_parse_26 fX11_parse_117
  simp (disch := omega) only [k3, k4.1, k4.2.1, e, k9, k_iT, k_iF, Bool.false_eq_true, eq_self, Nat.add_zero, k_lt', k_bs, k_T, k_F, k_inb, k_ck, k_nz, ↓kN, kL, k_lt, k_le, k_eq, kn_le, kn_lt, kn_eq, kn_le', kn_lt', kn_eq', nI_clamp, nI_add, k_sub, k_mul, k_div, rd_hi, rd_mi, rd_hl, rd_ml, rd_hr, rd_mr, rd_si2, rd_sl1, rd_sl2, rd_sr1, rd_sr2]
theorem g_E {w : Int32} (hr : rO h N0 T n f i m xn an ((4, w) :: L) D W Y ot N) (hl : L.length < 3000) : gX11_parse_26 N = mv_bind (fX11_onE (mv_si N 62 36 (nI L.length))) (fun _ M14 => some (.inl (), M14)) := by
  obtain ⟨k1, k2, ⟨k3, k4⟩, _⟩ := hr.2.2.2.2.2.2
  have k9 := hr.2.2.2.2.2.1
  rw [List.length_cons] at k3
  have e : L.length + 1 - 1 = L.length := by omega
  unfold gX11_parse_26 fX11_parse_117
  simp (disch := omega) only [k3, k4.1, k4.2.1, e, k9, k_iT, k_iF, Bool.false_eq_true, eq_self, Nat.add_zero, k_lt', k_bs, k_T, k_F, k_inb, k_ck, k_nz, ↓kN, kL, k_lt, k_le, k_eq, kn_le, kn_lt, kn_eq, kn_le', kn_lt', kn_eq', nI_clamp, nI_add, k_sub, k_mul, k_div, rd_hi, rd_mi, rd_hl, rd_ml, rd_hr, rd_mr, rd_si2, rd_sl1, rd_sl2, rd_sr1, rd_sr2]
theorem g_sum {s : Nat} {w : Int32} (hr : rO h N0 T n f i m xn an ((s, w) :: L) D W Y ot N) (hs : 5 ≤ s ∧ s ≤ 12) (hl : L.length < 3000) : gX11_parse_26 N = mv_bind (fX11_onSum (nI s) w (mv_si N 62 36 (nI L.length))) (fun _ M14 => some (.inl (), M14)) := by
  obtain ⟨k1, k2, ⟨k3, k4⟩, _⟩ := hr.2.2.2.2.2.2
  have k9 := hr.2.2.2.2.2.1
  rw [List.length_cons] at k3
  have e : L.length + 1 - 1 = L.length := by omega
  unfold gX11_parse_26 fX11_parse_117
  simp (disch := omega) only [k3, k4.1, k4.2.1, e, k9, k_iT, k_iF, Bool.false_eq_true, eq_self, Nat.add_zero, k_lt', k_bs, k_T, k_F, k_inb, k_ck, k_nz, ↓kN, kL, k_lt, k_le, k_eq, kn_le, kn_lt, kn_eq, kn_le', kn_lt', kn_eq', nI_clamp, nI_add, k_sub, k_mul, k_div, rd_hi, rd_mi, rd_hl, rd_ml, rd_hr, rd_mr, rd_si2, rd_sl1, rd_sl2, rd_sr1, rd_sr2]
theorem g_rest {s : Nat} {w : Int32} (hr : rO h N0 T n f i m xn an ((s, w) :: L) D W Y ot N) (hs : 13 ≤ s ∧ s ≤ 22) (hl : L.length < 3000) : gX11_parse_26 N = mv_bind (fX11_onRest (nI s) w (mv_si N 62 36 (nI L.length))) (fun _ M14 => some (.inl (), M14)) := by
  obtain ⟨k1, k2, ⟨k3, k4⟩, _⟩ := hr.2.2.2.2.2.2
  have k9 := hr.2.2.2.2.2.1
  rw [List.length_cons] at k3
  have e : L.length + 1 - 1 = L.length := by omega
  unfold gX11_parse_26 fX11_parse_117
  simp (disch := omega) only [k3, k4.1, k4.2.1, e, k9, k_iT, k_iF, Bool.false_eq_true, eq_self, Nat.add_zero, k_lt', k_bs, k_T, k_F, k_inb, k_ck, k_nz, ↓kN, kL, k_lt, k_le, k_eq, kn_le, kn_lt, kn_eq, kn_le', kn_lt', kn_eq', nI_clamp, nI_add, k_sub, k_mul, k_div, rd_hi, rd_mi, rd_hl, rd_ml, rd_hr, rd_mr, rd_si2, rd_sl1, rd_sl2, rd_sr1, rd_sr2]
/-- the token as the reference sees it -/
theorem rO_tk (hr : rO h N0 T n f i m xn an L D W Y ot N) : N.1 62 4 = nI (lx_tk (lx_k T n (lx_st T n i))) := hr.2.2.2.1.2.1
theorem rO_ta (hr : rO h N0 T n f i m xn an L D W Y ot N) : N.1 62 5 = nI (lx_st T n i) := hr.2.2.2.1.1
theorem rFt_pass (a : rFt h f N0 nb pl N) : fX11_pass N = some ((), N) := by
  obtain ⟨a1, a2, a3, _⟩ := a
  unfold fX11_pass fX11_pass_27
  simp (disch := omega) only [a1, k_iT, k_iF, Bool.false_eq_true, eq_self, Nat.add_zero, k_lt', k_bs, k_T, k_F, k_inb, k_ck, k_nz, ↓kN, kL, k_lt, k_le, k_eq, kn_le, kn_lt, kn_eq, kn_le', kn_lt', kn_eq', nI_clamp, nI_add, k_sub, k_mul, k_div, rd_hi, rd_mi, rd_hl, rd_ml, rd_hr, rd_mr, rd_si2, rd_sl1, rd_sl2, rd_sr1, rd_sr2]
theorem rFt_want {w : Int32} (a : rFt h f N0 nb pl N) : fX11_want w N = some ((), N) := by
  have e := rFt_pass a
  obtain ⟨a1, a2, a3, _⟩ := a
  unfold fX11_want fX11_want_24
  simp (disch := omega) only [a1, e, k_iT, k_iF, Bool.false_eq_true, eq_self, Nat.add_zero, k_lt', k_bs, k_T, k_F, k_inb, k_ck, k_nz, ↓kN, kL, k_lt, k_le, k_eq, kn_le, kn_lt, kn_eq, kn_le', kn_lt', kn_eq', nI_clamp, nI_add, k_sub, k_mul, k_div, rd_hi, rd_mi, rd_hl, rd_ml, rd_hr, rd_mr, rd_si2, rd_sl1, rd_sl2, rd_sr1, rd_sr2]
theorem j_take {w : Nat} (hx : pX b h M0 N0 T n cnt f) (hc : cO b M0 T n cnt f i m nd M) (hr : rO h N0 T n f i m xn an ((1, nI w) :: L) D W Y ot N) (hw : w ≤ 22) (hw1 : 1 ≤ w) (hl : L.length < 3000) : J b h M0 N0 T n cnt f N (fX3_take (nI (lx_kt w)) M) (fun _ M' N' => M' = mv_si M 3 3 (nI (i + 1)) ∧ cO b M0 T n cnt f (i + 1) m nd M' ∧ rO h N0 T n f (i + 1) m xn an L D W Y ot N' ∧ rS N N') := by
  have ek := cO_kind hx.1 hc
  have hv := vk_k (T := T) (n := n) (s := lx_st T n i)
  have hv2 : lx_k T n (lx_st T n i) < 2 ^ 31 := by unfold vk at hv; omega
  obtain ⟨hr1, hs1⟩ := r_pop hr
  have et := rO_tk hr1
  have hg := g_type hr (by omega) hl
  have a6 := hr1.2.2.2.2.2.1
  have hwk : lx_kt w ≤ 308 ∧ lx_kt w ≠ 0 := by
    have : ∀ w, w ≤ 22 → lx_kt w ≤ 308 ∧ lx_kt w ≠ 0 := by decide
    exact this w hw
  unfold fX3_take
  refine J_bs ek ?_
  by_cases hq : lx_k T n (lx_st T n i) = lx_kt w
  · refine J_T (by rw [hq]) ?_
    obtain ⟨M', N', e1, e2, e3, e4⟩ := j_pass hx hc hr1 (by omega)
    have eP : fX11_parse_26 N = fX11_parse_26 N' := by
      refine P_go (hg.trans ?_)
      have eq : (nI (lx_tk (lx_k T n (lx_st T n i))) = nI w) = True := by rw [tkA hv (by omega)]; exact eq_true hq
      unfold fX11_onType fX11_want fX11_want_24
      simp (disch := omega) only [a6, et, eq, e2, k_iT, k_iF, Bool.false_eq_true, eq_self, Nat.add_zero, k_lt', k_bs, k_T, k_F, k_inb, k_ck, k_nz, ↓kN, kL, k_lt, k_le, k_eq, kn_le, kn_lt, kn_eq, kn_le', kn_lt', kn_eq', nI_clamp, nI_add, k_sub, k_mul, k_div, rd_hi, rd_mi, rd_hl, rd_ml, rd_hr, rd_mr, rd_si2, rd_sl1, rd_sl2, rd_sr1, rd_sr2]
    refine J_bs e1 (J_step eP ?_)
    rcases e4 with ⟨nb, pl, d1, d2⟩ | ⟨d1, d2, d3⟩
    · exact J_dead (ok_some d1) (P_fault d2)
    · exact J_some ⟨d1, d2, d3, rS_trans hs1 (rS_tk e3)⟩
  · refine J_F (by rw [k_eq hv2 (by omega)]; exact hq) ?_
    obtain ⟨M', e1, e2⟩ := cO_stop (v := 2) hx.1 hc (by omega) (by omega)
    obtain ⟨N', f1, f2, f3⟩ := r_stop (v := 2) hr1 (by omega) (by omega)
    have f4 := rFt_pass f2
    have eP : fX11_parse_26 N = fX11_parse_26 N' := by
      refine P_go (hg.trans ?_)
      have eq : (nI (lx_tk (lx_k T n (lx_st T n i))) = nI w) = False := by rw [tkA hv (by omega)]; exact eq_false hq
      have et2 := rO_ta hr1
      unfold fX11_onType fX11_want fX11_want_24
      simp (disch := omega) only [a6, et, et2, eq, f1, f4, k_iT, k_iF, Bool.false_eq_true, eq_self, Nat.add_zero, k_lt', k_bs, k_T, k_F, k_inb, k_ck, k_nz, ↓kN, kL, k_lt, k_le, k_eq, kn_le, kn_lt, kn_eq, kn_le', kn_lt', kn_eq', nI_clamp, nI_add, k_sub, k_mul, k_div, rd_hi, rd_mi, rd_hl, rd_ml, rd_hr, rd_mr, rd_si2, rd_sl1, rd_sl2, rd_sr1, rd_sr2]
    exact J_bs e1 (J_step eP (J_dead (ok_some e2) (P_fault f2)))
end JP
