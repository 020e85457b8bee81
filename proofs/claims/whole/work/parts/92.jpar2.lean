/-- what a parameter changes -/
def cPf (b f p nd : Nat) (M M' : mv_M) : Prop := (∀ c k, ¬ ((c = 1 ∧ k ≤ 1) ∨ (c = 3 ∧ k = 3) ∨ (c = b + 2 ∧ k = f) ∨ (c = b + 3 ∧ k = f) ∨ (c = b + 7 ∧ f * 16 + p ≤ k) ∨ (c = b ∧ k = 8) ∨ (b + 8 ≤ c ∧ c ≤ b + 14 ∧ nd ≤ k)) → M'.1 c k = M.1 c k) ∧ (∀ c k, ¬ (c = b + 6 ∧ f * 16 + p ≤ k) → M'.2.1 c k = M.2.1 c k)
def rPf (h f p : Nat) (N N' : mv_M) : Prop := (∀ c k, ¬ ((c = 62 ∧ ((3 ≤ k ∧ k ≤ 10) ∨ k = 32 ∨ k = 36 ∨ k = 38 ∨ k = 40 ∨ k = 41)) ∨ (c = 66 ∧ k = 12 * h + f) ∨ (c = 67 ∧ k = 12 * h + f) ∨ (c = 70 ∧ 16 * (12 * h + f) + p ≤ k) ∨ (80 ≤ c ∧ c ≤ 84)) → N'.1 c k = N.1 c k) ∧ (∀ c k, ¬ ((c = 62 ∧ k = 7) ∨ (c = 69 ∧ 16 * (12 * h + f) + p ≤ k)) → N'.2.1 c k = N.2.1 c k)
section PB
variable {b h n cnt f i m nd nb pl xn an ot p p1 : Nat} {M M' M0 M1 M2 N N' N0 N1 N2 : mv_M} {T : Nat → Nat}
theorem cPf_trans (a : cPf b f p nd M M1) (d : cPf b f p1 nd M1 M2) (h1 : p ≤ p1) : cPf b f p nd M M2 := ⟨fun c k z => (d.1 c k (by omega)).trans (a.1 c k z), fun c k z => (d.2 c k (by omega)).trans (a.2 c k z)⟩
theorem rPf_trans (a : rPf h f p N N1) (d : rPf h f p1 N1 N2) (h1 : p ≤ p1) : rPf h f p N N2 := ⟨fun c k z => (d.1 c k (by omega)).trans (a.1 c k z), fun c k z => (d.2 c k (by omega)).trans (a.2 c k z)⟩
theorem cD_addName2 {t : Int64} (hx : cX b M0 T n cnt) (h : cD b M0 T n cnt f nb pl M) : mv_ok (fX4_addName b (M.1 3 4) t M) (fun r M' => cD b M0 T n cnt f nb pl M' ∧ ((∃ j, j < 16 ∧ r = nI j) ∨ r = nN) ∧ ∀ k, M'.1 (b + 2) k = M.1 (b + 2) k) := by
  have key := cD_addName (t := t) hx h
  obtain ⟨hB, ⟨m, hm, h5⟩, ⟨nd, hnd, h6⟩⟩ := cD_B h
  obtain ⟨b1, b2, b3, b4, p, b5, b6⟩ := hB
  have hb := hx.1
  by_cases h16 : m < 16
  · have e : fX4_addName b (M.1 3 4) t M = some (nI m, mv_sl (mv_si M (b + 3) f (nI (m + 1))) (b + 6) (f * 16 + m) t) := by
      unfold fX4_addName fX4_hasFunction
      simp (disch := omega) only [b2, b4, h5, k_iT, k_iF, Bool.false_eq_true, eq_self, Nat.add_zero, k_lt', k_bs, k_T, k_F, k_inb, k_ck, k_nz, ↓kN, kL, k_lt, k_le, k_eq, kn_le, kn_lt, kn_eq, kn_le', kn_lt', kn_eq', nI_clamp, nI_add, k_sub, k_mul, k_div, rd_hi, rd_mi, rd_hl, rd_ml, rd_hr, rd_mr, rd_si2, rd_sl1, rd_sl2, rd_sr1, rd_sr2]
    rw [e] at key ⊢
    refine ok_some ⟨key, .inl ⟨m, h16, rfl⟩, fun k => ?_⟩
    simp (disch := omega) only [rd_hi, rd_mi, rd_hl, rd_ml, rd_hr, rd_mr, rd_si2, rd_sl1, rd_sl2, rd_sr1, rd_sr2]
  · have e : fX4_addName b (M.1 3 4) t M = some (nN, M) := by
      unfold fX4_addName fX4_hasFunction
      simp (disch := omega) only [b2, b4, h5, k_iT, k_iF, Bool.false_eq_true, eq_self, Nat.add_zero, k_lt', k_bs, k_T, k_F, k_inb, k_ck, k_nz, ↓kN, kL, k_lt, k_le, k_eq, kn_le, kn_lt, kn_eq, kn_le', kn_lt', kn_eq', nI_clamp, nI_add, k_sub, k_mul, k_div, rd_hi, rd_mi, rd_hl, rd_ml, rd_hr, rd_mr, rd_si2, rd_sl1, rd_sl2, rd_sr1, rd_sr2]
    rw [e] at key ⊢
    exact ok_some ⟨key, .inr rfl, fun _ => rfl⟩
theorem cD_par (hb : b = 9 ∨ b = 24) (h : cD b M0 T n cnt f nb pl M) (hp : p + 1 ≤ 4) : cD b M0 T n cnt f nb pl (mv_si M (b + 2) f (nI (p + 1))) := by
  obtain ⟨⟨b1, b2, b3, b4, _⟩, ⟨m, hm, h5⟩, ⟨nd, hnd, h6⟩⟩ := cD_B h
  have hB2 : cB b M0 f (mv_si M (b + 2) f (nI (p + 1))) := ⟨cW_si b1 (by omega), by simp (disch := omega) only [rd_hi, rd_mi, rd_hl, rd_ml, rd_hr, rd_mr, rd_si2, rd_sl1, rd_sl2, rd_sr1, rd_sr2]; exact b2, b3, by simp (disch := omega) only [rd_hi, rd_mi, rd_hl, rd_ml, rd_hr, rd_mr, rd_si2, rd_sl1, rd_sl2, rd_sr1, rd_sr2]; exact b4, p + 1, hp, by simp (disch := omega) only [rd_hi, rd_mi, rd_hl, rd_ml, rd_hr, rd_mr, rd_si2, rd_sl1, rd_sl2, rd_sr1, rd_sr2]⟩
  rcases h with ⟨_, _, _, h3, r1, r2, r3, r4⟩ | ⟨_, _, _, hnb, i, hi, hi2, h3, hk, hpl, r1⟩
  · exact .inl ⟨hB2, ⟨m, hm, by simp (disch := omega) only [rd_hi, rd_mi, rd_hl, rd_ml, rd_hr, rd_mr, rd_si2, rd_sl1, rd_sl2, rd_sr1, rd_sr2]; exact h5⟩, ⟨nd, hnd, by simp (disch := omega) only [rd_hi, rd_mi, rd_hl, rd_ml, rd_hr, rd_mr, rd_si2, rd_sl1, rd_sl2, rd_sr1, rd_sr2]; exact h6⟩, by simp (disch := omega) only [rd_hi, rd_mi, rd_hl, rd_ml, rd_hr, rd_mr, rd_si2, rd_sl1, rd_sl2, rd_sr1, rd_sr2]; exact h3, by simp (disch := omega) only [rd_hi, rd_mi, rd_hl, rd_ml, rd_hr, rd_mr, rd_si2, rd_sl1, rd_sl2, rd_sr1, rd_sr2]; exact r1, r2, r3, by simp (disch := omega) only [rd_hi, rd_mi, rd_hl, rd_ml, rd_hr, rd_mr, rd_si2, rd_sl1, rd_sl2, rd_sr1, rd_sr2]; exact r4⟩
  · exact .inr ⟨hB2, ⟨m, hm, by simp (disch := omega) only [rd_hi, rd_mi, rd_hl, rd_ml, rd_hr, rd_mr, rd_si2, rd_sl1, rd_sl2, rd_sr1, rd_sr2]; exact h5⟩, ⟨nd, hnd, by simp (disch := omega) only [rd_hi, rd_mi, rd_hl, rd_ml, rd_hr, rd_mr, rd_si2, rd_sl1, rd_sl2, rd_sr1, rd_sr2]; exact h6⟩, hnb, i, hi, hi2, by simp (disch := omega) only [rd_hi, rd_mi, rd_hl, rd_ml, rd_hr, rd_mr, rd_si2, rd_sl1, rd_sl2, rd_sr1, rd_sr2]; exact h3, hk, hpl, by simp (disch := omega) only [rd_hi, rd_mi, rd_hl, rd_ml, rd_hr, rd_mr, rd_si2, rd_sl1, rd_sl2, rd_sr1, rd_sr2]; exact r1⟩
theorem cD_setT {r t : Int32} (hx : cX b M0 T n cnt) (h : cD b M0 T n cnt f nb pl M) (hr : (∃ j, j < 16 ∧ r = nI j) ∨ r = nN) : mv_ok (fX4_setNameType b (nI f) r t M) (fun _ M' => cD b M0 T n cnt f nb pl M') := by
  obtain ⟨⟨b1, b2, b3, b4, _⟩, ⟨m, hm, h5⟩, ⟨nd, hnd, h6⟩⟩ := cD_B h
  have hb := hx.1
  unfold fX4_setNameType fX4_hasName fX4_hasFunction
  rcases hr with ⟨j, hj, rfl⟩ | rfl
  · by_cases hjm : j < m
    · have a9 : f * 16 + j < 192 := by omega
      refine ok_eq (r := ()) (M := mv_si M (b + 7) (f * 16 + j) t) ?_ (cD_si hb h (by omega))
      simp (disch := omega) only [b4, h5, k_iT, k_iF, Bool.false_eq_true, eq_self, Nat.add_zero, k_lt', k_bs, k_T, k_F, k_inb, k_ck, k_nz, ↓kN, kL, k_lt, k_le, k_eq, kn_le, kn_lt, kn_eq, kn_le', kn_lt', kn_eq', nI_clamp, nI_add, k_sub, k_mul, k_div, rd_hi, rd_mi, rd_hl, rd_ml, rd_hr, rd_mr, rd_si2, rd_sl1, rd_sl2, rd_sr1, rd_sr2]
    · refine ok_eq (r := ()) (M := M) ?_ h
      simp (disch := omega) only [b4, h5, k_iT, k_iF, Bool.false_eq_true, eq_self, Nat.add_zero, k_lt', k_bs, k_T, k_F, k_inb, k_ck, k_nz, ↓kN, kL, k_lt, k_le, k_eq, kn_le, kn_lt, kn_eq, kn_le', kn_lt', kn_eq', nI_clamp, nI_add, k_sub, k_mul, k_div, rd_hi, rd_mi, rd_hl, rd_ml, rd_hr, rd_mr, rd_si2, rd_sl1, rd_sl2, rd_sr1, rd_sr2]
  · refine ok_eq (r := ()) (M := M) ?_ h
    simp (disch := omega) only [b4, h5, k_iT, k_iF, Bool.false_eq_true, eq_self, Nat.add_zero, k_lt', k_bs, k_T, k_F, k_inb, k_ck, k_nz, ↓kN, kL, k_lt, k_le, k_eq, kn_le, kn_lt, kn_eq, kn_le', kn_lt', kn_eq', nI_clamp, nI_add, k_sub, k_mul, k_div, rd_hi, rd_mi, rd_hl, rd_ml, rd_hr, rd_mr, rd_si2, rd_sl1, rd_sl2, rd_sr1, rd_sr2]
theorem cD_param90 {v : Int64} {s0 s1 : Int32} (hx : cX b M0 T n cnt) (h : cD b M0 T n cnt f nb pl M) : mv_ok (fX3_parseParam_90 v s0 s1 M) (fun _ M' => cD b M0 T n cnt f nb pl M') := by
  unfold fX3_parseParam_90
  refine ok_bind (ok_mono (cD_new hx h) (fun _ M5 h5 => ok_F ?_ (ok_some (.inl h5))))
  obtain ⟨_, _, _, _, r1, r2, r3, _⟩ := h5
  rw [r1, kM, k_eq (by omega) (by omega)]
  omega
/-- the rest of a parameter behind its name, in dead mode -/
theorem cD_prest {v : Int64} (hx : cX b M0 T n cnt) (h : cD b M0 T n cnt f nb pl M) (hp : M.1 (b + 2) f = nI p) (hp4 : p < 4) : mv_ok (if (M.1 1 0) = 0 then mv_getp (M.2.2 3 2) fun b11 => mv_bind (fX4_addName b11 (M.1 3 4) v M) fun r12 M13 => mv_getp (M13.2.2 3 2) fun b14 => mv_chk (mv_inb (M13.1 3 4) 12) <| mv_chk (mv_inb (M13.1 3 4) 12) <| mv_let (mv_si M13 (b14 + 2) (M13.1 3 4).toNatClampNeg ((M13.1 (b14 + 2) (M13.1 3 4).toNatClampNeg) + 1)) fun M17 => mv_bind (fX3_take 58 M17) fun _ M18 => mv_getp (M18.2.2 3 2) fun b19 => mv_bind (tX3_parseType 0 M18) fun r20 M21 => mv_bind (fX4_setNameType b19 (M18.1 3 4) r12 r20 M21) fun _ M22 => some ((), M22) else some ((), M)) (fun _ M' => cD b M0 T n cnt f nb pl M') := by
  have hb := hx.1
  refine ok_if (fun _ => ?_) (fun _ => ok_some h)
  refine cD_getp hx h (ok_bind (ok_mono (cD_addName2 hx h) (fun r12 M13 h13 => ?_)))
  obtain ⟨h1, h2, h3⟩ := h13
  have b2 := (cD_B h1).1.2.1
  have b3 := (cD_B h1).1.2.2.1
  refine cD_getp hx h1 ?_
  have e1 : mv_inb (M13.1 3 4) 12 = true := by rw [b2]; exact k_inb b3 (by omega)
  rw [e1, k_ck, k_ck, b2, nI_clamp (by omega), h3, hp, k_lt', nI_1]
  refine cD_bindR (cD_take' hx (cD_par hb h1 (by omega)) (by decide) (by decide)) (fun _ M18 h18 => ?_)
  have b4 := (cD_B h18).1.2.1
  refine cD_getp hx h18 ?_
  rw [b4]
  exact cD_bindR (cD_tType hx h18) (fun r20 M21 h21 => cD_bind (cD_setT hx h21 h2) (fun _ _ h22 => ok_some h22))
theorem ok_ex {α : Type} {o : Option (α × mv_M)} {Q : α → mv_M → Prop} (a : mv_ok o Q) : ∃ r M', o = some (r, M') ∧ Q r M' := by
  cases o with
  | none => exact absurd a id
  | some q => exact ⟨q.1, q.2, rfl, a⟩
set_option maxHeartbeats 4000000 in
theorem j_param (hx : pX b h M0 N0 T n cnt f) (hc : cO b M0 T n cnt f i p nd M) (hp : M.1 (b + 2) f = nI p) (hr : rA h N0 T n f i p xn an N) (hp' : N.1 66 (12 * h + f) = nI p) (hp4 : p ≤ 4) (hnm : NM b h f 0 p M N) : ∃ M', fX3_parseParam M = some ((), M') ∧ ((∃ nb pl N', cD b M0 T n cnt f nb pl M' ∧ rFt h f N0 nb pl N' ∧ gX11_definition_210 (nI 1) N = some (.inl (nI 0), N')) ∨ (∃ i' N' y, p < 4 ∧ y ≤ 4 ∧ i < i' ∧ cO b M0 T n cnt f i' (p + 1) nd M' ∧ M'.1 (b + 2) f = nI (p + 1) ∧ rA h N0 T n f i' (p + 1) xn an N' ∧ N'.1 66 (12 * h + f) = nI (p + 1) ∧ NM b h f 0 (p + 1) M' N' ∧ M'.1 (b + 7) (f * 16 + p) = nI y ∧ N'.1 70 (16 * (12 * h + f) + p) = nI y ∧ cPf b f p nd M M' ∧ rPf h f p N N' ∧ gX11_definition_210 (nI 1) N = (if N'.1 62 4 = nI 16 then fX11_definition_285 (nI 1) N' else fX11_definition_284 N'))) := by
  have hb := hx.1.1
  have hh := hx.2.2.1
  have hf := hx.2.2.2
  have hi1 := hc.2.2.2.1
  have ek := cO_kind hx.1 hc
  have hv1 := vk_k (T := T) (n := n) (s := lx_st T n i)
  have hv2 : lx_k T n (lx_st T n i) < 2 ^ 31 := by unfold vk at hv1; omega
  obtain ⟨v, ev, hv⟩ := cO_text hx.1 hc
  obtain ⟨s, s1, s2, s3⟩ := c_known (v := v) hx.1 hc hp hp4 (Nat.le_refl _) p 0 0 (by omega) (by omega) ⟨fun z => by omega, fun ⟨j, z, _⟩ => by omega⟩
  obtain ⟨⟨r1, r2, r3, r4, r5, r6⟩, r7, r8, r9⟩ := id hr
  have et := r4.2.1
  have et2 := r4.1
  have eC : fX3_parseParam M = fX3_parseParam_90 v (nI (if p < 4 then 0 else 1)) (nI s) M := by
    unfold fX3_parseParam
    rw [hc.2.1, ev, k_bs]
    exact s3
  rw [eC]
  have t10 := tkA hv1 (r := 10) (by omega)
  rw [kt10] at t10
  -- stopping
  have stopC : ∀ (w : Nat), 2 ≤ w → w ≤ 6 → fX3_takeNewName (nI s) (nI (if p < 4 then 0 else 1)) M = (mv_bind (fX3_stop (nI w) M) fun _ M' => some ((), M')) → ∃ M', fX3_parseParam_90 v (nI (if p < 4 then 0 else 1)) (nI s) M = some ((), M') ∧ cD b M0 T n cnt f w (lx_st T n i) M' := by
    intro w w1 w2 hw
    obtain ⟨M', e1, e2⟩ := cO_stop (v := w) hx.1 hc w1 w2
    refine ⟨M', ?_, e2⟩
    unfold fX3_parseParam_90
    rw [hw, e1, k_bs, k_bs]
    rcases e2 with ⟨_, _, _, _, g1, g2, g3, _⟩ | ⟨_, _, _, g1, _⟩
    · rw [g1, if_neg (by rw [kM, k_eq (by omega) (by omega)]; omega)]
    · omega
  have stopR : ∀ (w : Nat) (N' : mv_M), rFt h f N0 w (lx_st T n i) N' → fX11_name (nI 1) N = some (nI 0, N') → ∃ N'', gX11_definition_210 (nI 1) N = some (.inl (nI 0), N'') ∧ rFt h f N0 w (lx_st T n i) N'' := by
    intro w N' q1 q2
    obtain ⟨N'', q3, q4⟩ := rFt_240 (k := 0) hh hf q1 (by omega)
    refine ⟨N'', ?_, q4⟩
    obtain ⟨g1, g2, g3, _⟩ := q1
    unfold gX11_definition_210
    simp (disch := omega) only [q2, g1, q3, k_iT, k_iF, Bool.false_eq_true, eq_self, Nat.add_zero, k_lt', k_bs, k_T, k_F, k_inb, k_ck, k_nz, ↓kN, kL, k_lt, k_le, k_eq, kn_le, kn_lt, kn_eq, kn_le', kn_lt', kn_eq', nI_clamp, nI_add, k_sub, k_mul, k_div, rd_hi, rd_mi, rd_hl, rd_ml, rd_hr, rd_mr, rd_si2, rd_sl1, rd_sl2, rd_sr1, rd_sr2]
  by_cases h2 : lx_k T n (lx_st T n i) = 2
  · have hv' := hv (.inl h2)
    have hkey := (r4.2.2.2.1 h2).trans hv'.symm
    rw [h2] at ek et
    obtain ⟨s', t1, t2, t3⟩ := r_known (v := v) hh hf r2 hp' hp4 p 0 0 (by omega) (by omega) ⟨fun z => by omega, fun ⟨j, z, _⟩ => by omega⟩
    have hss : s' = s := by
      have : s' = 1 ↔ s = 1 := by
        rw [t2, s2]
        constructor
        · rintro ⟨j, j1, j2⟩; exact ⟨j, j1, (hnm j (by omega) j1).trans j2⟩
        · rintro ⟨j, j1, j2⟩; exact ⟨j, j1, (hnm j (by omega) j1).symm.trans j2⟩
      omega
    subst hss
    have ip : fX11_isParam v N = some (nI s', N) := by
      unfold fX11_isParam
      exact t3
    by_cases hs1 : s' = 1
    · subst hs1
      obtain ⟨M', c1, c2⟩ := stopC 3 (by omega) (by omega) (by unfold fX3_takeNewName; simp (disch := omega) only [ek, k_iT, k_iF, Bool.false_eq_true, eq_self, Nat.add_zero, k_lt', k_bs, k_T, k_F, k_inb, k_ck, k_nz, ↓kN, kL, k_lt, k_le, k_eq, kn_le, kn_lt, kn_eq, kn_le', kn_lt', kn_eq', nI_clamp, nI_add, k_sub, k_mul, k_div, rd_hi, rd_mi, rd_hl, rd_ml, rd_hr, rd_mr, rd_si2, rd_sl1, rd_sl2, rd_sr1, rd_sr2])
      obtain ⟨N', f1, f2⟩ := rA_stop (v := 3) hr.1 (by omega) (by omega)
      have e5 : fX11_name (nI 1) N = some (nI 0, N') := by
        obtain ⟨g1, g2, g3, _⟩ := f2
        unfold fX11_name fX11_name_25 fX11_name_56 fX11_name_104
        simp (disch := omega) only [r6, et, et2, show lx_tk 2 = 10 from rfl, hkey, ip, f1, g1, k_iT, k_iF, Bool.false_eq_true, eq_self, Nat.add_zero, k_lt', k_bs, k_T, k_F, k_inb, k_ck, k_nz, ↓kN, kL, k_lt, k_le, k_eq, kn_le, kn_lt, kn_eq, kn_le', kn_lt', kn_eq', nI_clamp, nI_add, k_sub, k_mul, k_div, rd_hi, rd_mi, rd_hl, rd_ml, rd_hr, rd_mr, rd_si2, rd_sl1, rd_sl2, rd_sr1, rd_sr2]
      obtain ⟨N'', f3, f4⟩ := stopR 3 N' f2 e5
      exact ⟨M', c1, .inl ⟨3, _, N'', c2, f4, f3⟩⟩
    · obtain rfl : s' = 0 := by omega
      by_cases hp5 : p < 4
      · -- the name is taken
        rw [if_pos hp5]
        have hr2 : rC h N0 T n f i (p + 1) (mv_si (mv_sl N 69 (16 * (12 * h + f) + p) v) 67 (12 * h + f) (nI (p + 1))) := ⟨rW_si (rW_sl r1 (by unfold rWa; omega)) (by unfold rWa; omega), by simp (disch := omega) only [rd_hi, rd_mi, rd_hl, rd_ml, rd_hr, rd_mr, rd_si2, rd_sl1, rd_sl2, rd_sr1, rd_sr2]; exact r2, by simp (disch := omega) only [rd_hi, rd_mi, rd_hl, rd_ml, rd_hr, rd_mr, rd_si2, rd_sl1, rd_sl2, rd_sr1, rd_sr2], r_at_congr r4 (fun j _ _ => by simp (disch := omega) only [rd_hi, rd_mi, rd_hl, rd_ml, rd_hr, rd_mr, rd_si2, rd_sl1, rd_sl2, rd_sr1, rd_sr2]) (by simp (disch := omega) only [rd_hi, rd_mi, rd_hl, rd_ml, rd_hr, rd_mr, rd_si2, rd_sl1, rd_sl2, rd_sr1, rd_sr2]), by simp (disch := omega) only [rd_hi, rd_mi, rd_hl, rd_ml, rd_hr, rd_mr, rd_si2, rd_sl1, rd_sl2, rd_sr1, rd_sr2]; exact r5, by simp (disch := omega) only [rd_hi, rd_mi, rd_hl, rd_ml, rd_hr, rd_mr, rd_si2, rd_sl1, rd_sl2, rd_sr1, rd_sr2]; exact r6⟩
        obtain ⟨M1, N1, e1, e2, e4⟩ := j_pass0 hx hc hr2 (by omega)
        have a1 : 16 * (12 * h + f) + p < 384 := by omega
        have eN : fX11_name (nI 1) N = some (nI p, N1) := by
          unfold fX11_name fX11_name_25 fX11_name_56 fX11_name_80 fX11_name_104
          simp (disch := omega) only [r6, et, show lx_tk 2 = 10 from rfl, hkey, ip, r2, hp', r3, e2, k_iT, k_iF, Bool.false_eq_true, eq_self, Nat.add_zero, k_lt', k_bs, k_T, k_F, k_inb, k_ck, k_nz, ↓kN, kL, k_lt, k_le, k_eq, kn_le, kn_lt, kn_eq, kn_le', kn_lt', kn_eq', nI_clamp, nI_add, k_sub, k_mul, k_div, rd_hi, rd_mi, rd_hl, rd_ml, rd_hr, rd_mr, rd_si2, rd_sl1, rd_sl2, rd_sr1, rd_sr2]
        have e90 : fX3_parseParam_90 v (nI 0) (nI 0) M = (fun M => if (M.1 1 0) = 0 then mv_getp (M.2.2 3 2) fun b11 => mv_bind (fX4_addName b11 (M.1 3 4) v M) fun r12 M13 => mv_getp (M13.2.2 3 2) fun b14 => mv_chk (mv_inb (M13.1 3 4) 12) <| mv_chk (mv_inb (M13.1 3 4) 12) <| mv_let (mv_si M13 (b14 + 2) (M13.1 3 4).toNatClampNeg ((M13.1 (b14 + 2) (M13.1 3 4).toNatClampNeg) + 1)) fun M17 => mv_bind (fX3_take 58 M17) fun _ M18 => mv_getp (M18.2.2 3 2) fun b19 => mv_bind (tX3_parseType 0 M18) fun r20 M21 => mv_bind (fX4_setNameType b19 (M18.1 3 4) r12 r20 M21) fun _ M22 => some ((), M22) else some ((), M)) M1 := by
          unfold fX3_parseParam_90 fX3_takeNewName
          rw [ek, k_bs, if_pos (show nI 2 = (2 : Int32) from rfl), if_pos (show nI 0 = (0 : Int32) from rfl), if_pos (show nI 0 = (0 : Int32) from rfl), e1, k_bs, k_bs]
        rw [e90]
        show ∃ M', (if (M1.1 1 0) = 0 then _ else _) = _ ∧ _
        rcases e4 with ⟨nb, pl, d1, d2⟩ | ⟨d1, d2, d3, d4⟩
        · have fr := (qX3_pass M _ M1 e1 (b + 2) f (by rcases hb with rfl | rfl <;> rfl)).1
          obtain ⟨_, M', k1, k2⟩ := ok_ex (cD_prest (v := v) hx.1 d1 (fr.trans hp) hp5)
          obtain ⟨N'', k3, k4⟩ := rFt_240 (k := p) hh hf d2 (by omega)
          refine ⟨M', k1, .inl ⟨nb, pl, N'', k2, k4, ?_⟩⟩
          obtain ⟨g1, g2, g3, _⟩ := d2
          unfold gX11_definition_210
          simp (disch := omega) only [eN, g1, k3, k_iT, k_iF, Bool.false_eq_true, eq_self, Nat.add_zero, k_lt', k_bs, k_T, k_F, k_inb, k_ck, k_nz, ↓kN, kL, k_lt, k_le, k_eq, kn_le, kn_lt, kn_eq, kn_le', kn_lt', kn_eq', nI_clamp, nI_add, k_sub, k_mul, k_div, rd_hi, rd_mi, rd_hl, rd_ml, rd_hr, rd_mr, rd_si2, rd_sl1, rd_sl2, rd_sr1, rd_sr2]
        · -- alive
          have z1 : M1.1 1 0 = nI 0 := d2.2.2.2.2.2.2.2.2.2
          have z2 : M1.1 3 4 = nI f := d2.1.2.1
          have z3 : M1.1 b 0 = nI (f + 1) := d2.1.2.2.2.1
          have z4 : M1.1 (b + 3) f = nI p := d2.2.2.2.2.2.1
          have z5 : M1.1 (b + 2) f = nI p := by rw [d1]; simp (disch := omega) only [rd_hi, rd_mi, rd_hl, rd_ml, rd_hr, rd_mr, rd_si2, rd_sl1, rd_sl2, rd_sr1, rd_sr2]; exact hp
          have gp := (cW_tok hx.1 d2.1.1).2.2.2.2
          have a9 : f * 16 + p < 192 := by omega
          have addn : fX4_addName b (M1.1 3 4) v M1 = some (nI p, mv_sl (mv_si M1 (b + 3) f (nI (p + 1))) (b + 6) (f * 16 + p) v) := by
            unfold fX4_addName fX4_hasFunction
            simp (disch := omega) only [z2, z3, z4, k_iT, k_iF, Bool.false_eq_true, eq_self, Nat.add_zero, k_lt', k_bs, k_T, k_F, k_inb, k_ck, k_nz, ↓kN, kL, k_lt, k_le, k_eq, kn_le, kn_lt, kn_eq, kn_le', kn_lt', kn_eq', nI_clamp, nI_add, k_sub, k_mul, k_div, rd_hi, rd_mi, rd_hl, rd_ml, rd_hr, rd_mr, rd_si2, rd_sl1, rd_sl2, rd_sr1, rd_sr2]
          have hc3 : cO b M0 T n cnt f (i + 1) (p + 1) nd (mv_si (mv_sl (mv_si M1 (b + 3) f (nI (p + 1))) (b + 6) (f * 16 + p) v) (b + 2) f (nI (p + 1))) := by
            obtain ⟨⟨c1, c2, c3, c4, _⟩, h3', hi', hi2', hk1', hm1', hm2', hnd', hnd2', h10'⟩ := d2
            exact ⟨⟨cW_si (cW_sl (cW_si c1 (by omega)) (by omega)) (by omega), by simp (disch := omega) only [rd_hi, rd_mi, rd_hl, rd_ml, rd_hr, rd_mr, rd_si2, rd_sl1, rd_sl2, rd_sr1, rd_sr2]; exact c2, c3, by simp (disch := omega) only [rd_hi, rd_mi, rd_hl, rd_ml, rd_hr, rd_mr, rd_si2, rd_sl1, rd_sl2, rd_sr1, rd_sr2]; exact c4, p + 1, by omega, by simp (disch := omega) only [rd_hi, rd_mi, rd_hl, rd_ml, rd_hr, rd_mr, rd_si2, rd_sl1, rd_sl2, rd_sr1, rd_sr2]⟩, by simp (disch := omega) only [rd_hi, rd_mi, rd_hl, rd_ml, rd_hr, rd_mr, rd_si2, rd_sl1, rd_sl2, rd_sr1, rd_sr2]; exact h3', hi', hi2', hk1', by simp (disch := omega) only [rd_hi, rd_mi, rd_hl, rd_ml, rd_hr, rd_mr, rd_si2, rd_sl1, rd_sl2, rd_sr1, rd_sr2], by omega, by simp (disch := omega) only [rd_hi, rd_mi, rd_hl, rd_ml, rd_hr, rd_mr, rd_si2, rd_sl1, rd_sl2, rd_sr1, rd_sr2]; exact hnd', hnd2', by simp (disch := omega) only [rd_hi, rd_mi, rd_hl, rd_ml, rd_hr, rd_mr, rd_si2, rd_sl1, rd_sl2, rd_sr1, rd_sr2]; exact h10'⟩
          have hr3 : rA h N0 T n f (i + 1) (p + 1) xn an (mv_si N1 66 (12 * h + f) (nI (p + 1))) := by
            obtain ⟨c1, c2, c3, c4, c5, c6⟩ := d3
            refine ⟨⟨rW_si c1 (by unfold rWa; omega), by simp (disch := omega) only [rd_hi, rd_mi, rd_hl, rd_ml, rd_hr, rd_mr, rd_si2, rd_sl1, rd_sl2, rd_sr1, rd_sr2]; exact c2, by simp (disch := omega) only [rd_hi, rd_mi, rd_hl, rd_ml, rd_hr, rd_mr, rd_si2, rd_sl1, rd_sl2, rd_sr1, rd_sr2]; exact c3, r_at_congr c4 (fun j _ _ => by simp (disch := omega) only [rd_hi, rd_mi, rd_hl, rd_ml, rd_hr, rd_mr, rd_si2, rd_sl1, rd_sl2, rd_sr1, rd_sr2]) rfl, by simp (disch := omega) only [rd_hi, rd_mi, rd_hl, rd_ml, rd_hr, rd_mr, rd_si2, rd_sl1, rd_sl2, rd_sr1, rd_sr2]; exact c5, by simp (disch := omega) only [rd_hi, rd_mi, rd_hl, rd_ml, rd_hr, rd_mr, rd_si2, rd_sl1, rd_sl2, rd_sr1, rd_sr2]; exact c6⟩, ?_, ?_, ?_⟩
            · simp (disch := omega) only [rd_hi, rd_mi, rd_hl, rd_ml, rd_hr, rd_mr, rd_si2, rd_sl1, rd_sl2, rd_sr1, rd_sr2]; rw [d4.1 _ _ (by omega)]; simp (disch := omega) only [rd_hi, rd_mi, rd_hl, rd_ml, rd_hr, rd_mr, rd_si2, rd_sl1, rd_sl2, rd_sr1, rd_sr2]; exact r7
            · simp (disch := omega) only [rd_hi, rd_mi, rd_hl, rd_ml, rd_hr, rd_mr, rd_si2, rd_sl1, rd_sl2, rd_sr1, rd_sr2]; rw [d4.1 _ _ (by omega)]; simp (disch := omega) only [rd_hi, rd_mi, rd_hl, rd_ml, rd_hr, rd_mr, rd_si2, rd_sl1, rd_sl2, rd_sr1, rd_sr2]; exact r8
            · simp (disch := omega) only [rd_hi, rd_mi, rd_hl, rd_ml, rd_hr, rd_mr, rd_si2, rd_sl1, rd_sl2, rd_sr1, rd_sr2]; rw [d4.1 _ _ (by omega)]; simp (disch := omega) only [rd_hi, rd_mi, rd_hl, rd_ml, rd_hr, rd_mr, rd_si2, rd_sl1, rd_sl2, rd_sr1, rd_sr2]; exact r9
          have p66 : N1.1 66 (12 * h + f) = nI p := by rw [d4.1 _ _ (by omega)]; simp (disch := omega) only [rd_hi, rd_mi, rd_hl, rd_ml, rd_hr, rd_mr, rd_si2, rd_sl1, rd_sl2, rd_sr1, rd_sr2]; exact hp'
          have n33 : N1.1 62 33 = nI (12 * h + f) := d3.2.1
          have n9 : N1.1 62 9 = nI 0 := d3.2.2.2.2.2
          obtain ⟨M4, N4, w1, w2, w3⟩ := j_want (w := 18) hx hc3 hr3 (by omega) (by omega)
          rw [kt18] at w1
          have hd58 : ∀ (M18 : mv_M) (r12 : Int32), fX3_take (nI 58) (mv_si (mv_sl (mv_si M1 (b + 3) f (nI (p + 1))) (b + 6) (f * 16 + p) v) (b + 2) f (nI (p + 1))) = some ((), M18) → (if (M1.1 1 0) = 0 then mv_getp (M1.2.2 3 2) fun b11 => mv_bind (fX4_addName b11 (M1.1 3 4) v M1) fun r12 M13 => mv_getp (M13.2.2 3 2) fun b14 => mv_chk (mv_inb (M13.1 3 4) 12) <| mv_chk (mv_inb (M13.1 3 4) 12) <| mv_let (mv_si M13 (b14 + 2) (M13.1 3 4).toNatClampNeg ((M13.1 (b14 + 2) (M13.1 3 4).toNatClampNeg) + 1)) fun M17 => mv_bind (fX3_take 58 M17) fun _ M18 => mv_getp (M18.2.2 3 2) fun b19 => mv_bind (tX3_parseType 0 M18) fun r20 M21 => mv_bind (fX4_setNameType b19 (M18.1 3 4) r12 r20 M21) fun _ M22 => some ((), M22) else some ((), M1)) = (mv_getp (M18.2.2 3 2) fun b19 => mv_bind (tX3_parseType 0 M18) fun r20 M21 => mv_bind (fX4_setNameType b19 (M18.1 3 4) (nI p) r20 M21) fun _ M22 => some ((), M22)) := by
            intro M18 r12 hw
            have hb2 : (decide (b = 9) || decide (b = 24)) = true := by simpa using hb
            have gq : ∀ (X : mv_M) {β : Type} (F : Nat → Option β), X.2.2 3 2 = some b → mv_getp (X.2.2 3 2) F = F b := by
              intro X β F e
              rw [e]
              show mv_chk (decide (b = 9) || decide (b = 24)) (F b) = F b
              rw [hb2]; rfl
            rw [if_pos (show M1.1 1 0 = (0 : Int32) from z1), gq M1 _ gp, addn, k_bs, gq (mv_sl (mv_si M1 (b + 3) f (nI (p + 1))) (b + 6) (f * 16 + p) v) _ gp]
            have y1 : (mv_sl (mv_si M1 (b + 3) f (nI (p + 1))) (b + 6) (f * 16 + p) v).1 3 4 = nI f := by simp (disch := omega) only [rd_hi, rd_mi, rd_hl, rd_ml, rd_hr, rd_mr, rd_si2, rd_sl1, rd_sl2, rd_sr1, rd_sr2]; exact z2
            have y2 : (mv_sl (mv_si M1 (b + 3) f (nI (p + 1))) (b + 6) (f * 16 + p) v).1 (b + 2) f = nI p := by simp (disch := omega) only [rd_hi, rd_mi, rd_hl, rd_ml, rd_hr, rd_mr, rd_si2, rd_sl1, rd_sl2, rd_sr1, rd_sr2]; exact z5
            rw [y1, k_inb (by omega) (by omega), k_ck, k_ck, nI_clamp (by omega), y2, k_lt', nI_1]
            show mv_bind (fX3_take (nI 58) _) _ = _
            rw [hw, k_bs]
          rw [hd58 M4 0 w1]
          have refE : ∀ N18 : mv_M, fX11_want (nI 18) (mv_si N1 66 (12 * h + f) (nI (p + 1))) = some ((), N18) → gX11_definition_210 (nI 1) N = (mv_bind (fX11_type N18) fun r34 M35 => mv_chk (mv_inb ((16 * (N18.1 62 33)) + nI p) 384) <| mv_let (mv_si M35 70 ((16 * (N18.1 62 33)) + nI p).toNatClampNeg r34) fun M37 => if (M37.1 62 9) = 0 then if (M37.1 62 4) = 16 then fX11_definition_285 1 M37 else fX11_definition_284 M37 else fX11_definition_284 M37) := by
            intro N18 hw
            unfold gX11_definition_210 fX11_definition_240
            simp (disch := omega) only [eN, n9, n33, p66, hw, k_iT, k_iF, Bool.false_eq_true, eq_self, Nat.add_zero, k_lt', k_bs, k_T, k_F, k_inb, k_ck, k_nz, ↓kN, kL, k_lt, k_le, k_eq, kn_le, kn_lt, kn_eq, kn_le', kn_lt', kn_eq', nI_clamp, nI_add, k_sub, k_mul, k_div, rd_hi, rd_mi, rd_hl, rd_ml, rd_hr, rd_mr, rd_si2, rd_sl1, rd_sl2, rd_sr1, rd_sr2]
          rw [refE N4 w2]
          have hdead : ∀ nb pl, cD b M0 T n cnt f nb pl M4 → rFt h f N0 nb pl N4 → ∃ M' N', (mv_getp (M4.2.2 3 2) fun b19 => mv_bind (tX3_parseType 0 M4) fun r20 M21 => mv_bind (fX4_setNameType b19 (M4.1 3 4) (nI p) r20 M21) fun _ M22 => some ((), M22)) = some ((), M') ∧ cD b M0 T n cnt f nb pl M' ∧ rFt h f N0 nb pl N' ∧ (mv_bind (fX11_type N4) fun r34 M35 => mv_chk (mv_inb ((16 * (N4.1 62 33)) + nI p) 384) <| mv_let (mv_si M35 70 ((16 * (N4.1 62 33)) + nI p).toNatClampNeg r34) fun M37 => if (M37.1 62 9) = 0 then if (M37.1 62 4) = 16 then fX11_definition_285 1 M37 else fX11_definition_284 M37 else fX11_definition_284 M37) = some (.inl (nI 0), N') := by
            intro nb pl u1 u2
            have b4 := (cD_B u1).1.2.1
            have key : mv_ok (mv_getp (M4.2.2 3 2) fun b19 => mv_bind (tX3_parseType 0 M4) fun r20 M21 => mv_bind (fX4_setNameType b19 (M4.1 3 4) (nI p) r20 M21) fun _ M22 => some ((), M22)) (fun _ M' => cD b M0 T n cnt f nb pl M') := by
              refine cD_getp hx.1 u1 ?_
              rw [b4]
              exact cD_bindR (cD_tType hx.1 u1) (fun r20 M21 h21 => cD_bind (cD_setT hx.1 h21 (.inl ⟨p, by omega, rfl⟩)) (fun _ _ h22 => ok_some h22))
            obtain ⟨_, M', k1, k2⟩ := ok_ex key
            refine ⟨M', mv_si N4 70 (16 * (12 * h + f) + p) (nI 0), k1, k2, rFt_si u2 hh (by omega), ?_⟩
            have e2 := rFt_type u2
            obtain ⟨g1, g2, g3, g4, g5, g6⟩ := u2
            unfold fX11_definition_284 fX11_definition_285 fX11_definition_294
            simp (disch := omega) only [e2, g6, g1, k_iT, k_iF, Bool.false_eq_true, eq_self, Nat.add_zero, k_lt', k_bs, k_T, k_F, k_inb, k_ck, k_nz, ↓kN, kL, k_lt, k_le, k_eq, kn_le, kn_lt, kn_eq, kn_le', kn_lt', kn_eq', nI_clamp, nI_add, k_sub, k_mul, k_div, rd_hi, rd_mi, rd_hl, rd_ml, rd_hr, rd_mr, rd_si2, rd_sl1, rd_sl2, rd_sr1, rd_sr2]
          rcases w3 with ⟨nb, pl, u1, u2⟩ | ⟨nb, pl, u1, u2⟩ | ⟨u0, u1, u2, u3⟩
          · obtain ⟨M', N', k1, k2, k3, k4⟩ := hdead nb pl (.inl u1) u2
            exact ⟨M', k1, .inl ⟨nb, pl, N', k2, k3, k4⟩⟩
          · obtain ⟨M', N', k1, k2, k3, k4⟩ := hdead nb pl u1 u2
            exact ⟨M', k1, .inl ⟨nb, pl, N', k2, k3, k4⟩⟩
          obtain ⟨r, M5, sv, N5, k1, k2, k3⟩ := j_ty hx u1 u2
          have q33 : N4.1 62 33 = nI (12 * h + f) := u2.1.2.1
          have q34 : M4.1 3 4 = nI f := u1.1.2.1
          have gp4 := (cW_tok hx.1 u1.1.1).2.2.2.2
          have hb2 : (decide (b = 9) || decide (b = 24)) = true := by simpa using hb
          rcases k3 with ⟨nb, pl, v1, v2, rfl⟩ | ⟨i', y, rfl, rfl, v1, v2, v3, v4, v5, v6⟩
          · have key : mv_ok (mv_getp (M4.2.2 3 2) fun b19 => mv_bind (tX3_parseType 0 M4) fun r20 M21 => mv_bind (fX4_setNameType b19 (M4.1 3 4) (nI p) r20 M21) fun _ M22 => some ((), M22)) (fun _ M' => cD b M0 T n cnt f nb pl M') := by
              refine ok_getp gp4 hb ?_
              rw [q34, k1, k_bs]
              exact cD_bind (cD_setT hx.1 v1 (.inl ⟨p, by omega, rfl⟩)) (fun _ _ h22 => ok_some h22)
            obtain ⟨_, M', k4, k5⟩ := ok_ex key
            refine ⟨M', k4, .inl ⟨nb, pl, mv_si N5 70 (16 * (12 * h + f) + p) (nI 0), k5, rFt_si v2 hh (by omega), ?_⟩⟩
            obtain ⟨g1, g2, g3, g4, g5, g6⟩ := v2
            unfold fX11_definition_284 fX11_definition_285 fX11_definition_294
            simp (disch := omega) only [k2, q33, g1, k_iT, k_iF, Bool.false_eq_true, eq_self, Nat.add_zero, k_lt', k_bs, k_T, k_F, k_inb, k_ck, k_nz, ↓kN, kL, k_lt, k_le, k_eq, kn_le, kn_lt, kn_eq, kn_le', kn_lt', kn_eq', nI_clamp, nI_add, k_sub, k_mul, k_div, rd_hi, rd_mi, rd_hl, rd_ml, rd_hr, rd_mr, rd_si2, rd_sl1, rd_sl2, rd_sr1, rd_sr2]
          · have hm5 : M5.1 (b + 3) f = nI (p + 1) := v3.2.2.2.2.2.1
            have hb5 : M5.1 b 0 = nI (f + 1) := v3.1.2.2.2.1
            have n95 : N5.1 62 9 = nI 0 := v4.1.2.2.2.2.2
            have C1 : ∀ c k, ¬ ((c = 1 ∧ k ≤ 1) ∨ (c = 3 ∧ k = 3) ∨ (c = b + 2 ∧ k = f) ∨ (c = b + 3 ∧ k = f) ∨ (c = b ∧ k = 8) ∨ (b + 8 ≤ c ∧ c ≤ b + 14 ∧ nd ≤ k)) → M5.1 c k = M.1 c k := by
              intro c k u
              rw [v5.1 c k (by unfold cEa; omega), u0]
              simp (disch := omega) only [rd_hi, rd_mi, rd_hl, rd_ml, rd_hr, rd_mr, rd_si2, rd_sl1, rd_sl2, rd_sr1, rd_sr2]
              rw [d1]
              simp (disch := omega) only [rd_hi, rd_mi, rd_hl, rd_ml, rd_hr, rd_mr, rd_si2, rd_sl1, rd_sl2, rd_sr1, rd_sr2]
            have C2 : ∀ c k, ¬ (c = b + 6 ∧ f * 16 + p ≤ k) → M5.2.1 c k = M.2.1 c k := by
              intro c k u
              rw [v5.2 c k (by omega), u0]
              show (mv_sl _ _ _ _).2.1 c k = _
              simp (disch := omega) only [rd_hi, rd_mi, rd_hl, rd_ml, rd_hr, rd_mr, rd_si2, rd_sl1, rd_sl2, rd_sr1, rd_sr2]
              rw [d1]
              rfl
            refine ⟨mv_si M5 (b + 7) (f * 16 + p) (nI y), ?_, .inr ⟨i', mv_si N5 70 (16 * (12 * h + f) + p) (nI y), y, hp5, v1, by omega, ?_, ?_, ?_, ?_, fun k x1 x2 => ?_, by simp (disch := omega) only [rd_hi, rd_mi, rd_hl, rd_ml, rd_hr, rd_mr, rd_si2, rd_sl1, rd_sl2, rd_sr1, rd_sr2], by simp (disch := omega) only [rd_hi, rd_mi, rd_hl, rd_ml, rd_hr, rd_mr, rd_si2, rd_sl1, rd_sl2, rd_sr1, rd_sr2], ⟨fun c k x => ?_, fun c k x => ?_⟩, ⟨fun c k x => ?_, fun c k x => ?_⟩, ?_⟩⟩
            · rw [gp4]
              show mv_chk (decide (b = 9) || decide (b = 24)) _ = _
              rw [hb2, k_ck]
              show mv_bind (tX3_parseType 0 M4) (fun r20 M21 => mv_bind (fX4_setNameType b (M4.1 3 4) (nI p) r20 M21) fun _ M22 => some ((), M22)) = _
              rw [q34, k1, k_bs]
              unfold fX4_setNameType fX4_hasName fX4_hasFunction
              simp (disch := omega) only [hb5, hm5, k_iT, k_iF, Bool.false_eq_true, eq_self, Nat.add_zero, k_lt', k_bs, k_T, k_F, k_inb, k_ck, k_nz, ↓kN, kL, k_lt, k_le, k_eq, kn_le, kn_lt, kn_eq, kn_le', kn_lt', kn_eq', nI_clamp, nI_add, k_sub, k_mul, k_div, rd_hi, rd_mi, rd_hl, rd_ml, rd_hr, rd_mr, rd_si2, rd_sl1, rd_sl2, rd_sr1, rd_sr2]
            · obtain ⟨g1, g2, g3, g4, g5, g6, g7, g8, g9, g10⟩ := v3
              exact ⟨cB_si hb g1 (by omega), by simp (disch := omega) only [rd_hi, rd_mi, rd_hl, rd_ml, rd_hr, rd_mr, rd_si2, rd_sl1, rd_sl2, rd_sr1, rd_sr2]; exact g2, g3, g4, g5, by simp (disch := omega) only [rd_hi, rd_mi, rd_hl, rd_ml, rd_hr, rd_mr, rd_si2, rd_sl1, rd_sl2, rd_sr1, rd_sr2]; exact g6, g7, by simp (disch := omega) only [rd_hi, rd_mi, rd_hl, rd_ml, rd_hr, rd_mr, rd_si2, rd_sl1, rd_sl2, rd_sr1, rd_sr2]; exact g8, g9, by simp (disch := omega) only [rd_hi, rd_mi, rd_hl, rd_ml, rd_hr, rd_mr, rd_si2, rd_sl1, rd_sl2, rd_sr1, rd_sr2]; exact g10⟩
            · simp (disch := omega) only [rd_hi, rd_mi, rd_hl, rd_ml, rd_hr, rd_mr, rd_si2, rd_sl1, rd_sl2, rd_sr1, rd_sr2]
              rw [v5.1 _ _ (by unfold cEa; omega), u0]
              simp (disch := omega) only [rd_hi, rd_mi, rd_hl, rd_ml, rd_hr, rd_mr, rd_si2, rd_sl1, rd_sl2, rd_sr1, rd_sr2]
            · obtain ⟨⟨c1, c2, c3, c4, c5, c6⟩, c7, c8, c9⟩ := v4
              exact ⟨⟨rW_si c1 (by unfold rWa; omega), by simp (disch := omega) only [rd_hi, rd_mi, rd_hl, rd_ml, rd_hr, rd_mr, rd_si2, rd_sl1, rd_sl2, rd_sr1, rd_sr2]; exact c2, by simp (disch := omega) only [rd_hi, rd_mi, rd_hl, rd_ml, rd_hr, rd_mr, rd_si2, rd_sl1, rd_sl2, rd_sr1, rd_sr2]; exact c3, r_at_congr c4 (fun j _ _ => by simp (disch := omega) only [rd_hi, rd_mi, rd_hl, rd_ml, rd_hr, rd_mr, rd_si2, rd_sl1, rd_sl2, rd_sr1, rd_sr2]) rfl, by simp (disch := omega) only [rd_hi, rd_mi, rd_hl, rd_ml, rd_hr, rd_mr, rd_si2, rd_sl1, rd_sl2, rd_sr1, rd_sr2]; exact c5, by simp (disch := omega) only [rd_hi, rd_mi, rd_hl, rd_ml, rd_hr, rd_mr, rd_si2, rd_sl1, rd_sl2, rd_sr1, rd_sr2]; exact c6⟩, by simp (disch := omega) only [rd_hi, rd_mi, rd_hl, rd_ml, rd_hr, rd_mr, rd_si2, rd_sl1, rd_sl2, rd_sr1, rd_sr2]; exact c7, by simp (disch := omega) only [rd_hi, rd_mi, rd_hl, rd_ml, rd_hr, rd_mr, rd_si2, rd_sl1, rd_sl2, rd_sr1, rd_sr2]; exact c8, by simp (disch := omega) only [rd_hi, rd_mi, rd_hl, rd_ml, rd_hr, rd_mr, rd_si2, rd_sl1, rd_sl2, rd_sr1, rd_sr2]; exact c9⟩
            · simp (disch := omega) only [rd_hi, rd_mi, rd_hl, rd_ml, rd_hr, rd_mr, rd_si2, rd_sl1, rd_sl2, rd_sr1, rd_sr2]
              rw [v6.1 _ _ (by omega), u3.1 _ _ (by omega)]
              simp (disch := omega) only [rd_hi, rd_mi, rd_hl, rd_ml, rd_hr, rd_mr, rd_si2, rd_sl1, rd_sl2, rd_sr1, rd_sr2]
            · show M5.2.1 _ _ = N5.2.1 _ _
              rw [v6.2 _ _ (by omega), u3.2.1 _ _ (by omega)]
              show _ = N1.2.1 _ _
              rw [d4.2.1 _ _ (by omega)]
              by_cases hkp : k < p
              · rw [C2 _ _ (by omega)]
                simp (disch := omega) only [rd_hi, rd_mi, rd_hl, rd_ml, rd_hr, rd_mr, rd_si2, rd_sl1, rd_sl2, rd_sr1, rd_sr2]
                exact hnm k (by omega) hkp
              · obtain rfl : k = p := by omega
                rw [v5.2 _ _ (by omega), u0]
                simp (disch := omega) only [rd_hi, rd_mi, rd_hl, rd_ml, rd_hr, rd_mr, rd_si2, rd_sl1, rd_sl2, rd_sr1, rd_sr2]
            · simp (disch := omega) only [rd_hi, rd_mi, rd_hl, rd_ml, rd_hr, rd_mr, rd_si2, rd_sl1, rd_sl2, rd_sr1, rd_sr2]
              exact C1 c k (by omega)
            · exact C2 c k x
            · simp (disch := omega) only [rd_hi, rd_mi, rd_hl, rd_ml, rd_hr, rd_mr, rd_si2, rd_sl1, rd_sl2, rd_sr1, rd_sr2]
              rw [v6.1 _ _ (by omega), u3.1 _ _ (by omega)]
              simp (disch := omega) only [rd_hi, rd_mi, rd_hl, rd_ml, rd_hr, rd_mr, rd_si2, rd_sl1, rd_sl2, rd_sr1, rd_sr2]
              rw [d4.1 _ _ (by omega)]
              simp (disch := omega) only [rd_hi, rd_mi, rd_hl, rd_ml, rd_hr, rd_mr, rd_si2, rd_sl1, rd_sl2, rd_sr1, rd_sr2]
            · show N5.2.1 _ _ = _
              rw [v6.2 _ _ (by omega), u3.2.1 _ _ (by omega)]
              show N1.2.1 _ _ = _
              rw [d4.2.1 _ _ (by omega)]
              simp (disch := omega) only [rd_hi, rd_mi, rd_hl, rd_ml, rd_hr, rd_mr, rd_si2, rd_sl1, rd_sl2, rd_sr1, rd_sr2]
            · simp (disch := omega) only [k2, q33, n95, k_iT, k_iF, Bool.false_eq_true, eq_self, Nat.add_zero, k_lt', k_bs, k_T, k_F, k_inb, k_ck, k_nz, ↓kN, kL, k_lt, k_le, k_eq, kn_le, kn_lt, kn_eq, kn_le', kn_lt', kn_eq', nI_clamp, nI_add, k_sub, k_mul, k_div, rd_hi, rd_mi, rd_hl, rd_ml, rd_hr, rd_mr, rd_si2, rd_sl1, rd_sl2, rd_sr1, rd_sr2]
      · obtain rfl : p = 4 := by omega
        obtain ⟨M', c1, c2⟩ := stopC 6 (by omega) (by omega) (by unfold fX3_takeNewName; simp (disch := omega) only [ek, k_iT, k_iF, Bool.false_eq_true, eq_self, Nat.add_zero, k_lt', k_bs, k_T, k_F, k_inb, k_ck, k_nz, ↓kN, kL, k_lt, k_le, k_eq, kn_le, kn_lt, kn_eq, kn_le', kn_lt', kn_eq', nI_clamp, nI_add, k_sub, k_mul, k_div, rd_hi, rd_mi, rd_hl, rd_ml, rd_hr, rd_mr, rd_si2, rd_sl1, rd_sl2, rd_sr1, rd_sr2])
        obtain ⟨N', f1, f2⟩ := rA_stop (v := 6) hr.1 (by omega) (by omega)
        have e5 : fX11_name (nI 1) N = some (nI 0, N') := by
          obtain ⟨g1, g2, g3, _⟩ := f2
          unfold fX11_name fX11_name_25 fX11_name_56 fX11_name_94 fX11_name_104
          simp (disch := omega) only [r6, et, et2, show lx_tk 2 = 10 from rfl, hkey, ip, r2, hp', f1, g1, k_iT, k_iF, Bool.false_eq_true, eq_self, Nat.add_zero, k_lt', k_bs, k_T, k_F, k_inb, k_ck, k_nz, ↓kN, kL, k_lt, k_le, k_eq, kn_le, kn_lt, kn_eq, kn_le', kn_lt', kn_eq', nI_clamp, nI_add, k_sub, k_mul, k_div, rd_hi, rd_mi, rd_hl, rd_ml, rd_hr, rd_mr, rd_si2, rd_sl1, rd_sl2, rd_sr1, rd_sr2]
        obtain ⟨N'', f3, f4⟩ := stopR 6 N' f2 e5
        exact ⟨M', c1, .inl ⟨6, _, N'', c2, f4, f3⟩⟩
  · obtain ⟨M', c1, c2⟩ := stopC 2 (by omega) (by omega) (by unfold fX3_takeNewName; simp (disch := omega) only [ek, k_iT, k_iF, Bool.false_eq_true, eq_self, Nat.add_zero, k_lt', k_bs, k_T, k_F, k_inb, k_ck, k_nz, ↓kN, kL, k_lt, k_le, k_eq, kn_le, kn_lt, kn_eq, kn_le', kn_lt', kn_eq', nI_clamp, nI_add, k_sub, k_mul, k_div, rd_hi, rd_mi, rd_hl, rd_ml, rd_hr, rd_mr, rd_si2, rd_sl1, rd_sl2, rd_sr1, rd_sr2])
    obtain ⟨N', f1, f2⟩ := rA_stop (v := 2) hr.1 (by omega) (by omega)
    have e5 : fX11_name (nI 1) N = some (nI 0, N') := by
      have e3 := rFt_name (a := nI 1) f2
      simp only [kL] at e3
      unfold fX11_name
      simp (disch := omega) only [r6, et, et2, t10, h2, f1, e3, k_iT, k_iF, Bool.false_eq_true, eq_self, Nat.add_zero, k_lt', k_bs, k_T, k_F, k_inb, k_ck, k_nz, ↓kN, kL, k_lt, k_le, k_eq, kn_le, kn_lt, kn_eq, kn_le', kn_lt', kn_eq', nI_clamp, nI_add, k_sub, k_mul, k_div, rd_hi, rd_mi, rd_hl, rd_ml, rd_hr, rd_mr, rd_si2, rd_sl1, rd_sl2, rd_sr1, rd_sr2]
    obtain ⟨N'', f3, f4⟩ := stopR 2 N' f2 e5
    exact ⟨M', c1, .inl ⟨2, _, N'', c2, f4, f3⟩⟩
end PB
