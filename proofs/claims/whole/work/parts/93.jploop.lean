/-- parameters stand alike -/
def AP (b h : Nat) (M0 N0 : mv_M) (T : Nat → Nat) (n cnt f nd xn an i p : Nat) (M N : mv_M) : Prop := cO b M0 T n cnt f i p nd M ∧ M.1 (b + 2) f = nI p ∧ rA h N0 T n f i p xn an N ∧ N.1 66 (12 * h + f) = nI p ∧ p ≤ 4 ∧ NM b h f 0 p M N ∧ ∀ k, k < p → ∃ y, y ≤ 4 ∧ M.1 (b + 7) (f * 16 + k) = nI y ∧ N.1 70 (16 * (12 * h + f) + k) = nI y
section PL
variable {b h n cnt f i m nd nb pl xn an ot p p1 : Nat} {M M' M0 M1 M2 N N' N0 N1 N2 : mv_M} {T : Nat → Nat}
theorem cD_param (hx : cX b M0 T n cnt) (hd : cD b M0 T n cnt f nb pl M) : mv_ok (fX3_parseParam M) (fun _ M' => cD b M0 T n cnt f nb pl M') := by
  obtain ⟨⟨b1, b2, b3, b4, q, b5, b6⟩, ⟨m, hm, h5⟩, _⟩ := cD_B hd
  have e1 : mv_inb (nI f) 12 = true := k_inb b3 (by omega)
  unfold fX3_parseParam
  refine cD_textOf hx hd (fun v => ?_)
  have key : ∀ d k (s : Int32), k + d = q → mv_ok (fX3_parseParam_17 v s (nI k) M) (fun _ M' => cD b M0 T n cnt f nb pl M') := by
    intro d
    induction d with
    | zero =>
      intro k s hk
      unfold fX3_parseParam_17
      refine ok_loop ?_
      show mv_ok (gX3_parseParam_17 v s (nI k) M) _
      unfold gX3_parseParam_17
      refine cD_getp hx hd ?_
      rw [b2, e1, k_ck, nI_clamp (by omega), b6]
      refine ok_T (by rw [k_le (by omega) (by omega)]; omega) (cD_getp hx hd ?_)
      rw [k_ck]
      exact ok_if (fun _ => ok_inr (cD_param90 hx hd)) (fun _ => ok_inr (cD_param90 hx hd))
    | succ d ih =>
      intro k s hk
      unfold fX3_parseParam_17
      refine ok_loop ?_
      show mv_ok (gX3_parseParam_17 v s (nI k) M) _
      have goon : ∀ s' : Int32, mv_ok (fX3_parseParam_60 v (nI k) s' M) (fun t M' => match t with
          | .inl s' => mv_ok (mv_loop (fun (s : Int64 × Int32 × Int32) M => gX3_parseParam_17 s.1 s.2.1 s.2.2 M) s' M') (fun _ M' => cD b M0 T n cnt f nb pl M')
          | .inr r => cD b M0 T n cnt f nb pl M') := by
        intro s'
        unfold fX3_parseParam_60
        rw [k_lt', nI_1]
        exact ok_some (ih (k + 1) s' (by omega))
      unfold gX3_parseParam_17
      refine cD_getp hx hd ?_
      rw [b2, e1, k_ck, nI_clamp (by omega), b6]
      refine ok_F (by rw [k_le (by omega) (by omega)]; omega) (ok_if (fun _ => cD_getp hx hd ?_) (fun _ => ?_))
      · have isn : ∃ r, fX4_isNamed b (nI f) (nI k) v M = some (r, M) := by
          by_cases hkm : k < m
          · by_cases hcm : lg_cmp (M.2.1 (b + 6) (f * 16 + k)) v = nI 0
            · refine ⟨nI 1, ?_⟩
              unfold fX4_isNamed fX4_hasName fX4_hasFunction
              have a9 : f * 16 + k < 192 := by omega
              simp (disch := omega) only [b4, h5, hcm, k_iT, k_iF, Bool.false_eq_true, eq_self, Nat.add_zero, k_lt', k_bs, k_T, k_F, k_inb, k_ck, k_nz, ↓kN, kL, k_lt, k_le, k_eq, kn_le, kn_lt, kn_eq, kn_le', kn_lt', kn_eq', nI_clamp, nI_add, k_sub, k_mul, k_div, rd_hi, rd_mi, rd_hl, rd_ml, rd_hr, rd_mr, rd_si2, rd_sl1, rd_sl2, rd_sr1, rd_sr2]
            · refine ⟨nI 0, ?_⟩
              unfold fX4_isNamed fX4_hasName fX4_hasFunction
              have a9 : f * 16 + k < 192 := by omega
              simp (disch := omega) only [b4, h5, hcm, k_iT, k_iF, Bool.false_eq_true, eq_self, Nat.add_zero, k_lt', k_bs, k_T, k_F, k_inb, k_ck, k_nz, ↓kN, kL, k_lt, k_le, k_eq, kn_le, kn_lt, kn_eq, kn_le', kn_lt', kn_eq', nI_clamp, nI_add, k_sub, k_mul, k_div, rd_hi, rd_mi, rd_hl, rd_ml, rd_hr, rd_mr, rd_si2, rd_sl1, rd_sl2, rd_sr1, rd_sr2]
          · refine ⟨nI 0, ?_⟩
            unfold fX4_isNamed fX4_hasName fX4_hasFunction
            simp (disch := omega) only [b4, h5, k_iT, k_iF, Bool.false_eq_true, eq_self, Nat.add_zero, k_lt', k_bs, k_T, k_F, k_inb, k_ck, k_nz, ↓kN, kL, k_lt, k_le, k_eq, kn_le, kn_lt, kn_eq, kn_le', kn_lt', kn_eq', nI_clamp, nI_add, k_sub, k_mul, k_div, rd_hi, rd_mi, rd_hl, rd_ml, rd_hr, rd_mr, rd_si2, rd_sl1, rd_sl2, rd_sr1, rd_sr2]
        obtain ⟨r, isn⟩ := isn
        rw [isn, k_bs]
        refine ok_if (fun _ => goon _) (fun _ => ?_)
        unfold fX3_parseParam_55
        exact goon _
      · unfold fX3_parseParam_55
        exact goon _
  exact key q 0 0 (by omega)
theorem cD_ploop {x : Int32} (hx : cX b M0 T n cnt) (hd : cD b M0 T n cnt f nb pl M) : mv_ok (fX3_parseParams_6 x M) (fun _ M' => cD b M0 T n cnt f nb pl M') := by
  unfold fX3_parseParams_6
  refine ok_loop ?_
  show mv_ok (gX3_parseParams_6 x M) _
  unfold gX3_parseParams_6
  refine ok_if (fun _ => ok_some hd) (fun _ => cD_kindB hx hd (fun v hv => cD_ifk hv (by decide) (by decide) (ok_some hd)))
theorem rFt_one (hh : h ≤ 1) (hf : f < 12) (a : rFt h f N0 nb pl N) : ∃ N', gX11_definition_210 (nI 1) N = some (.inl (nI 0), N') ∧ rFt h f N0 nb pl N' := by
  obtain ⟨N', q3, q4⟩ := rFt_240 (k := 0) hh hf a (by omega)
  have q2 := rFt_name' (a := nI 1) a
  refine ⟨N', ?_, q4⟩
  obtain ⟨g1, g2, g3, _⟩ := a
  simp only [kL] at q2
  unfold gX11_definition_210
  simp (disch := omega) only [q2, g1, q3, k_iT, k_iF, Bool.false_eq_true, eq_self, Nat.add_zero, k_lt', k_bs, k_T, k_F, k_inb, k_ck, k_nz, ↓kN, kL, k_lt, k_le, k_eq, kn_le, kn_lt, kn_eq, kn_le', kn_lt', kn_eq', nI_clamp, nI_add, k_sub, k_mul, k_div, rd_hi, rd_mi, rd_hl, rd_ml, rd_hr, rd_mr, rd_si2, rd_sl1, rd_sl2, rd_sr1, rd_sr2]
theorem AP_step {i' y : Nat} (a : AP b h M0 N0 T n cnt f nd xn an i p M N) (h1 : cO b M0 T n cnt f i' (p + 1) nd M') (h2 : M'.1 (b + 2) f = nI (p + 1)) (h3 : rA h N0 T n f i' (p + 1) xn an N') (h4 : N'.1 66 (12 * h + f) = nI (p + 1)) (hp : p < 4) (h5 : NM b h f 0 (p + 1) M' N') (hy : y ≤ 4) (h6 : M'.1 (b + 7) (f * 16 + p) = nI y) (h7 : N'.1 70 (16 * (12 * h + f) + p) = nI y) (h8 : cPf b f p nd M M') (h9 : rPf h f p N N') : AP b h M0 N0 T n cnt f nd xn an i' (p + 1) M' N' := by
  refine ⟨h1, h2, h3, h4, by omega, h5, fun k hk => ?_⟩
  by_cases hkp : k < p
  · obtain ⟨y', y1, y2, y3⟩ := a.2.2.2.2.2.2 k hkp
    refine ⟨y', y1, ?_, ?_⟩
    · rw [h8.1 _ _ (by omega)]; exact y2
    · rw [h9.1 _ _ (by omega)]; exact y3
  · obtain rfl : k = p := by omega
    exact ⟨y, hy, h6, h7⟩
theorem r210 {x y : Int32} (e : gX11_definition_210 x N = some (.inl y, N')) : fX11_definition_210 x N = fX11_definition_210 y N' := by
  unfold fX11_definition_210
  exact lp_go e
theorem j_ploop_aux {k : Nat} {Np : mv_M} (hx : pX b h M0 N0 T n cnt f) (hp4 : p ≤ 4) (hk : k + 1 = p) (hA : AP b h M0 N0 T n cnt f nd xn an i p M N) (hg : gX11_definition_210 (nI 1) Np = (if N.1 62 4 = nI 16 then fX11_definition_285 (nI 1) N else fX11_definition_284 N)) (ih : ∀ (M' N' Np' : mv_M) (i' : Nat), p < 4 → AP b h M0 N0 T n cnt f nd xn an i' (p + 1) M' N' → gX11_definition_210 (nI 1) Np' = (if N'.1 62 4 = nI 16 then fX11_definition_285 (nI 1) N' else fX11_definition_284 N') → ∃ M'' N'', fX3_parseParams_6 (nI (k + 1)) M' = some ((), M'') ∧ fX11_definition_210 (nI 1) Np' = fX11_definition_210 (nI 0) N'' ∧ ((∃ nb pl, cD b M0 T n cnt f nb pl M'' ∧ rFt h f N0 nb pl N'') ∨ ∃ i'' p', p + 1 ≤ p' ∧ i' ≤ i'' ∧ AP b h M0 N0 T n cnt f nd xn an i'' p' M'' N'' ∧ cPf b f (p + 1) nd M' M'' ∧ rPf h f (p + 1) N' N'')) : ∃ M' N', fX3_parseParams_6 (nI k) M = some ((), M') ∧ fX11_definition_210 (nI 1) Np = fX11_definition_210 (nI 0) N' ∧ ((∃ nb pl, cD b M0 T n cnt f nb pl M' ∧ rFt h f N0 nb pl N') ∨ ∃ i' p', p ≤ p' ∧ i ≤ i' ∧ AP b h M0 N0 T n cnt f nd xn an i' p' M' N' ∧ cPf b f p nd M M' ∧ rPf h f p N N') := by
  have hh := hx.2.2.1
  have hf := hx.2.2.2
  obtain ⟨hc, hp, hr, hp', _, hnm, hty⟩ := id hA
  have ek := cO_kind hx.1 hc
  have hv := vk_k (T := T) (n := n) (s := lx_st T n i)
  have hv2 : lx_k T n (lx_st T n i) < 2 ^ 31 := by unfold vk at hv; omega
  have et : N.1 62 4 = nI (lx_tk (lx_k T n (lx_st T n i))) := hr.1.2.2.2.1.2.1
  have t16 := tkA hv (r := 16) (by omega)
  rw [kt16] at t16
  by_cases h44 : lx_k T n (lx_st T n i) = 44
  · rw [if_pos (by rw [et, t16]; exact h44)] at hg
    obtain ⟨M1, N1, e1, e2, e3⟩ := j_pass0 hx hc hr.1 (by omega)
    have e5 : gX11_definition_210 (nI 1) Np = some (.inl (nI 1), N1) := by
      rw [hg]
      unfold fX11_definition_285 fX11_definition_294
      simp (disch := omega) only [e2, k_iT, k_iF, Bool.false_eq_true, eq_self, Nat.add_zero, k_lt', k_bs, k_T, k_F, k_inb, k_ck, k_nz, ↓kN, kL, k_lt, k_le, k_eq, kn_le, kn_lt, kn_eq, kn_le', kn_lt', kn_eq', nI_clamp, nI_add, k_sub, k_mul, k_div, rd_hi, rd_mi, rd_hl, rd_ml, rd_hr, rd_mr, rd_si2, rd_sl1, rd_sl2, rd_sr1, rd_sr2]
    rw [h44] at ek
    have body : ∀ M2, fX3_parseParam M1 = some ((), M2) → fX3_parseParams_6 (nI k) M = fX3_parseParams_6 (nI (k + 1)) M2 := by
      intro M2 z
      unfold fX3_parseParams_6
      refine lp_go (s' := nI (k + 1)) ?_
      show gX3_parseParams_6 (nI k) M = _
      unfold gX3_parseParams_6
      simp (disch := omega) only [ek, e1, z, k_iT, k_iF, Bool.false_eq_true, eq_self, Nat.add_zero, k_lt', k_bs, k_T, k_F, k_inb, k_ck, k_nz, ↓kN, kL, k_lt, k_le, k_eq, kn_le, kn_lt, kn_eq, kn_le', kn_lt', kn_eq', nI_clamp, nI_add, k_sub, k_mul, k_div, rd_hi, rd_mi, rd_hl, rd_ml, rd_hr, rd_mr, rd_si2, rd_sl1, rd_sl2, rd_sr1, rd_sr2]
    rw [r210 e5]
    rcases e3 with ⟨nb, pl, d1, d2⟩ | ⟨d1, d2, d3, d4⟩
    · obtain ⟨_, M2, k1, k2⟩ := ok_ex (cD_param hx.1 d1)
      obtain ⟨_, M3, k3, k4⟩ := ok_ex (cD_ploop (x := nI (k + 1)) hx.1 k2)
      obtain ⟨N2, k5, k6⟩ := rFt_one hh hf d2
      exact ⟨M3, N2, (body M2 k1).trans k3, r210 k5, .inl ⟨nb, pl, k4, k6⟩⟩
    · have hA1 : M1.1 (b + 2) f = nI p := by rw [d1]; have := hx.1.1; simp (disch := omega) only [rd_hi, rd_mi, rd_hl, rd_ml, rd_hr, rd_mr, rd_si2, rd_sl1, rd_sl2, rd_sr1, rd_sr2]; exact hp
      obtain ⟨M2, k1, k2⟩ := j_param hx d2 hA1 (rA_tk hr d4 d3) ((d4.1 _ _ (by omega)).trans hp') hp4 (fun k u1 u2 => by
        rw [d4.2.1 _ _ (by omega), d1]
        exact hnm k u1 u2)
      rcases k2 with ⟨nb, pl, N2, k3, k4, k5⟩ | ⟨i', N2, y, g1, g2, g3, g4, g5, g6, g7, g8, g9, gA, gB, gC, gD⟩
      · obtain ⟨_, M3, k6, k7⟩ := ok_ex (cD_ploop (x := nI (k + 1)) hx.1 k3)
        exact ⟨M3, N2, (body M2 k1).trans k6, r210 k5, .inl ⟨nb, pl, k7, k4⟩⟩
      · have C1 : cPf b f p nd M M1 := by
          have hb := hx.1.1
          rw [d1]
          exact ⟨fun c k u => by simp (disch := omega) only [rd_hi, rd_mi, rd_hl, rd_ml, rd_hr, rd_mr, rd_si2, rd_sl1, rd_sl2, rd_sr1, rd_sr2], fun c k u => rfl⟩
        have R1 : rPf h f p N N1 := ⟨fun c k u => d4.1 c k (by omega), fun c k u => d4.2.1 c k (by omega)⟩
        have hA2 : AP b h M0 N0 T n cnt f nd xn an i' (p + 1) M2 N2 := AP_step (i := i) (M := M) (N := N) hA g4 g5 g6 g7 g1 g8 g2 g9 gA (cPf_trans C1 gB (Nat.le_refl _)) (rPf_trans R1 gC (Nat.le_refl _))
        obtain ⟨M3, N3, k6, k7, k8⟩ := ih M2 N2 N1 i' g1 hA2 gD
        refine ⟨M3, N3, (body M2 k1).trans k6, k7, ?_⟩
        rcases k8 with z | ⟨i'', p', z1, z2, z3, z4, z5⟩
        · exact .inl z
        · exact .inr ⟨i'', p', by omega, by omega, z3, cPf_trans C1 (cPf_trans gB z4 (by omega)) (Nat.le_refl _), rPf_trans R1 (rPf_trans gC z5 (by omega)) (Nat.le_refl _)⟩
  · rw [if_neg (by rw [et, t16]; exact h44)] at hg
    have e5 : gX11_definition_210 (nI 1) Np = some (.inl (nI 0), N) := by
      rw [hg]
      unfold fX11_definition_284 fX11_definition_285 fX11_definition_294
      simp (disch := omega) only [k_iT, k_iF, Bool.false_eq_true, eq_self, Nat.add_zero, k_lt', k_bs, k_T, k_F, k_inb, k_ck, k_nz, ↓kN, kL, k_lt, k_le, k_eq, kn_le, kn_lt, kn_eq, kn_le', kn_lt', kn_eq', nI_clamp, nI_add, k_sub, k_mul, k_div, rd_hi, rd_mi, rd_hl, rd_ml, rd_hr, rd_mr, rd_si2, rd_sl1, rd_sl2, rd_sr1, rd_sr2]
    refine ⟨M, N, ?_, r210 e5, .inr ⟨i, p, Nat.le_refl _, Nat.le_refl _, hA, ⟨fun _ _ _ => rfl, fun _ _ _ => rfl⟩, ⟨fun _ _ _ => rfl, fun _ _ _ => rfl⟩⟩⟩
    unfold fX3_parseParams_6
    refine lp_out ?_
    show gX3_parseParams_6 (nI k) M = _
    unfold gX3_parseParams_6
    simp (disch := omega) only [ek, h44, k_iT, k_iF, Bool.false_eq_true, eq_self, Nat.add_zero, k_lt', k_bs, k_T, k_F, k_inb, k_ck, k_nz, ↓kN, kL, k_lt, k_le, k_eq, kn_le, kn_lt, kn_eq, kn_le', kn_lt', kn_eq', nI_clamp, nI_add, k_sub, k_mul, k_div, rd_hi, rd_mi, rd_hl, rd_ml, rd_hr, rd_mr, rd_si2, rd_sl1, rd_sl2, rd_sr1, rd_sr2]
theorem j_ploop (hx : pX b h M0 N0 T n cnt f) : ∀ (d p k i : Nat) (M N Np : mv_M), p + d = 4 → k + 1 = p → AP b h M0 N0 T n cnt f nd xn an i p M N → gX11_definition_210 (nI 1) Np = (if N.1 62 4 = nI 16 then fX11_definition_285 (nI 1) N else fX11_definition_284 N) → ∃ M' N', fX3_parseParams_6 (nI k) M = some ((), M') ∧ fX11_definition_210 (nI 1) Np = fX11_definition_210 (nI 0) N' ∧ ((∃ nb pl, cD b M0 T n cnt f nb pl M' ∧ rFt h f N0 nb pl N') ∨ ∃ i' p', p ≤ p' ∧ i ≤ i' ∧ AP b h M0 N0 T n cnt f nd xn an i' p' M' N' ∧ cPf b f p nd M M' ∧ rPf h f p N N') := by
  have hh := hx.2.2.1
  have hf := hx.2.2.2
  intro d
  induction d with
  | zero =>
    intro p k i M N Np hd hk hA hg
    exact j_ploop_aux hx (by omega) hk hA hg (fun M' N' Np' i' hp => by omega)
  | succ d ih =>
    intro p k i M N Np hd hk hA hg
    exact j_ploop_aux hx (by omega) hk hA hg (fun M' N' Np' i' hp hA' hg' => ih (p + 1) (k + 1) i' M' N' Np' (by omega) (by omega) hA' hg')
end PL
