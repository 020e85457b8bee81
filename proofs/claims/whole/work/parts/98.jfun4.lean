/-! one function is read, from its title on -/
section FX
variable {α β : Type} {b h n cnt f i m nd nb pl xn an ot p F : Nat} {M M' M0 M1 M2 N N' N0 N1 N2 : mv_M} {T : Nat → Nat}
theorem gq {γ : Type} (hx : cX b M0 T n cnt) (hW : cW b M0 M) (G : Nat → Option γ) : mv_getp (M.2.2 3 2) G = G b := by
  have hb := hx.1
  have hb2 : (decide (b = 9) || decide (b = 24)) = true := by simpa using hb
  rw [(cW_tok hx hW).2.2.2.2]
  show mv_chk (decide (b = 9) || decide (b = 24)) (G b) = G b
  rw [hb2]; rfl
theorem rSt_tape (ht : r_tape N0 T n) (hr : rW h N0 N) : r_tape N T n := by
  obtain ⟨t1, t2, t3⟩ := ht
  exact ⟨(hr.1 62 2 (by unfold rWa; omega)).trans t1, t2, fun k hk => ⟨(hr.1 63 k (by unfold rWa; omega)).trans (t3 k hk).1, (t3 k hk).2⟩⟩
set_option maxHeartbeats 4000000 in
theorem j_fun (hx : cX b M0 T n cnt) (ht : r_tape N0 T n) (hh : h ≤ 1) (hc : cS b M0 T n cnt F i nd M) (hr : rSt h N0 T n F i xn an N) (hti : ∀ j, j < F → M.2.1 (b + 1) j = N.2.1 64 (12 * h + j)) (hB : 1001 * h ≤ xn ∧ xn ≤ 1001 * h + i ∧ 1001 * h ≤ an ∧ an ≤ 1001 * h + i) : ∃ M' N', fX3_parseFunction M = some ((), M') ∧ fX11_definition N = some ((), N') ∧ FO b h M0 N0 T n cnt F i nd xn an M N M' N' := by
  have hb := hx.1
  have ek := cS_kind hx hc
  have hv := vk_k (T := T) (n := n) (s := lx_st T n i)
  have hv2 : lx_k T n (lx_st T n i) < 2 ^ 31 := by unfold vk at hv; omega
  have hW := hc.1
  have h33 := hc.2.1
  have hi2 := hc.2.2.2.1
  have hF0 := hc.2.2.2.2.2.1
  have hF := hc.2.2.2.2.2.2.1
  have n27 := hr.2.2.2.2.1
  have n28 := hr.2.2.2.2.2.1
  have n9 := hr.2.2.2.1
  have n4 : N.1 62 4 = nI (lx_tk (lx_k T n (lx_st T n i))) := hr.2.1.2.1
  have n5 : N.1 62 5 = nI (lx_st T n i) := hr.2.1.1
  have t10 := tkA hv (r := 10) (by omega)
  rw [kt10] at t10
  obtain ⟨v, ev⟩ := c_txt hx hW hi2
  obtain ⟨r, er, hr3⟩ := c_fnOf (b := b) (v := v) hF hF0 F 0 (by omega)
  have er' : fX4_functionOf b v M = some (r, M) := er
  -- the class, up to the title
  have key : fX3_parseFunction M = if F < 12 then fX3_parseFunction_47 v 0 (if r = nN then 0 else 1) M else fX3_parseFunction_47 v 1 (if r = nN then 0 else 1) M := by
    unfold fX3_parseFunction
    rw [h33, ev, k_bs, gq hx hW, er', k_bs]
    have k30 : ∀ s, fX3_parseFunction_30 v s M = if F < 12 then fX3_parseFunction_47 v 0 s M else fX3_parseFunction_47 v 1 s M := by
      intro s
      unfold fX3_parseFunction_30
      rw [gq hx hW, hF0, show (12 : Int32) = nI 12 from rfl]
      simp only [k_lt (show F < 2 ^ 31 by omega) (show 12 < 2 ^ 31 by omega)]
    by_cases hr0 : r = nN
    · rw [if_pos (show r = -1 from hr0), if_pos hr0]; exact k30 0
    · rw [if_neg (show ¬ r = -1 from hr0), if_neg hr0]; exact k30 1
  have key2 : ∀ {nb M'}, (∀ s0 s1 : Int32, (s0 = 0 ∧ F < 12) ∨ (s0 = 1 ∧ F = 12) → (s1 = 0 ∧ r = nN) ∨ (s1 = 1 ∧ r ≠ nN) → fX3_takeNewName s1 s0 M = some ((), M')) → cZ b M0 cnt nb (lx_st T n i) M' → fX3_parseFunction M = some ((), M') := by
    intro nb M' e z
    rw [key]
    by_cases h12 : F < 12
    · rw [if_pos h12]
      by_cases hr0 : r = nN
      · rw [if_pos hr0]; exact c_47z (e 0 0 (.inl ⟨rfl, h12⟩) (.inl ⟨rfl, hr0⟩)) z
      · rw [if_neg hr0]; exact c_47z (e 0 1 (.inl ⟨rfl, h12⟩) (.inr ⟨rfl, hr0⟩)) z
    · rw [if_neg h12]
      by_cases hr0 : r = nN
      · rw [if_pos hr0]; exact c_47z (e 1 0 (.inr ⟨rfl, by omega⟩) (.inl ⟨rfl, hr0⟩)) z
      · rw [if_neg hr0]; exact c_47z (e 1 1 (.inr ⟨rfl, by omega⟩) (.inr ⟨rfl, hr0⟩)) z
  by_cases hk : ¬ lx_k T n (lx_st T n i) = 2
  · -- no name
    obtain ⟨M', e1, e2⟩ := cS_stop (v := 2) hx hc (by omega) (by omega)
    obtain ⟨f1, f2⟩ := rZ_stop (v := 2) hr (by omega) (by omega)
    refine ⟨M', _, key2 (fun s0 s1 _ _ => ?_) e2, ?_, .inl ⟨2, _, .inl e2, f2⟩⟩
    · unfold fX3_takeNewName
      simp (disch := omega) only [ek, e1, k_iT, k_iF, Bool.false_eq_true, eq_self, Nat.add_zero, k_lt', k_bs, k_T, k_F, k_inb, k_ck, k_nz, ↓kN, kL, k_lt, k_le, k_eq, kn_le, kn_lt, kn_eq, kn_le', kn_lt', kn_eq', nI_clamp, nI_add, k_sub, k_mul, k_div, rd_hi, rd_mi, rd_hl, rd_ml, rd_hr, rd_mr, rd_si2, rd_sl1, rd_sl2, rd_sr1, rd_sr2]
    · have e25 := rZ_25 f2 (h := h) (F := F) (by simp (disch := omega) only [rd_hi, rd_mi, rd_hl, rd_ml, rd_hr, rd_mr, rd_si2, rd_sl1, rd_sl2, rd_sr1, rd_sr2]; exact n27) (by simp (disch := omega) only [rd_hi, rd_mi, rd_hl, rd_ml, rd_hr, rd_mr, rd_si2, rd_sl1, rd_sl2, rd_sr1, rd_sr2]; exact n28) hh hF
      unfold fX11_definition
      rw [n9, if_pos (show nI 0 = 0 from rfl), n4, if_neg (by rw [show (10 : Int32) = nI 10 from rfl, t10]; exact hk), show (2 : Int32) = nI 2 from rfl, f1, k_bs, e25]
  have hk := Classical.not_not.mp hk
  have hlt := (tk_kind hx hc.2.2.1 hi2).2.2 (by omega)
  have hn : lx_st T n i < n := (hx.2.2.1.2.2.1 i hlt).1
  have ev2 := c_text hx hW hlt (.inl hk)
  rw [ev2] at ev
  obtain rfl : lx_tx T n (lx_st T n i) = v := by
    have := Option.some.inj ev
    exact (Prod.mk.inj this).1
  have n7 := hr.2.1.2.2.2.1 hk
  rw [hk] at ek n4
  have rd : fX11_definition N = fX11_definition_33 (nI (12 * h + 0)) N := by
    unfold fX11_definition fX11_definition_25
    simp (disch := omega) only [n9, n4, show lx_tk 2 = 10 from rfl, n27, k_iT, k_iF, Bool.false_eq_true, eq_self, Nat.add_zero, k_lt', k_bs, k_T, k_F, k_inb, k_ck, k_nz, ↓kN, kL, k_lt, k_le, k_eq, kn_le, kn_lt, kn_eq, kn_le', kn_lt', kn_eq', nI_clamp, nI_add, k_sub, k_mul, k_div, rd_hi, rd_mi, rd_hl, rd_ml, rd_hr, rd_mr, rd_si2, rd_sl1, rd_sl2, rd_sr1, rd_sr2]
  obtain ⟨t1, t2⟩ := r_title (N := N) hh hF n27 n28 n9 n7 n5 F 0 (by omega)
  rcases hr3.symm with ⟨j, j1, j2, rfl, j4, j5⟩ | ⟨rfl, hno⟩
  · -- it is told already
    obtain ⟨M', e1, e2⟩ := cS_stop (v := 3) hx hc (by omega) (by omega)
    obtain ⟨f1, f2⟩ := rZ_stop (v := 3) hr (by omega) (by omega)
    refine ⟨M', _, key2 (fun s0 s1 _ hs => ?_) e2, ?_, .inl ⟨3, _, .inl e2, f2⟩⟩
    · rcases hs with ⟨_, hs⟩ | ⟨rfl, _⟩
      · exact absurd hs (by rw [kn_eq (by omega)]; exact id)
      · unfold fX3_takeNewName
        simp (disch := omega) only [ek, e1, k_iT, k_iF, Bool.false_eq_true, eq_self, Nat.add_zero, k_lt', k_bs, k_T, k_F, k_inb, k_ck, k_nz, ↓kN, kL, k_lt, k_le, k_eq, kn_le, kn_lt, kn_eq, kn_le', kn_lt', kn_eq', nI_clamp, nI_add, k_sub, k_mul, k_div, rd_hi, rd_mi, rd_hl, rd_ml, rd_hr, rd_mr, rd_si2, rd_sl1, rd_sl2, rd_sr1, rd_sr2]
    · rw [rd, t2 ⟨j, by omega, j2, by rw [← hti j j2]; exact j4⟩]
  rw [t1 (fun j _ j2 => by rw [← hti j j2]; exact hno j (by omega) j2)] at rd
  by_cases h12 : F = 12
  · -- there are twelve
    obtain ⟨M', e1, e2⟩ := cS_stop (v := 6) hx hc (by omega) (by omega)
    obtain ⟨f1, f2⟩ := rZ_stop (v := 6) hr (by omega) (by omega)
    refine ⟨M', _, key2 (fun s0 s1 hs0 hs => ?_) e2, ?_, .inl ⟨6, _, .inl e2, f2⟩⟩
    · rcases hs with ⟨rfl, _⟩ | ⟨_, hs⟩
      · rcases hs0 with ⟨_, hs0⟩ | ⟨rfl, _⟩
        · omega
        · unfold fX3_takeNewName
          simp (disch := omega) only [ek, e1, k_iT, k_iF, Bool.false_eq_true, eq_self, Nat.add_zero, k_lt', k_bs, k_T, k_F, k_inb, k_ck, k_nz, ↓kN, kL, k_lt, k_le, k_eq, kn_le, kn_lt, kn_eq, kn_le', kn_lt', kn_eq', nI_clamp, nI_add, k_sub, k_mul, k_div, rd_hi, rd_mi, rd_hl, rd_ml, rd_hr, rd_mr, rd_si2, rd_sl1, rd_sl2, rd_sr1, rd_sr2]
      · exact absurd rfl hs
    · rw [rd]
      have e1 := rZ_111 f2
      obtain ⟨z1, z2, z3, z4, z5⟩ := f2
      have e2 : fX11_definition_111 (mv_si (mv_si N 62 9 (nI 6)) 62 10 (nI (lx_st T n i))) = some ((), mv_si (mv_si N 62 9 (nI 6)) 62 10 (nI (lx_st T n i))) := by
        unfold fX11_definition_111
        rw [z2, if_neg (by decide)]
      unfold fX11_definition_85
      rw [n9, if_pos (show nI 0 = 0 from rfl), n28, h12, if_pos (show nI 12 = 12 from rfl), show (6 : Int32) = nI 6 from rfl, f1, k_bs, e2]
  have hF12 : F < 12 := by omega
  have hxp : pX b h M0 N0 T n cnt F := ⟨hx, ht, hh, hF12⟩
  obtain ⟨N1, p1, p2, p3, p4, p5, p6, p7, p8⟩ := r_111 hr hh hF12 hk
  have hn1 : rC h N0 T n F i 0 N1 := p1.1
  by_cases hi3 : i = 1000
  · -- the 1001st token
    obtain ⟨M', e1, e2⟩ := c_pass2 hx hc hi3
    obtain ⟨N', f1, f2⟩ := r_passS hn1 hn hi3
    obtain ⟨N'', f3, f4⟩ := rFt_r0 hh hF12 f2
    refine ⟨M', N'', key2 (fun s0 s1 hs0 hs => ?_) e2, ?_, .inl ⟨6, _, .inl e2, rFt_Z f4⟩⟩
    · rcases hs with ⟨rfl, _⟩ | ⟨_, hs⟩
      · rcases hs0 with ⟨rfl, hs0⟩ | ⟨_, _⟩
        · unfold fX3_takeNewName
          simp (disch := omega) only [ek, e1, k_iT, k_iF, Bool.false_eq_true, eq_self, Nat.add_zero, k_lt', k_bs, k_T, k_F, k_inb, k_ck, k_nz, ↓kN, kL, k_lt, k_le, k_eq, kn_le, kn_lt, kn_eq, kn_le', kn_lt', kn_eq', nI_clamp, nI_add, k_sub, k_mul, k_div, rd_hi, rd_mi, rd_hl, rd_ml, rd_hr, rd_mr, rd_si2, rd_sl1, rd_sl2, rd_sr1, rd_sr2]
        · omega
      · exact absurd rfl hs
    · rw [rd, p8, f1, k_bs, rFt_want f2, k_bs]
      obtain ⟨g1, g2, g3, _⟩ := f2
      rw [g1, if_neg (by decide)]
      exact f3
  -- the title is taken
  have e1 := c_pass1 hc (by omega)
  have hW7 : cW b M0 (mv_si M 3 3 (nI (i + 1))) := ⟨fun c k z1 z2 z3 => by simp (disch := omega) only [rd_hi, rd_mi, rd_hl, rd_ml, rd_hr, rd_mr, rd_si2, rd_sl1, rd_sl2, rd_sr1, rd_sr2]; exact hW.1 c k z1 z2 z3, hW.2.1, hW.2.2⟩
  obtain ⟨M1, a1, a2, a3, a4, a5, a6, a7⟩ := c_add (M := mv_si M 3 3 (nI (i + 1))) (v := lx_tx T n (lx_st T n i)) hb hW7 (by simp (disch := omega) only [rd_hi, rd_mi, rd_hl, rd_ml, rd_hr, rd_mr, rd_si2, rd_sl1, rd_sl2, rd_sr1, rd_sr2]; exact hF0) hF12
  have key3 : fX3_parseFunction M = mv_bind (fX3_take 40 M1) fun _ M12 => (mv_bind (fX3_kind M12) fun r13 M14 => if r13 = 41 then fX3_parseFunction_99 M14 else mv_bind (fX3_parseParams M14) fun _ M15 => fX3_parseFunction_99 M15) := by
    rw [key, if_pos hF12, if_pos rfl]
    have e2 : fX3_takeNewName 0 0 M = some ((), mv_si M 3 3 (nI (i + 1))) := by
      unfold fX3_takeNewName
      simp (disch := omega) only [ek, e1, k_iT, k_iF, Bool.false_eq_true, eq_self, Nat.add_zero, k_lt', k_bs, k_T, k_F, k_inb, k_ck, k_nz, ↓kN, kL, k_lt, k_le, k_eq, kn_le, kn_lt, kn_eq, kn_le', kn_lt', kn_eq', nI_clamp, nI_add, k_sub, k_mul, k_div, rd_hi, rd_mi, rd_hl, rd_ml, rd_hr, rd_mr, rd_si2, rd_sl1, rd_sl2, rd_sr1, rd_sr2]
    have q1 : (mv_si M 3 3 (nI (i + 1))).1 1 0 = nI 0 := by simp (disch := omega) only [rd_hi, rd_mi, rd_hl, rd_ml, rd_hr, rd_mr, rd_si2, rd_sl1, rd_sl2, rd_sr1, rd_sr2]; exact hc.2.2.2.2.2.2.2.2.2
    have q2 : (mv_si M 3 3 (nI (i + 1))).1 b 0 = nI F := by simp (disch := omega) only [rd_hi, rd_mi, rd_hl, rd_ml, rd_hr, rd_mr, rd_si2, rd_sl1, rd_sl2, rd_sr1, rd_sr2]; exact hF0
    unfold fX3_parseFunction_47
    rw [e2, k_bs, q1, if_pos (show nI 0 = 0 from rfl), gq hx hW7, q2, k_lt', gq hx (M := mv_si (mv_si M 3 3 (nI (i + 1))) 3 4 (nI F)) ⟨fun c k z1 z2 z3 => by simp (disch := omega) only [rd_hi, rd_mi, rd_hl, rd_ml, rd_hr, rd_mr, rd_si2, rd_sl1, rd_sl2, rd_sr1, rd_sr2]; exact hW.1 c k z1 z2 z3, hW.2.1, hW.2.2⟩, a1, k_bs]
  rw [key3, rd, p8]
  obtain ⟨N2, b1, b2, b3, b4⟩ := r_passR (rSt_tape ht hn1.1) hn1 hn (by omega)
  rw [b1, k_bs]
  have c33 : M1.1 3 3 = nI (i + 1) := by rw [a6 _ _ (by omega)]; simp (disch := omega) only [rd_hi, rd_mi, rd_hl, rd_ml, rd_hr, rd_mr, rd_si2, rd_sl1, rd_sl2, rd_sr1, rd_sr2]
  have cnd : M1.1 b 8 = nI nd := by rw [a6 _ _ (by omega)]; simp (disch := omega) only [rd_hi, rd_mi, rd_hl, rd_ml, rd_hr, rd_mr, rd_si2, rd_sl1, rd_sl2, rd_sr1, rd_sr2]; exact hc.2.2.2.2.2.2.2.1
  have c10 : M1.1 1 0 = nI 0 := by rw [a6 _ _ (by omega)]; simp (disch := omega) only [rd_hi, rd_mi, rd_hl, rd_ml, rd_hr, rd_mr, rd_si2, rd_sl1, rd_sl2, rd_sr1, rd_sr2]; exact hc.2.2.2.2.2.2.2.2.2
  have hnd := hc.2.2.2.2.2.2.2.2.1
  have dead : ∀ {nb pl} {M12 N3 : mv_M}, cD b M0 T n cnt F nb pl M12 → rFt h F N0 nb pl N3 → ∃ M' N', (mv_bind (fX3_kind M12) fun r13 M14 => if r13 = 41 then fX3_parseFunction_99 M14 else mv_bind (fX3_parseParams M14) fun _ M15 => fX3_parseFunction_99 M15) = some ((), M') ∧ (if (N3.1 62 9) = 0 then if (N3.1 62 4) = 15 then fX11_definition_210 (nI 0) N3 else fX11_definition_210 (nI 1) N3 else fX11_definition_210 (nI 0) N3) = some ((), N') ∧ FO b h M0 N0 T n cnt F i nd xn an M N M' N' := by
    intro nb pl M12 N3 z1 z2
    obtain ⟨_, M', w1, w2⟩ := ok_ex (c_dead hx z1)
    obtain ⟨N', w3, w4⟩ := rFt_r0 hh hF12 z2
    refine ⟨M', N', w1, ?_, .inl ⟨nb, pl, .inl (cR_Z w2), rFt_Z w4⟩⟩
    obtain ⟨g1, g2, g3, _⟩ := z2
    rw [g1, if_neg (show ¬ nI nb = 0 by rw [show (0 : Int32) = nI 0 from rfl, k_eq (by omega) (by omega)]; omega)]
    exact w3
  by_cases hb1 : lx_k T n (lx_st T n (i + 1)) = 1
  · have d1 : cD b M0 T n cnt F 1 (lx_st T n (i + 1)) M1 := .inr ⟨a2, ⟨0, by omega, a4⟩, ⟨nd, by omega, cnd⟩, rfl, i + 1, (tk_kind hx (i := i + 1) (by omega) (by omega)).2.2 (by omega), by omega, c33, hb1, rfl, c10⟩
    have d2 := b3 hb1
    obtain ⟨_, M12, w1, w2⟩ := ok_ex (cD_take' (a := 40) hx d1 (by decide) (by decide))
    rw [w1, k_bs, rFt_want d2, k_bs]
    exact dead (.inl w2) d2
  have hcO : cO b M0 T n cnt F (i + 1) 0 nd M1 := ⟨a2, c33, by omega, by omega, hb1, a4, by omega, cnd, by omega, c10⟩
  have hrA : rA h N0 T n F (i + 1) 0 xn an N2 := rA_tk p1 b2 (b4 hb1)
  obtain ⟨M3, N3, w1, w2, w3⟩ := j_want (w := 14) hxp hcO hrA (by omega) (by omega)
  rw [kt14] at w1
  have w1' : fX3_take 40 M1 = some ((), M3) := w1
  have w2' : fX11_want 14 N2 = some ((), N3) := w2
  rw [w1', k_bs, w2', k_bs]
  rcases w3 with ⟨nb, pl, z1, z2⟩ | ⟨nb, pl, z1, z2⟩ | ⟨z0, z1, z2, z3⟩
  · exact dead (.inl z1) z2
  · exact dead z1 z2
  have C : ∀ c k, ¬ ((c = 3 ∧ (k = 3 ∨ k = 4)) ∨ (c = b ∧ k = 0) ∨ ((c = b + 2 ∨ c = b + 3) ∧ k = F)) → M3.1 c k = M.1 c k := by
    intro c k u
    rw [z0]
    simp (disch := omega) only [rd_hi, rd_mi, rd_hl, rd_ml, rd_hr, rd_mr, rd_si2, rd_sl1, rd_sl2, rd_sr1, rd_sr2]
    rw [a6 c k (by omega)]
    simp (disch := omega) only [rd_hi, rd_mi, rd_hl, rd_ml, rd_hr, rd_mr, rd_si2, rd_sl1, rd_sl2, rd_sr1, rd_sr2]
  have C2 : ∀ c k, ¬ (c = b + 1 ∧ k = F) → M3.2.1 c k = M.2.1 c k := by
    intro c k u
    rw [z0]
    show M1.2.1 c k = _
    rw [a7 c k u]
    rfl
  have R : ∀ c k, ¬ ((c = 62 ∧ ((3 ≤ k ∧ k ≤ 10) ∨ k = 33 ∨ k = 28)) ∨ ((c = 66 ∨ c = 67) ∧ k = 12 * h + F)) → N3.1 c k = N.1 c k := fun c k u => (z3.1 c k (by omega)).trans ((b2.1 c k (by omega)).trans (p6 c k (by omega)))
  have R2 : ∀ c k, ¬ ((c = 62 ∧ k = 7) ∨ (c = 64 ∧ k = 12 * h + F)) → N3.2.1 c k = N.2.1 c k := fun c k u => (z3.2.1 c k (by omega)).trans ((b2.2.1 c k (by omega)).trans (p7 c k (by omega)))
  refine j_open (i := i + 1 + 1) (f := i) hxp ⟨z1, ?_, z2, ?_, by omega, fun k _ u => by omega, fun k u => by omega⟩ (by omega) (by omega) ((z3.1 _ _ (by omega)).trans ((b2.1 _ _ (by omega)).trans p4)) ((z3.1 _ _ (by omega)).trans ((b2.1 _ _ (by omega)).trans p3)) ?_ (fun j hj => ?_) ⟨fun c k u => C c k (by omega), fun c k u => C2 c k (by omega)⟩ ⟨fun c k u => R c k (by omega), fun c k u => R2 c k (by omega)⟩
  · rw [z0]
    simp (disch := omega) only [rd_hi, rd_mi, rd_hl, rd_ml, rd_hr, rd_mr, rd_si2, rd_sl1, rd_sl2, rd_sr1, rd_sr2]
    exact a3
  · rw [z3.1 _ _ (by omega), b2.1 _ _ (by omega)]
    exact p2
  · rw [z3.2.1 _ _ (by omega), b2.2.1 _ _ (by omega), p5, z0]
    exact a5
  · rw [z0]
    show _ ≠ M1.2.1 _ _
    rw [a5]
    exact hno j (by omega) hj
end FX
