/-! a function's rest behind its parameters -/
noncomputable def kf4 (M23 : mv_M) : Option (Unit × mv_M) := mv_getp (M23.2.2 3 2) fun b24 => mv_bind (tX3_parseE 0 M23) fun r25 M26 => mv_chk (mv_inb (M23.1 3 4) 12) <| mv_let (mv_si M26 (b24 + 5) (M23.1 3 4).toNatClampNeg r25) fun M28 => mv_bind (fX3_take 59 M28) fun _ M29 => some ((), M29)
noncomputable def kf3 (M22 : mv_M) : Option (Unit × mv_M) := mv_bind (fX3_take 61 M22) fun _ M23 => kf4 M23
noncomputable def kf2 (M17 : mv_M) : Option (Unit × mv_M) := mv_getp (M17.2.2 3 2) fun b18 => mv_bind (tX3_parseType 0 M17) fun r19 M20 => mv_chk (mv_inb (M17.1 3 4) 12) <| mv_let (mv_si M20 (b18 + 4) (M17.1 3 4).toNatClampNeg r19) fun M22 => kf3 M22
noncomputable def kf1 (M16 : mv_M) : Option (Unit × mv_M) := mv_bind (fX3_take 58 M16) fun _ M17 => kf2 M17
theorem kf0 (M : mv_M) : fX3_parseFunction_99 M = mv_bind (fX3_take 41 M) fun _ M16 => kf1 M16 := rfl
noncomputable def rf4 (M23 : mv_M) : Option (Unit × mv_M) := if (M23.1 62 9) = 0 then mv_bind (fX11_parse 4 M23) fun _ M24 => fX11_definition_340 M24 else fX11_definition_340 M23
noncomputable def rf3 (M22 : mv_M) : Option (Unit × mv_M) := mv_bind (fX11_want 13 M22) fun _ M23 => rf4 M23
noncomputable def rf2 (M18 : mv_M) : Option (Unit × mv_M) := mv_bind (fX11_type M18) fun r19 M20 => mv_chk (mv_inb (M18.1 62 33) 24) <| mv_let (mv_si M20 65 (M18.1 62 33).toNatClampNeg r19) fun M22 => rf3 M22
noncomputable def rf1 (M17 : mv_M) : Option (Unit × mv_M) := mv_bind (fX11_want 18 M17) fun _ M18 => rf2 M18
section JF
variable {α β : Type} {b h n cnt f i m nd nb pl xn an ot p p1 : Nat} {M M' M0 M1 M2 N N' N0 N1 N2 : mv_M} {T : Nat → Nat} {g : Nat → Nat → Nat}
theorem inr_bind {σ : Type} {o : Option (α × mv_M)} {g : α → mv_M → Option (β × mv_M)} : mv_inr (σ := σ) (mv_bind o g) = mv_bind o (fun r M => mv_inr (g r M)) := by
  cases o with
  | none => rfl
  | some q => rfl
theorem inr_chk {σ : Type} {c : Bool} {o : Option (α × mv_M)} : mv_inr (σ := σ) (mv_chk c o) = mv_chk c (mv_inr o) := by
  cases c <;> rfl
theorem inr_let {σ γ : Type} {v : γ} {g : γ → Option (α × mv_M)} : mv_inr (σ := σ) (mv_let v g) = mv_let v (fun x => mv_inr (g x)) := rfl
theorem inr_if {σ : Type} {c : Prop} [Decidable c] {x y : Option (α × mv_M)} : mv_inr (σ := σ) (if c then x else y) = if c then mv_inr x else mv_inr y := by
  by_cases h : c
  · rw [if_pos h, if_pos h]
  · rw [if_neg h, if_neg h]
theorem rf0 (N : mv_M) : fX11_definition_210 (nI 0) N = mv_bind (fX11_want 15 N) fun _ M17 => rf1 M17 := by
  unfold fX11_definition_210
  refine lp_inr ?_
  show gX11_definition_210 (nI 0) N = _
  unfold gX11_definition_210 rf1 rf2 rf3 rf4
  rw [if_pos (show nI 0 = (0 : Int32) from rfl)]
  simp only [inr_bind, inr_chk, inr_let, inr_if]
-- behind a fault
theorem cD_k4 (hx : cX b M0 T n cnt) (hd : cD b M0 T n cnt f nb pl M) : mv_ok (kf4 M) (fun _ M' => cR b M0 cnt f nb pl M') := by
  have b2 := (cD_B hd).1.2.1
  have b3 := (cD_B hd).1.2.2.1
  unfold kf4
  refine cD_getp hx hd (ok_bind (ok_mono (cD_E' (k := 220) hx hd (by omega)) (fun r M1 h1 => ?_)))
  rw [b2, k_inb b3 (by omega), k_ck, k_lt']
  exact ok_bind (ok_mono (cD_take' hx (cD_si hx.1 (.inl h1) (by omega)) (by decide) (by decide)) (fun _ _ h2 => ok_some h2))
theorem cD_k3 (hx : cX b M0 T n cnt) (hd : cD b M0 T n cnt f nb pl M) : mv_ok (kf3 M) (fun _ M' => cR b M0 cnt f nb pl M') := by
  unfold kf3
  exact ok_bind (ok_mono (cD_take' hx hd (by decide) (by decide)) (fun _ _ h2 => cD_k4 hx (.inl h2)))
theorem cD_k2 (hx : cX b M0 T n cnt) (hd : cD b M0 T n cnt f nb pl M) : mv_ok (kf2 M) (fun _ M' => cR b M0 cnt f nb pl M') := by
  have b2 := (cD_B hd).1.2.1
  have b3 := (cD_B hd).1.2.2.1
  unfold kf2
  refine cD_getp hx hd (ok_bind (ok_mono (cD_tType hx hd) (fun r M1 h1 => ?_)))
  rw [b2, k_inb b3 (by omega), k_ck, k_lt']
  exact cD_k3 hx (cD_si hx.1 (.inl h1) (by omega))
theorem cD_k1 (hx : cX b M0 T n cnt) (hd : cD b M0 T n cnt f nb pl M) : mv_ok (kf1 M) (fun _ M' => cR b M0 cnt f nb pl M') := by
  unfold kf1
  exact ok_bind (ok_mono (cD_take' hx hd (by decide) (by decide)) (fun _ _ h2 => cD_k2 hx (.inl h2)))
theorem cD_k0 (hx : cX b M0 T n cnt) (hd : cD b M0 T n cnt f nb pl M) : mv_ok (fX3_parseFunction_99 M) (fun _ M' => cR b M0 cnt f nb pl M') := by
  rw [kf0]
  exact ok_bind (ok_mono (cD_take' hx hd (by decide) (by decide)) (fun _ _ h2 => cD_k1 hx (.inl h2)))
theorem rFt_340 (hh : h ≤ 1) (hf : f < 12) (a : rFt h f N0 nb pl N) : ∃ N', fX11_definition_340 N = some ((), N') ∧ rFt h f N0 nb pl N' := by
  have a'' := rFt_si (c := 68) (k := 12 * h + f) (v := N.1 83 0) a hh (by omega)
  have e4 := fun w => rFt_want (w := w) a''
  refine ⟨_, ?_, a''⟩
  obtain ⟨a1, a2, a3, a4, a5, a6⟩ := a
  unfold fX11_definition_340
  simp (disch := omega) only [a6, e4, k_iT, k_iF, Bool.false_eq_true, eq_self, Nat.add_zero, k_lt', k_bs, k_T, k_F, k_inb, k_ck, k_nz, ↓kN, kL, k_lt, k_le, k_eq, kn_le, kn_lt, kn_eq, kn_le', kn_lt', kn_eq', nI_clamp, nI_add, k_sub, k_mul, k_div, rd_hi, rd_mi, rd_hl, rd_ml, rd_hr, rd_mr, rd_si2, rd_sl1, rd_sl2, rd_sr1, rd_sr2]
theorem rFt_r4 (hh : h ≤ 1) (hf : f < 12) (a : rFt h f N0 nb pl N) : ∃ N', rf4 N = some ((), N') ∧ rFt h f N0 nb pl N' := by
  obtain ⟨N', e1, e2⟩ := rFt_340 hh hf a
  refine ⟨N', ?_, e2⟩
  obtain ⟨a1, a2, a3, a4, a5, a6⟩ := a
  unfold rf4
  simp (disch := omega) only [a1, e1, k_iT, k_iF, Bool.false_eq_true, eq_self, Nat.add_zero, k_lt', k_bs, k_T, k_F, k_inb, k_ck, k_nz, ↓kN, kL, k_lt, k_le, k_eq, kn_le, kn_lt, kn_eq, kn_le', kn_lt', kn_eq', nI_clamp, nI_add, k_sub, k_mul, k_div, rd_hi, rd_mi, rd_hl, rd_ml, rd_hr, rd_mr, rd_si2, rd_sl1, rd_sl2, rd_sr1, rd_sr2]
theorem rFt_r3 (hh : h ≤ 1) (hf : f < 12) (a : rFt h f N0 nb pl N) : ∃ N', rf3 N = some ((), N') ∧ rFt h f N0 nb pl N' := by
  obtain ⟨N', e1, e2⟩ := rFt_r4 hh hf a
  refine ⟨N', ?_, e2⟩
  unfold rf3
  rw [rFt_want a, k_bs, e1]
theorem rFt_r2 (hh : h ≤ 1) (hf : f < 12) (a : rFt h f N0 nb pl N) : ∃ N', rf2 N = some ((), N') ∧ rFt h f N0 nb pl N' := by
  have a' := rFt_si (c := 65) (k := 12 * h + f) (v := nI 0) a hh (by omega)
  obtain ⟨N', e1, e2⟩ := rFt_r3 hh hf a'
  have e3 := rFt_type a
  refine ⟨N', ?_, e2⟩
  obtain ⟨a1, a2, a3, a4, a5, a6⟩ := a
  unfold rf2
  simp (disch := omega) only [e3, a6, e1, k_iT, k_iF, Bool.false_eq_true, eq_self, Nat.add_zero, k_lt', k_bs, k_T, k_F, k_inb, k_ck, k_nz, ↓kN, kL, k_lt, k_le, k_eq, kn_le, kn_lt, kn_eq, kn_le', kn_lt', kn_eq', nI_clamp, nI_add, k_sub, k_mul, k_div, rd_hi, rd_mi, rd_hl, rd_ml, rd_hr, rd_mr, rd_si2, rd_sl1, rd_sl2, rd_sr1, rd_sr2]
theorem rFt_r1 (hh : h ≤ 1) (hf : f < 12) (a : rFt h f N0 nb pl N) : ∃ N', rf1 N = some ((), N') ∧ rFt h f N0 nb pl N' := by
  obtain ⟨N', e1, e2⟩ := rFt_r2 hh hf a
  refine ⟨N', ?_, e2⟩
  unfold rf1
  rw [rFt_want a, k_bs, e1]
theorem rFt_r0 (hh : h ≤ 1) (hf : f < 12) (a : rFt h f N0 nb pl N) : ∃ N', fX11_definition_210 (nI 0) N = some ((), N') ∧ rFt h f N0 nb pl N' := by
  obtain ⟨N', e1, e2⟩ := rFt_r1 hh hf a
  refine ⟨N', ?_, e2⟩
  rw [rf0, rFt_want a, k_bs, e1]
theorem cO_si {c k : Nat} {v : Int32} (hb : b = 9 ∨ b = 24) (hc : cO b M0 T n cnt f i m nd M) (h1 : c = b + 4 ∨ c = b + 5 ∨ c = b + 7) : cO b M0 T n cnt f i m nd (mv_si M c k v) := by
  obtain ⟨g1, g2, g3, g4, g5, g6, g7, g8, g9, g10⟩ := hc
  exact ⟨cB_si hb g1 (by omega), by simp (disch := omega) only [rd_hi, rd_mi, rd_hl, rd_ml, rd_hr, rd_mr, rd_si2, rd_sl1, rd_sl2, rd_sr1, rd_sr2]; exact g2, g3, g4, g5, by simp (disch := omega) only [rd_hi, rd_mi, rd_hl, rd_ml, rd_hr, rd_mr, rd_si2, rd_sl1, rd_sl2, rd_sr1, rd_sr2]; exact g6, g7, by simp (disch := omega) only [rd_hi, rd_mi, rd_hl, rd_ml, rd_hr, rd_mr, rd_si2, rd_sl1, rd_sl2, rd_sr1, rd_sr2]; exact g8, g9, by simp (disch := omega) only [rd_hi, rd_mi, rd_hl, rd_ml, rd_hr, rd_mr, rd_si2, rd_sl1, rd_sl2, rd_sr1, rd_sr2]; exact g10⟩
theorem rA_si {c k : Nat} {v : Int32} (hr : rA h N0 T n f i m xn an N) (hh : h ≤ 1) (hc : (c = 65 ∨ c = 68) ∧ 12 * h ≤ k ∧ k < 12 * h + 12) : rA h N0 T n f i m xn an (mv_si N c k v) := by
  obtain ⟨⟨c1, c2, c3, c4, c5, c6⟩, c7, c8, c9⟩ := hr
  exact ⟨⟨rW_si c1 (by unfold rWa; omega), by simp (disch := omega) only [rd_hi, rd_mi, rd_hl, rd_ml, rd_hr, rd_mr, rd_si2, rd_sl1, rd_sl2, rd_sr1, rd_sr2]; exact c2, by simp (disch := omega) only [rd_hi, rd_mi, rd_hl, rd_ml, rd_hr, rd_mr, rd_si2, rd_sl1, rd_sl2, rd_sr1, rd_sr2]; exact c3, r_at_congr c4 (fun j _ _ => by simp (disch := omega) only [rd_hi, rd_mi, rd_hl, rd_ml, rd_hr, rd_mr, rd_si2, rd_sl1, rd_sl2, rd_sr1, rd_sr2]) rfl, by simp (disch := omega) only [rd_hi, rd_mi, rd_hl, rd_ml, rd_hr, rd_mr, rd_si2, rd_sl1, rd_sl2, rd_sr1, rd_sr2]; exact c5, by simp (disch := omega) only [rd_hi, rd_mi, rd_hl, rd_ml, rd_hr, rd_mr, rd_si2, rd_sl1, rd_sl2, rd_sr1, rd_sr2]; exact c6⟩, by simp (disch := omega) only [rd_hi, rd_mi, rd_hl, rd_ml, rd_hr, rd_mr, rd_si2, rd_sl1, rd_sl2, rd_sr1, rd_sr2]; exact c7, by simp (disch := omega) only [rd_hi, rd_mi, rd_hl, rd_ml, rd_hr, rd_mr, rd_si2, rd_sl1, rd_sl2, rd_sr1, rd_sr2]; exact c8, by simp (disch := omega) only [rd_hi, rd_mi, rd_hl, rd_ml, rd_hr, rd_mr, rd_si2, rd_sl1, rd_sl2, rd_sr1, rd_sr2]; exact c9⟩
/-- a function that is read: its rows on both sides -/
def FR (b h : Nat) (T : Nat → Nat) (n f nd nd' xn xn' an p m : Nat) (g : Nat → Nat → Nat) (M N : mv_M) : Prop := (M.1 (b + 2) f = nI p ∧ N.1 66 (12 * h + f) = nI p ∧ p ≤ 4) ∧ (M.1 (b + 3) f = nI m ∧ N.1 67 (12 * h + f) = nI m ∧ p ≤ m ∧ m ≤ 16) ∧ (∃ y, y ≤ 4 ∧ M.1 (b + 4) f = nI y ∧ N.1 65 (12 * h + f) = nI y) ∧ (∃ c, nd ≤ c ∧ c + 1 = nd' ∧ M.1 (b + 5) f = nI c ∧ N.1 68 (12 * h + f) = nI (g 0 c) ∧ g 1 c = nd) ∧ (∀ k, k < p → ∃ y, y ≤ 4 ∧ M.1 (b + 7) (f * 16 + k) = nI y ∧ N.1 70 (16 * (12 * h + f) + k) = nI y) ∧ NM b h f 0 m M N ∧ TI b T n g nd nd' xn xn' p m an M N ∧ LB g nd nd' 80
/-- what a function changes of the others: nothing -/
def cFf (b f nd : Nat) (M M' : mv_M) : Prop := (∀ c k, (b + 1 ≤ c ∧ c ≤ b + 5 ∧ k < f) ∨ (c = b + 7 ∧ k < f * 16) ∨ (b + 8 ≤ c ∧ c ≤ b + 14 ∧ k < nd) → M'.1 c k = M.1 c k) ∧ (∀ c k, (c = b + 1 ∧ k < f) ∨ (c = b + 6 ∧ k < f * 16) → M'.2.1 c k = M.2.1 c k)
def rFf (h f xn an : Nat) (N N' : mv_M) : Prop := (∀ c k, (65 ≤ c ∧ c ≤ 68 ∧ k < 12 * h + f) ∨ (c = 70 ∧ k < 16 * (12 * h + f)) ∨ (71 ≤ c ∧ c ≤ 76 ∧ k < xn) ∨ (c = 78 ∧ k < an) ∨ (c = 62 ∧ (k = 27 ∨ k = 28)) → N'.1 c k = N.1 c k) ∧ (∀ c k, (c = 64 ∧ k < 12 * h + f) ∨ (c = 69 ∧ k < 16 * (12 * h + f)) ∨ (c = 77 ∧ k < xn) → N'.2.1 c k = N.2.1 c k)
set_option maxHeartbeats 4000000 in
theorem j_tail (hx : pX b h M0 N0 T n cnt f) (hA : AP b h M0 N0 T n cnt f nd xn an i p M N) (hB : 1001 * h ≤ xn ∧ xn ≤ 1001 * h + i ∧ 1001 * h ≤ an ∧ an ≤ 1001 * h + i) : ∃ M' N', fX3_parseFunction_99 M = some ((), M') ∧ fX11_definition_210 (nI 0) N = some ((), N') ∧ ((∃ nb pl, cR b M0 cnt f nb pl M' ∧ rFt h f N0 nb pl N') ∨ (∃ nb pl, cD b M0 T n cnt f nb pl M' ∧ rFt h f N0 nb pl N') ∨ ∃ i' m' nd' xn' an' g, i < i' ∧ xn' ≤ 1001 * h + i' ∧ xn ≤ xn' ∧ an ≤ an' ∧ an' ≤ 1001 * h + i' ∧ cO b M0 T n cnt f i' m' nd' M' ∧ rA h N0 T n f i' m' xn' an' N' ∧ FR b h T n f nd nd' xn xn' an' p m' g M' N' ∧ nd ≤ nd' ∧ cFf b f nd M M' ∧ rFf h f xn an N N' ∧ M'.2.1 (b + 1) f = M.2.1 (b + 1) f ∧ N'.2.1 64 (12 * h + f) = N.2.1 64 (12 * h + f)) := by
  have hb := hx.1.1
  have hh := hx.2.2.1
  have hf := hx.2.2.2
  obtain ⟨hc, hp, hr, hp', hp4, hnm, hty⟩ := hA
  have gq : ∀ (X : mv_M) {β : Type} (F : Nat → Option β), cW b M0 X → mv_getp (X.2.2 3 2) F = F b := by
    intro X β F e
    have hb2 : (decide (b = 9) || decide (b = 24)) = true := by simpa using hb
    rw [(cW_tok hx.1 e).2.2.2.2]
    show mv_chk (decide (b = 9) || decide (b = 24)) (F b) = F b
    rw [hb2]; rfl
  rw [kf0, rf0]
  -- ')'
  obtain ⟨M1, N1, a1, a2, a3⟩ := j_want (w := 15) hx hc hr (by omega) (by omega)
  rw [kt15] at a1
  rw [show (41 : Int32) = nI 41 from rfl, a1, k_bs, show (15 : Int32) = nI 15 from rfl, a2, k_bs]
  have fin : ∀ {nb pl : Nat} {o : Option (Unit × mv_M)} {q : Option (Unit × mv_M)}, mv_ok o (fun _ M' => cR b M0 cnt f nb pl M') → (∃ N', q = some ((), N') ∧ rFt h f N0 nb pl N') → ∃ M' N', o = some ((), M') ∧ q = some ((), N') ∧ (∃ nb pl, cR b M0 cnt f nb pl M' ∧ rFt h f N0 nb pl N') := by
    intro nb pl o q u1 u2
    obtain ⟨_, M', k1, k2⟩ := ok_ex u1
    obtain ⟨N', k3, k4⟩ := u2
    exact ⟨M', N', k1, k3, nb, pl, k2, k4⟩
  rcases a3 with ⟨nb, pl, u1, u2⟩ | ⟨nb, pl, u1, u2⟩ | ⟨u0, u1, u2, u3⟩
  · obtain ⟨M', N', k1, k2, k3⟩ := fin (cD_k1 hx.1 (.inl u1)) (rFt_r1 hh hf u2)
    exact ⟨M', N', k1, k2, .inl k3⟩
  · obtain ⟨M', N', k1, k2, k3⟩ := fin (cD_k1 hx.1 u1) (rFt_r1 hh hf u2)
    exact ⟨M', N', k1, k2, .inl k3⟩
  -- ':'
  obtain ⟨M2, N2, b1, b2, b3⟩ := j_want (w := 18) hx u1 u2 (by omega) (by omega)
  rw [kt18] at b1
  unfold kf1 rf1
  rw [show (58 : Int32) = nI 58 from rfl, b1, k_bs, show (18 : Int32) = nI 18 from rfl, b2, k_bs]
  rcases b3 with ⟨nb, pl, v1, v2⟩ | ⟨nb, pl, v1, v2⟩ | ⟨v0, v1, v2, v3⟩
  · obtain ⟨M', N', k1, k2, k3⟩ := fin (cD_k2 hx.1 (.inl v1)) (rFt_r2 hh hf v2)
    exact ⟨M', N', k1, k2, .inl k3⟩
  · obtain ⟨M', N', k1, k2, k3⟩ := fin (cD_k2 hx.1 v1) (rFt_r2 hh hf v2)
    exact ⟨M', N', k1, k2, .inl k3⟩
  -- the type
  obtain ⟨r, M3, sv, N3, c1, c2, c3⟩ := j_ty hx v1 v2
  have q34 : M2.1 3 4 = nI f := v1.1.2.1
  have q33 : N2.1 62 33 = nI (12 * h + f) := v2.1.2.1
  unfold kf2 rf2
  rw [gq M2 _ v1.1.1, c1, k_bs, c2, k_bs, q34, q33, k_inb (by omega) (by omega), k_ck, k_inb (by omega) (by omega), k_ck, k_lt', k_lt', nI_clamp (by omega), nI_clamp (by omega)]
  rcases c3 with ⟨nb, pl, w1, w2, rfl⟩ | ⟨i3, y, rfl, rfl, w1, w2, w3, w4, w5, w6⟩
  · obtain ⟨M', N', k1, k2, k3⟩ := fin (cD_k3 hx.1 (cD_si (c := b + 4) (k := f) (v := r) hb w1 (by omega))) (rFt_r3 hh hf (rFt_si (c := 65) (k := 12 * h + f) (v := nI 0) w2 hh (by omega)))
    exact ⟨M', N', k1, k2, .inl k3⟩
  -- '='
  obtain ⟨M4, N4, d1, d2, d3⟩ := j_want (w := 13) hx (cO_si (c := b + 4) (k := f) (v := nI y) hb w3 (by omega)) (rA_si (c := 65) (k := 12 * h + f) (v := nI y) w4 hh (by omega)) (by omega) (by omega)
  rw [kt13] at d1
  unfold kf3 rf3
  rw [show (61 : Int32) = nI 61 from rfl, d1, k_bs, show (13 : Int32) = nI 13 from rfl, d2, k_bs]
  rcases d3 with ⟨nb, pl, e1, e2⟩ | ⟨nb, pl, e1, e2⟩ | ⟨e0, e1, e2, e3⟩
  · obtain ⟨M', N', k1, k2, k3⟩ := fin (cD_k4 hx.1 (.inl e1)) (rFt_r4 hh hf e2)
    exact ⟨M', N', k1, k2, .inl k3⟩
  · obtain ⟨M', N', k1, k2, k3⟩ := fin (cD_k4 hx.1 e1) (rFt_r4 hh hf e2)
    exact ⟨M', N', k1, k2, .inl k3⟩
  -- the expression
  obtain ⟨N5, p5, q5, s5⟩ := r_parse (s := 4) e2
  have g34 : M4.1 3 4 = nI f := e1.1.2.1
  have n9 : N4.1 62 9 = nI 0 := e2.1.2.2.2.2.2
  obtain ⟨r5, M5, N6, j1, j2, j3⟩ := J_out (Sp_E hx 20 0 (by omega) 220 (by omega) (i3 + 1) p nd xn an [] [] [] [] (fun _ _ => 0) M4 N5 (by simp) (by simp) (by simp; omega) e1 q5) (fun r M' N' hq => by
    obtain ⟨_, _, _, _, _, _, _, _, q, _⟩ := hq
    exact q.2.2.2.2.2.2.2.2.1.1)
  have j1' : tX3_parseE 0 M4 = some (r5, M5) := j1
  have ke : kf4 M4 = mv_bind (fX3_take (nI 59) (mv_si M5 (b + 5) f r5)) fun _ M29 => some ((), M29) := by
    unfold kf4
    rw [gq M4 _ e1.1.1, j1', k_bs, g34, k_inb (by omega) (by omega), k_ck, k_lt', nI_clamp (by omega)]
    rfl
  have re : rf4 N4 = fX11_definition_340 N6 := by
    unfold rf4
    simp (disch := omega) only [n9, p5, j2, k_iT, k_iF, Bool.false_eq_true, eq_self, Nat.add_zero, k_lt', k_bs, k_T, k_F, k_inb, k_ck, k_nz, ↓kN, kL, k_lt, k_le, k_eq, kn_le, kn_lt, kn_eq, kn_le', kn_lt', kn_eq', nI_clamp, nI_add, k_sub, k_mul, k_div, rd_hi, rd_mi, rd_hl, rd_ml, rd_hr, rd_mr, rd_si2, rd_sl1, rd_sl2, rd_sr1, rd_sr2]
  rw [ke, re]
  rcases j3 with ⟨nb, pl, k1, k2⟩ | ⟨i6, m6, c6, xn6, an6, g6, rfl, f1, f2, f3, f4, f5, f6, f7, f8, f9, fA⟩
  · obtain ⟨M', N', l1, l2, l3⟩ := fin (o := mv_bind (fX3_take (nI 59) (mv_si M5 (b + 5) f r5)) fun _ M29 => some ((), M29)) (ok_bind (ok_mono (cD_take' hx.1 (cD_si (c := b + 5) (k := f) (v := r5) hb k1 (by omega)) (by decide) (by decide)) (fun _ _ h2 => ok_some h2))) (rFt_340 hh hf k2)
    exact ⟨M', N', l1, l2, .inl l3⟩
  have m83 : N6.1 83 0 = nI (g6 0 c6) := f2.2.2.2.2.2.2.2.2.2.1.2.1
  have n33 : N6.1 62 33 = nI (12 * h + f) := f2.2.1
  obtain ⟨M7, N7, l1, l2, l3⟩ := j_want (w := 17) hx (cO_si (c := b + 5) (k := f) (v := nI c6) hb f1 (by omega)) (rA_si (c := 68) (k := 12 * h + f) (v := nI (g6 0 c6)) (rO_A f2) hh (by omega)) (by omega) (by omega)
  rw [kt17] at l1
  have re2 : fX11_definition_340 N6 = some ((), N7) := by
    unfold fX11_definition_340
    simp (disch := omega) only [n33, m83, l2, k_iT, k_iF, Bool.false_eq_true, eq_self, Nat.add_zero, k_lt', k_bs, k_T, k_F, k_inb, k_ck, k_nz, ↓kN, kL, k_lt, k_le, k_eq, kn_le, kn_lt, kn_eq, kn_le', kn_lt', kn_eq', nI_clamp, nI_add, k_sub, k_mul, k_div, rd_hi, rd_mi, rd_hl, rd_ml, rd_hr, rd_mr, rd_si2, rd_sl1, rd_sl2, rd_sr1, rd_sr2]
  rw [l1, k_bs, re2]
  refine ⟨M7, N7, rfl, rfl, ?_⟩
  rcases l3 with z | z | ⟨z0, z1, z2, z3⟩
  · exact .inl z
  · exact .inr (.inl z)
  -- all is well
  have hi6 := f1.2.2.2.1
  have C : ∀ c k, ¬ ((c = 1 ∧ k ≤ 1) ∨ (c = 3 ∧ k = 3) ∨ (c = b ∧ k = 8) ∨ (c = b + 3 ∧ k = f) ∨ (c = b + 4 ∧ k = f) ∨ (c = b + 5 ∧ k = f) ∨ (b + 8 ≤ c ∧ c ≤ b + 14 ∧ nd ≤ k)) → M7.1 c k = M.1 c k := by
    intro c k u
    rw [z0]
    simp (disch := omega) only [rd_hi, rd_mi, rd_hl, rd_ml, rd_hr, rd_mr, rd_si2, rd_sl1, rd_sl2, rd_sr1, rd_sr2]
    rw [f8.1 c k (by unfold cEa; omega), e0]
    simp (disch := omega) only [rd_hi, rd_mi, rd_hl, rd_ml, rd_hr, rd_mr, rd_si2, rd_sl1, rd_sl2, rd_sr1, rd_sr2]
    rw [w5.1 c k (by unfold cEa; omega), v0]
    simp (disch := omega) only [rd_hi, rd_mi, rd_hl, rd_ml, rd_hr, rd_mr, rd_si2, rd_sl1, rd_sl2, rd_sr1, rd_sr2]
    rw [u0]
    simp (disch := omega) only [rd_hi, rd_mi, rd_hl, rd_ml, rd_hr, rd_mr, rd_si2, rd_sl1, rd_sl2, rd_sr1, rd_sr2]
  have C2 : ∀ c k, ¬ (c = b + 6 ∧ f * 16 + p ≤ k) → M7.2.1 c k = M.2.1 c k := by
    intro c k u
    rw [z0]
    show M5.2.1 c k = _
    rw [f8.2 c k (by omega), e0]
    show M3.2.1 c k = _
    rw [w5.2 c k (by omega), v0, u0]
    rfl
  have R : ∀ c k, ¬ ((c = 62 ∧ ((3 ≤ k ∧ k ≤ 10) ∨ k = 29 ∨ k = 30 ∨ k = 32 ∨ k = 36 ∨ k = 38 ∨ k = 40 ∨ k = 41)) ∨ (c = 67 ∧ k = 12 * h + f) ∨ (c = 65 ∧ k = 12 * h + f) ∨ (c = 68 ∧ k = 12 * h + f) ∨ (71 ≤ c ∧ c ≤ 76 ∧ xn ≤ k) ∨ (c = 78 ∧ an ≤ k) ∨ (80 ≤ c ∧ c ≤ 84)) → N7.1 c k = N.1 c k := by
    intro c k u
    rw [z3.1 c k (by omega)]
    simp (disch := omega) only [rd_hi, rd_mi, rd_hl, rd_ml, rd_hr, rd_mr, rd_si2, rd_sl1, rd_sl2, rd_sr1, rd_sr2]
    rw [f9.1 c k (by unfold rEa; omega), s5.1 c k (by omega), e3.1 c k (by omega)]
    simp (disch := omega) only [rd_hi, rd_mi, rd_hl, rd_ml, rd_hr, rd_mr, rd_si2, rd_sl1, rd_sl2, rd_sr1, rd_sr2]
    rw [w6.1 c k (by omega), v3.1 c k (by omega), u3.1 c k (by omega)]
  have R2 : ∀ c k, ¬ ((c = 62 ∧ k = 7) ∨ (c = 69 ∧ 16 * (12 * h + f) + p ≤ k) ∨ (c = 77 ∧ xn ≤ k)) → N7.2.1 c k = N.2.1 c k := by
    intro c k u
    rw [z3.2.1 c k (by omega)]
    show N6.2.1 c k = _
    rw [f9.2 c k (by unfold rEl; omega), s5.2 c k (by omega), e3.2.1 c k (by omega)]
    show N3.2.1 c k = _
    rw [w6.2 c k (by omega), v3.2.1 c k (by omega), u3.2.1 c k (by omega)]
  refine .inr (.inr ⟨i6 + 1, m6, c6 + 1, xn6, an6, g6, by omega, by omega, by omega, by omega, by omega, z1, z2, ⟨⟨(C _ _ (by omega)).trans hp, (R _ _ (by omega)).trans hp', hp4⟩, ⟨z1.2.2.2.2.2.1, z2.1.2.2.1, by omega, f1.2.2.2.2.2.2.1⟩, ⟨y, w1, ?_, ?_⟩, ⟨c6, by omega, rfl, ?_, ?_, f4⟩, fun k hk => ?_, ?_, ?_, LB_mono fA (by unfold lbB; omega)⟩, by omega, ⟨fun c k u => C c k (by omega), fun c k u => C2 c k (by omega)⟩, ⟨fun c k u => R c k (by omega), fun c k u => R2 c k (by omega)⟩, C2 _ _ (by omega), R2 _ _ (by omega)⟩)
  · rw [z0]
    simp (disch := omega) only [rd_hi, rd_mi, rd_hl, rd_ml, rd_hr, rd_mr, rd_si2, rd_sl1, rd_sl2, rd_sr1, rd_sr2]
    rw [f8.1 _ _ (by unfold cEa; omega), e0]
    simp (disch := omega) only [rd_hi, rd_mi, rd_hl, rd_ml, rd_hr, rd_mr, rd_si2, rd_sl1, rd_sl2, rd_sr1, rd_sr2]
  · rw [z3.1 _ _ (by omega)]
    simp (disch := omega) only [rd_hi, rd_mi, rd_hl, rd_ml, rd_hr, rd_mr, rd_si2, rd_sl1, rd_sl2, rd_sr1, rd_sr2]
    rw [f9.1 _ _ (by unfold rEa; omega), s5.1 _ _ (by omega), e3.1 _ _ (by omega)]
    simp (disch := omega) only [rd_hi, rd_mi, rd_hl, rd_ml, rd_hr, rd_mr, rd_si2, rd_sl1, rd_sl2, rd_sr1, rd_sr2]
  · rw [z0]
    simp (disch := omega) only [rd_hi, rd_mi, rd_hl, rd_ml, rd_hr, rd_mr, rd_si2, rd_sl1, rd_sl2, rd_sr1, rd_sr2]
  · rw [z3.1 _ _ (by omega)]
    simp (disch := omega) only [rd_hi, rd_mi, rd_hl, rd_ml, rd_hr, rd_mr, rd_si2, rd_sl1, rd_sl2, rd_sr1, rd_sr2]
  · obtain ⟨y', y1, y2, y3⟩ := hty k hk
    exact ⟨y', y1, (C _ _ (by omega)).trans y2, (R _ _ (by omega)).trans y3⟩
  · refine NM_app (m1 := p) (fun k u1 u2 => ?_) (fun k u1 u2 => ?_)
    · rw [C2 _ _ (by omega), R2 _ _ (by omega)]
      exact hnm k u1 u2
    · rw [z3.2.1 _ _ (by omega), z0]
      exact f7 k u1 u2
  · refine TI_congr f5 (fun c k u1 u2 u3 u4 _ => ?_) (fun c k u1 u2 u3 u4 => ?_) (fun k u1 u2 => ?_) (fun k u => ?_) (fun _ _ _ => ⟨rfl, rfl⟩) (fun _ _ _ => rfl)
    · rw [z0]
      simp (disch := omega) only [rd_hi, rd_mi, rd_hl, rd_ml, rd_hr, rd_mr, rd_si2, rd_sl1, rd_sl2, rd_sr1, rd_sr2]
    · rw [z3.1 _ _ (by omega)]
      simp (disch := omega) only [rd_hi, rd_mi, rd_hl, rd_ml, rd_hr, rd_mr, rd_si2, rd_sl1, rd_sl2, rd_sr1, rd_sr2]
    · rw [z3.2.1 _ _ (by omega)]
      rfl
    · rw [z3.1 _ _ (by omega)]
      simp (disch := omega) only [rd_hi, rd_mi, rd_hl, rd_ml, rd_hr, rd_mr, rd_si2, rd_sl1, rd_sl2, rd_sr1, rd_sr2]
end JF
