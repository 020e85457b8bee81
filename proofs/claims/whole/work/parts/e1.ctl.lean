/-! RUNS: counters, tasks, turns -/
def Cq (m pr cl : Nat) (M N : mv_M) : Prop := (M.1 8 0 = nI m ∧ N.1 62 67 = nI m) ∧ (M.1 8 1 = nI pr ∧ N.1 62 68 = nI pr) ∧ M.1 7 4 = nI cl ∧ N.1 62 69 = nI cl
def Ct (st mx dp dd t kp : Nat) (M N : mv_M) : Prop := (st ≤ mx ∧ mx ≤ 20000 ∧ dp ≤ 150 ∧ dd ≤ 150 ∧ t ≤ 5 * dp + 40 ∧ kp ≤ dp) ∧ (M.1 7 3 = nI st ∧ N.1 62 70 = nI st) ∧ (M.1 7 7 = nI mx ∧ N.1 62 71 = nI mx) ∧ (M.1 7 8 = nI dp ∧ N.1 62 72 = nI dp) ∧ (M.1 7 5 = nI dd ∧ N.1 62 73 = nI dd) ∧ (M.1 7 2 = nI 0 ∧ N.1 62 74 = nI 0) ∧ N.1 62 36 = nI t ∧ N.1 62 82 = nI kp
def Pg (b h : Nat) (P : Nat → Nat → Nat) (F ND : Nat) (M N : mv_M) : Prop := WFp P F ND ∧ WSc P F ∧ PR b h P F ND M N ∧ M.2.2 7 6 = some b
def cAr (a p : Nat) : Prop := (a = 7 ∧ ((2 ≤ p ∧ p ≤ 5) ∨ p = 8 ∨ p = 9)) ∨ a = 8 ∨ (50 ≤ a ∧ a ≤ 61)
def rAr (a p : Nat) : Prop := (a = 62 ∧ (p = 36 ∨ (67 ≤ p ∧ p ≤ 70) ∨ (72 ≤ p ∧ p ≤ 74) ∨ p = 77 ∨ p = 78 ∨ p = 82)) ∨ a = 81 ∨ a = 82 ∨ a = 85 ∨ (95 ≤ a ∧ a ≤ 103) ∨ a = 105
/-- what a run changes -/
def gF (M N M' N' : mv_M) : Prop := (M'.2 = M.2 ∧ ∀ a p, ¬ cAr a p → M'.1 a p = M.1 a p) ∧ N'.2 = N.2 ∧ ∀ a p, ¬ rAr a p → N'.1 a p = N.1 a p
def kS (dp : Nat) (M M' : mv_M) : Prop := ∀ a i, 51 ≤ a ∧ a ≤ 54 → i < dp → M'.1 a i = M.1 a i
def kT (t kp : Nat) (N N' : mv_M) : Prop := (∀ a i, a = 81 ∨ a = 82 ∨ a = 85 → i < t → N'.1 a i = N.1 a i) ∧ ∀ i, i < kp → N'.1 105 i = N.1 105 i
def SS (b h : Nat) (P : Nat → Nat → Nat) (F ND : Nat) (it : Nat → Nat) (n m pr cl : Nat) (ff : Nat → Nat) (st mx dp dd t kp : Nat) (M N : mv_M) : Prop := Pg b h P F ND M N ∧ Cr P F it n m pr cl ff M N ∧ Cq m pr cl M N ∧ Ct st mx dp dd t kp M N
/-- control cells alone -/
def kC (a p : Nat) : Prop := (a = 7 ∧ (p = 2 ∨ p = 3 ∨ p = 5 ∨ p = 8 ∨ p = 9)) ∨ (51 ≤ a ∧ a ≤ 54)
def kR' (a p : Nat) : Prop := (a = 62 ∧ (p = 36 ∨ p = 70 ∨ (72 ≤ p ∧ p ≤ 74) ∨ p = 77 ∨ p = 78 ∨ p = 82)) ∨ a = 81 ∨ a = 82 ∨ a = 85 ∨ a = 105
def tk3 (N : mv_M) (t : Nat) (op a w : Int32) : Prop := N.1 81 t = op ∧ N.1 82 t = a ∧ N.1 85 t = w
def pT (N : mv_M) (t : Nat) (op a w : Int32) : mv_M := mv_si (mv_si (mv_si (mv_si N 85 t w) 81 t op) 82 t a) 62 36 (nI (t + 1))
section RV
variable {b h F ND n m pr cl m' pr' cl' k t t' fr x st mx dp dd kp kp' d tn e i : Nat} {P : Nat → Nat → Nat} {it ff ff' : Nat → Nat} {M N M' N' M2 N2 : mv_M} {Z Z' : Nat → Nat → Prop} {v op a w : Int32}
theorem gF_rf : gF M N M N := ⟨⟨rfl, fun _ _ _ => rfl⟩, rfl, fun _ _ _ => rfl⟩
theorem gF_tr (h1 : gF M N M' N') (h2 : gF M' N' M2 N2) : gF M N M2 N2 := ⟨⟨h2.1.1.trans h1.1.1, fun a p u => (h2.1.2 a p u).trans (h1.1.2 a p u)⟩, h2.2.1.trans h1.2.1, fun a p u => (h2.2.2 a p u).trans (h1.2.2 a p u)⟩
theorem kS_rf : kS dp M M := fun _ _ _ _ => rfl
theorem kS_tr (h1 : kS dp M M') (h2 : kS d M' M2) (hd : dp ≤ d) : kS dp M M2 := fun a i u hi => (h2 a i u (by omega)).trans (h1 a i u hi)
theorem kT_rf : kT t kp N N := ⟨fun _ _ _ _ => rfl, fun _ _ => rfl⟩
theorem kT_tr (h1 : kT t kp N N') (h2 : kT t' kp' N' N2) (ht : t ≤ t') (hk : kp ≤ kp') : kT t kp N N2 := ⟨fun a i u hi => (h2.1 a i u (by omega)).trans (h1.1 a i u hi), fun i hi => (h2.2 i (by omega)).trans (h1.2 i hi)⟩
theorem Pg_F (hP : Pg b h P F ND M N) (hg : gF M N M' N') : Pg b h P F ND M' N' := by
  obtain ⟨p1, p2, p3, p4⟩ := hP
  have hb := p3.1
  exact ⟨p1, p2, PR_F p3 (fun c k u1 u2 => hg.1.2 c k (by unfold cAr; omega)) (fun c k u1 u2 => hg.2.2 c k (by unfold rAr; omega)), by rw [hg.1.1]; exact p4⟩
/-- only control cells change -/
theorem SS_c {m pr cl st mx dp dd t kp st' mx' dp' dd' t' kp' : Nat} (hS : SS b h P F ND it n m pr cl ff st mx dp dd t kp M N) (e2 : M'.2 = M.2) (eM : ∀ a p, ¬ kC a p → M'.1 a p = M.1 a p) (e3 : N'.2 = N.2) (eN : ∀ a p, ¬ kR' a p → N'.1 a p = N.1 a p) (hc : Ct st' mx' dp' dd' t' kp' M' N') : SS b h P F ND it n m pr cl ff st' mx' dp' dd' t' kp' M' N' ∧ Ex P it n Z m pr cl ff M N m pr cl ff M' N' ∧ gF M N M' N' := by
  obtain ⟨s1, s2, s3, s4⟩ := hS
  have g : gF M N M' N' := ⟨⟨e2, fun a p u => eM a p (fun z => u (by unfold kC at z; unfold cAr; omega))⟩, e3, fun a p u => eN a p (fun z => u (by unfold kR' at z; unfold rAr; omega))⟩
  have q1 : sM pr cl M M' := fun a p u => eM a p (by unfold kC; omega)
  have q2 : sN pr cl N N' := fun a p u => eN a p (by unfold kR'; omega)
  refine ⟨⟨Pg_F s1 g, Cr_s q1 q2 s2, ?_, hc⟩, Ex_s q1 q2, g⟩
  obtain ⟨⟨c1, c2⟩, ⟨c3, c4⟩, c5, c6⟩ := s3
  exact ⟨⟨(eM _ _ (by unfold kC; omega)).trans c1, (eN _ _ (by unfold kR'; omega)).trans c2⟩, ⟨(eM _ _ (by unfold kC; omega)).trans c3, (eN _ _ (by unfold kR'; omega)).trans c4⟩, (eM _ _ (by unfold kC; omega)).trans c5, (eN _ _ (by unfold kR'; omega)).trans c6⟩
theorem bind_id {o : Option (Unit × mv_M)} : mv_bind o (fun _ M => some ((), M)) = o := by
  cases o with
  | none => rfl
  | some r => rfl
-- turns of the class
theorem W_go (ht : tn < 1000000) (e8 : M.1 7 8 = nI (d + 1)) (hd : d < 150) (e2 : M.1 7 2 = nI 0) (hg : fX2_goOn (nI d) M = some ((), M')) : fX2_workOut_8 (nI tn) M = fX2_workOut_8 (nI (tn + 1)) M' := by
  unfold fX2_workOut_8
  refine lp_go ?_
  show gX2_workOut_8 (nI tn) M = _
  unfold gX2_workOut_8
  simp (disch := omega) only [↓reduceIte, e8, e2, Nat.add_sub_cancel, hg, k_iT, k_iF, Bool.false_eq_true, eq_self, Nat.add_zero, k_lt', k_bs, k_T, k_F, k_inb, k_ck, k_nz, ↓kN, kL, k_lt, k_le, k_eq, kn_le, kn_lt, kn_eq, kn_le', kn_lt', kn_eq', nI_clamp, nI_add, k_sub, k_mul, k_div, rd_hi, rd_mi, rd_hl, rd_ml, rd_hr, rd_mr, rd_si2, rd_sl1, rd_sl2, rd_sr1, rd_sr2]
theorem W_end (e2 : M.1 7 2 = nI e) (h1 : 0 < e) (h2 : e < 2 ^ 31) : fX2_workOut_8 (nI tn) M = some ((), M) := by
  unfold fX2_workOut_8
  refine lp_out (t := ()) ?_
  show gX2_workOut_8 (nI tn) M = _
  unfold gX2_workOut_8
  by_cases u1 : (1000000 : Int32) ≤ nI tn
  · rw [if_pos u1]
  · rw [if_neg u1]
    by_cases u2 : M.1 7 8 ≤ 0
    · rw [if_pos u2]
    · rw [if_neg u2, e2, if_neg (by rw [kM, k_eq (by omega) (by omega)]; omega)]
theorem W_out (e8 : M.1 7 8 = nI 0) : fX2_workOut_8 (nI tn) M = some ((), M) := by
  unfold fX2_workOut_8
  refine lp_out (t := ()) ?_
  show gX2_workOut_8 (nI tn) M = _
  unfold gX2_workOut_8
  by_cases u1 : (1000000 : Int32) ≤ nI tn
  · rw [if_pos u1]
  · rw [if_neg u1, e8, if_pos (by decide)]
-- tasks of the reference
theorem G_go (hg : gX11_goes_0 N = some (.inl (), N')) : fX11_goes_0 N = fX11_goes_0 N' := by
  unfold fX11_goes_0
  exact lp_go hg
theorem G_end (e2 : N.1 62 74 = nI e) (h1 : 0 < e) (h2 : e < 2 ^ 31) : fX11_goes_0 N = some ((), N) := by
  unfold fX11_goes_0
  refine lp_out (t := ()) ?_
  show gX11_goes_0 N = _
  unfold gX11_goes_0
  by_cases u1 : N.1 62 36 ≤ 0
  · rw [if_pos u1]
  · rw [if_neg u1, e2, if_neg (by rw [kM, k_eq (by omega) (by omega)]; omega)]
theorem G_out (e2 : N.1 62 36 = nI 0) : fX11_goes_0 N = some ((), N) := by
  unfold fX11_goes_0
  refine lp_out (t := ()) ?_
  show gX11_goes_0 N = _
  unfold gX11_goes_0
  rw [e2, if_pos (by decide)]
/-- a task's own work -/
noncomputable def gO (op v3 v5 : Int32) (M1 : mv_M) : Option (((Unit) ⊕ Unit) × mv_M) :=
  if op = 1 then
    mv_bind (fX11_work v3 v5 M1) fun _ M8 =>
    fX11_goes_394 M8
  else
    if op = 2 then
      mv_let (mv_si M1 62 72 ((M1.1 62 72) - 1)) fun M10 =>
      fX11_goes_394 M10
    else
      if op = 3 then
        mv_chk (mv_inb v3 1540) <|
        mv_let (mv_si M1 97 v3.toNatClampNeg 2) fun M13 =>
        mv_chk (mv_inb v3 1540) <|
        mv_let (mv_si M13 98 v3.toNatClampNeg (M13.1 62 77)) fun M15 =>
        mv_chk (mv_inb v3 1540) <|
        mv_let (mv_si M15 99 v3.toNatClampNeg (M15.1 62 78)) fun M17 =>
        fX11_goes_394 M17
      else
        if op = 4 then
          mv_chk (mv_inb (M1.1 62 82) 3000) <|
          mv_let (mv_si M1 105 (M1.1 62 82).toNatClampNeg (M1.1 62 78)) fun M20 =>
          mv_let (mv_si M20 62 82 ((M20.1 62 82) + 1)) fun M21 =>
          fX11_goes_394 M21
        else
          if op = 5 then
            mv_let (mv_si M1 62 82 ((M1.1 62 82) - 1)) fun M23 =>
            mv_chk (mv_inb (M23.1 62 82) 3000) <|
            mv_let (M23.1 105 (M23.1 62 82).toNatClampNeg) fun v25 =>
            mv_let (M23.1 62 78) fun v26 =>
            if v3 = 19 then
              fX11_goes_276 (v25 + v26) 0 M23
            else
              if v3 = 20 then
                fX11_goes_276 (v25 - v26) 0 M23
              else
                if v3 = 21 then
                  fX11_goes_276 (v25 * v26) 0 M23
                else
                  if v3 = 22 then
                    if v26 ≤ v25 then
                      fX11_goes_276 0 0 M23
                    else
                      fX11_goes_276 1 0 M23
                  else
                    if v25 = v26 then
                      fX11_goes_276 1 0 M23
                    else
                      fX11_goes_276 0 0 M23
          else
            if op = 6 then
              if (M1.1 62 78) = 0 then
                mv_chk (mv_inb v3 2002) <|
                fX11_goes_306 v5 (M1.1 74 v3.toNatClampNeg) 1 M1
              else
                mv_chk (mv_inb v3 2002) <|
                fX11_goes_306 v5 (M1.1 73 v3.toNatClampNeg) 1 M1
            else
              if op = 7 then
                mv_chk (mv_inb v3 2002) <|
                mv_chk (mv_inb (M1.1 62 78) 1540) <|
                mv_chk (mv_inb ((16 * v5) + (M1.1 74 v3.toNatClampNeg)) 24032) <|
                mv_let (mv_si M1 103 ((16 * v5) + (M1.1 74 v3.toNatClampNeg)).toNatClampNeg (M1.1 101 (M1.1 62 78).toNatClampNeg)) fun M34 =>
                mv_chk (mv_inb v3 2002) <|
                mv_chk (mv_inb (M34.1 62 78) 1540) <|
                mv_chk (mv_inb (((16 * v5) + (M34.1 74 v3.toNatClampNeg)) + 1) 24032) <|
                mv_let (mv_si M34 103 (((16 * v5) + (M34.1 74 v3.toNatClampNeg)) + 1).toNatClampNeg (M34.1 102 (M34.1 62 78).toNatClampNeg)) fun M38 =>
                mv_chk (mv_inb v3 2002) <|
                mv_bind (fX11_task 1 (M38.1 73 v3.toNatClampNeg) v5 M38) fun _ M40 =>
                fX11_goes_394 M40
              else
                if op = 8 then
                  mv_bind (fX11_need v3 M1) fun _ M42 =>
                  fX11_goes_394 M42
                else
                  mv_bind (fX11_demand v3 v5 M1) fun _ M43 =>
                  fX11_goes_394 M43
theorem r_pp (e36 : N.1 62 36 = nI (t + 1)) (ht : t < 3000) (e74 : N.1 62 74 = nI 0) (hk : tk3 N t op a w) : gX11_goes_0 N = gO op a w (mv_si N 62 36 (nI t)) := by
  obtain ⟨k1, k2, k3⟩ := hk
  have e : nI (t + 1) - (1 : Int32) = nI t := by
    show nI (t + 1) - nI 1 = nI t
    rw [k_sub (by omega), Nat.add_sub_cancel]
  unfold gX11_goes_0
  rw [e36, if_neg (by rw [kM, k_le (by omega) (by omega)]; omega), e74, if_pos (by decide), k_lt', e]
  have r36 : (mv_si N 62 36 (nI t)).1 62 36 = nI t := by simp (disch := omega) only [rd_hi, rd_mi, rd_hl, rd_ml, rd_hr, rd_mr, rd_si2, rd_sl1, rd_sl2, rd_sr1, rd_sr2]
  have r81 : (mv_si N 62 36 (nI t)).1 81 t = op := by simp (disch := omega) only [rd_hi, rd_mi, rd_hl, rd_ml, rd_hr, rd_mr, rd_si2, rd_sl1, rd_sl2, rd_sr1, rd_sr2]; exact k1
  have r82 : (mv_si N 62 36 (nI t)).1 82 t = a := by simp (disch := omega) only [rd_hi, rd_mi, rd_hl, rd_ml, rd_hr, rd_mr, rd_si2, rd_sl1, rd_sl2, rd_sr1, rd_sr2]; exact k2
  have r85 : (mv_si N 62 36 (nI t)).1 85 t = w := by simp (disch := omega) only [rd_hi, rd_mi, rd_hl, rd_ml, rd_hr, rd_mr, rd_si2, rd_sl1, rd_sl2, rd_sr1, rd_sr2]; exact k3
  generalize mv_si N 62 36 (nI t) = M1 at r36 r81 r82 r85 ⊢
  rw [r36, k_inb (by omega) (by omega), k_ck, nI_clamp (by omega), r82, k_lt', k_ck, r85, k_lt', k_ck, r81]
  rfl
theorem r_task (h36 : N.1 62 36 = nI t) (ht : t < 3000) : fX11_task op a w N = some ((), pT N t op a w) := by
  unfold fX11_task fX11_push pT
  simp (disch := omega) only [h36, k_iT, k_iF, Bool.false_eq_true, eq_self, Nat.add_zero, k_lt', k_bs, k_T, k_F, k_inb, k_ck, k_nz, ↓kN, kL, k_lt, k_le, k_eq, kn_le, kn_lt, kn_eq, kn_le', kn_lt', kn_eq', nI_clamp, nI_add, k_sub, k_mul, k_div, rd_hi, rd_mi, rd_hl, rd_ml, rd_hr, rd_mr, rd_si2, rd_sl1, rd_sl2, rd_sr1, rd_sr2]
theorem pT_36 : (pT N t op a w).1 62 36 = nI (t + 1) := by unfold pT; simp (disch := omega) only [rd_hi, rd_mi, rd_hl, rd_ml, rd_hr, rd_mr, rd_si2, rd_sl1, rd_sl2, rd_sr1, rd_sr2]
theorem pT_top : tk3 (pT N t op a w) t op a w := by unfold pT; exact ⟨by simp (disch := omega) only [rd_hi, rd_mi, rd_hl, rd_ml, rd_hr, rd_mr, rd_si2, rd_sl1, rd_sl2, rd_sr1, rd_sr2], by simp (disch := omega) only [rd_hi, rd_mi, rd_hl, rd_ml, rd_hr, rd_mr, rd_si2, rd_sl1, rd_sl2, rd_sr1, rd_sr2], by simp (disch := omega) only [rd_hi, rd_mi, rd_hl, rd_ml, rd_hr, rd_mr, rd_si2, rd_sl1, rd_sl2, rd_sr1, rd_sr2]⟩
theorem pT_s {c p : Nat} (hc : ¬ ((c = 62 ∧ p = 36) ∨ ((c = 81 ∨ c = 82 ∨ c = 85) ∧ p = t))) : (pT N t op a w).1 c p = N.1 c p := by unfold pT; simp (disch := omega) only [rd_hi, rd_mi, rd_hl, rd_ml, rd_hr, rd_mr, rd_si2, rd_sl1, rd_sl2, rd_sr1, rd_sr2]
theorem pT_2 : (pT N t op a w).2 = N.2 := rfl
theorem tk3_s {op a w : Int32} (h1 : tk3 N i op a w) (h2 : kT t kp N N') (hi : i < t) : tk3 N' i op a w := ⟨(h2.1 81 i (by omega) hi).trans h1.1, (h2.1 82 i (by omega) hi).trans h1.2.1, (h2.1 85 i (by omega) hi).trans h1.2.2⟩
theorem tk3_p {op a w op' a' w' : Int32} (h1 : tk3 N i op a w) (hi : i ≠ t) : tk3 (pT N t op' a' w') i op a w := ⟨(pT_s (by omega)).trans h1.1, (pT_s (by omega)).trans h1.2.1, (pT_s (by omega)).trans h1.2.2⟩
theorem pT_T (hi : t ≤ i) : kT t kp N (pT N i op a w) := ⟨fun c j u hj => pT_s (by omega), fun j _ => pT_s (by omega)⟩
-- the reference's work behind its counting
noncomputable def wkR (x1 x2 : Int32) (M5 : mv_M) : Option (Unit × mv_M) :=
  mv_chk (mv_inb x1 2002) <|
  if (M5.1 71 x1.toNatClampNeg) = 1 then
    mv_chk (mv_inb x1 2002) <|
    mv_bind (fX11_task 5 (M5.1 74 x1.toNatClampNeg) 0 M5) fun _ M9 =>
    mv_chk (mv_inb x1 2002) <|
    mv_bind (fX11_task 1 (M9.1 73 x1.toNatClampNeg) x2 M9) fun _ M11 =>
    mv_bind (fX11_task 4 0 0 M11) fun _ M12 =>
    mv_chk (mv_inb x1 2002) <|
    mv_bind (fX11_task 1 (M12.1 72 x1.toNatClampNeg) x2 M12) fun _ M14 =>
    some ((), M14)
  else
    if (M5.1 71 x1.toNatClampNeg) = 2 then
      mv_bind (fX11_task 6 x1 x2 M5) fun _ M16 =>
      mv_chk (mv_inb x1 2002) <|
      mv_bind (fX11_task 1 (M16.1 72 x1.toNatClampNeg) x2 M16) fun _ M18 =>
      some ((), M18)
    else
      if (M5.1 71 x1.toNatClampNeg) = 3 then
        mv_chk (mv_inb x1 2002) <|
        mv_chk (mv_inb x1 2002) <|
        mv_bind (fX11_thing (M5.1 72 x1.toNatClampNeg) x2 M5) fun r22 M23 =>
        mv_chk (mv_inb ((16 * x2) + (M5.1 74 x1.toNatClampNeg)) 24032) <|
        mv_let (mv_si M23 103 ((16 * x2) + (M5.1 74 x1.toNatClampNeg)).toNatClampNeg r22) fun M25 =>
        mv_chk (mv_inb x1 2002) <|
        mv_bind (fX11_task 1 (M25.1 73 x1.toNatClampNeg) x2 M25) fun _ M27 =>
        some ((), M27)
      else
        if (M5.1 71 x1.toNatClampNeg) = 4 then
          mv_bind (fX11_task 7 x1 x2 M5) fun _ M29 =>
          mv_chk (mv_inb x1 2002) <|
          mv_bind (fX11_task 1 (M29.1 72 x1.toNatClampNeg) x2 M29) fun _ M31 =>
          some ((), M31)
        else
          if (M5.1 71 x1.toNatClampNeg) = 5 then
            mv_chk (mv_inb x1 2002) <|
            mv_bind (fX11_gives 0 (M5.1 72 x1.toNatClampNeg) M5) fun _ M34 =>
            some ((), M34)
          else
            if (M5.1 71 x1.toNatClampNeg) = 6 then
              mv_let (mv_si M5 62 74 2) fun M36 =>
              some ((), M36)
            else
              if (M5.1 71 x1.toNatClampNeg) = 7 then
                mv_chk (mv_inb x1 2002) <|
                mv_chk (mv_inb ((16 * x2) + (M5.1 72 x1.toNatClampNeg)) 24032) <|
                mv_bind (fX11_need (M5.1 103 ((16 * x2) + (M5.1 72 x1.toNatClampNeg)).toNatClampNeg) M5) fun _ M40 =>
                some ((), M40)
              else
                if (M5.1 71 x1.toNatClampNeg) = 8 then
                  mv_bind (fX11_called x1 x2 M5) fun _ M42 =>
                  some ((), M42)
                else
                  mv_bind (fX11_paired x1 x2 M5) fun _ M43 =>
                  some ((), M43)
theorem wk_85 {x1 x2 s0 : Int32} : fX11_work_85 x1 x2 s0 M = mv_bind (fX11_task 2 0 0 (mv_si M 62 73 s0)) fun _ M5 => wkR x1 x2 M5 := rfl
/-- the reference enters -/
def eR (N : mv_M) (st dp dd t : Nat) : mv_M := pT (mv_si (mv_si (mv_si (mv_si (mv_si N 62 36 (nI t)) 62 74 (nI 0)) 62 70 (nI (st + 1))) 62 72 (nI (dp + 1))) 62 73 (nI (max dd (dp + 1)))) t (nI 2) (nI 0) (nI 0)
def eW (M : mv_M) (x fr st dp dd : Nat) : mv_M := mv_si (mv_si (mv_si (mv_si (mv_si (mv_si M 7 3 (nI (st + 1))) 51 dp (nI x)) 52 dp (nI fr)) 53 dp (nI 0)) 7 8 (nI (dp + 1))) 7 5 (nI (max dd (dp + 1)))
theorem mx_if {p q : Nat} : (if p < q then nI q else nI p) = nI (max p q) := by
  by_cases u : p < q
  · rw [if_pos u, Nat.max_eq_right (by omega)]
  · rw [if_neg u, Nat.max_eq_left (by omega)]
theorem c_enter (hc : Ct st mx dp dd t kp M N) (h1 : st < mx) (h2 : dp < 150) : fX2_enter (nI x) (nI fr) M = some ((), eW M x fr st dp dd) := by
  obtain ⟨⟨c1, c2, c3, c4, c5, c6⟩, ⟨c7, c8⟩, ⟨c9, cA⟩, ⟨cB, cC⟩, ⟨cD, cE⟩, ⟨cF, cG⟩, cH, cI⟩ := hc
  unfold fX2_enter eW
  simp (disch := omega) only [c7, c9, cB, cD, mx_if, k_iT, k_iF, Bool.false_eq_true, eq_self, Nat.add_zero, k_lt', k_bs, k_T, k_F, k_inb, k_ck, k_nz, ↓kN, kL, k_lt, k_le, k_eq, kn_le, kn_lt, kn_eq, kn_le', kn_lt', kn_eq', nI_clamp, nI_add, k_sub, k_mul, k_div, rd_hi, rd_mi, rd_hl, rd_ml, rd_hr, rd_mr, rd_si2, rd_sl1, rd_sl2, rd_sr1, rd_sr2]
theorem c_enter3 (hc : Ct st mx dp dd t kp M N) (h1 : ¬ st < mx) : fX2_enter (nI x) (nI fr) M = some ((), mv_si M 7 2 (nI 3)) := by
  obtain ⟨⟨c1, c2, c3, c4, c5, c6⟩, ⟨c7, c8⟩, ⟨c9, cA⟩, ⟨cB, cC⟩, ⟨cD, cE⟩, ⟨cF, cG⟩, cH, cI⟩ := hc
  unfold fX2_enter
  simp (disch := omega) only [c7, c9, k_iT, k_iF, Bool.false_eq_true, eq_self, Nat.add_zero, k_lt', k_bs, k_T, k_F, k_inb, k_ck, k_nz, ↓kN, kL, k_lt, k_le, k_eq, kn_le, kn_lt, kn_eq, kn_le', kn_lt', kn_eq', nI_clamp, nI_add, k_sub, k_mul, k_div, rd_hi, rd_mi, rd_hl, rd_ml, rd_hr, rd_mr, rd_si2, rd_sl1, rd_sl2, rd_sr1, rd_sr2]
theorem c_enter4 (hc : Ct st mx dp dd t kp M N) (h1 : st < mx) (h2 : ¬ dp < 150) : fX2_enter (nI x) (nI fr) M = some ((), mv_si M 7 2 (nI 4)) := by
  obtain ⟨⟨c1, c2, c3, c4, c5, c6⟩, ⟨c7, c8⟩, ⟨c9, cA⟩, ⟨cB, cC⟩, ⟨cD, cE⟩, ⟨cF, cG⟩, cH, cI⟩ := hc
  unfold fX2_enter
  simp (disch := omega) only [c7, c9, cB, k_iT, k_iF, Bool.false_eq_true, eq_self, Nat.add_zero, k_lt', k_bs, k_T, k_F, k_inb, k_ck, k_nz, ↓kN, kL, k_lt, k_le, k_eq, kn_le, kn_lt, kn_eq, kn_le', kn_lt', kn_eq', nI_clamp, nI_add, k_sub, k_mul, k_div, rd_hi, rd_mi, rd_hl, rd_ml, rd_hr, rd_mr, rd_si2, rd_sl1, rd_sl2, rd_sr1, rd_sr2]
theorem r_pop1 {y : Nat} (e36 : N.1 62 36 = nI (t + 1)) (ht : t < 3000) (e74 : N.1 62 74 = nI 0) (hk : tk3 N t (nI 1) (nI y) (nI fr)) : gX11_goes_0 N = mv_bind (fX11_work (nI y) (nI fr) (mv_si N 62 36 (nI t))) fun _ M8 => some (.inl (), M8) := by
  rw [r_pp e36 ht e74 hk]
  unfold gO fX11_goes_394
  rw [if_pos (by decide)]
theorem r_enter {y : Nat} (hc : Ct st mx dp dd (t + 1) kp M N) (h1 : st < mx) (h2 : dp < 150) (hk : tk3 N t (nI 1) (nI y) (nI fr)) : gX11_goes_0 N = mv_bind (wkR (nI y) (nI fr) (eR N st dp dd t)) fun _ M8 => some (.inl (), M8) := by
  obtain ⟨⟨c1, c2, c3, c4, c5, c6⟩, ⟨c7, c8⟩, ⟨c9, cA⟩, ⟨cB, cC⟩, ⟨cD, cE⟩, ⟨cF, cG⟩, cH, cI⟩ := hc
  rw [r_pop1 cH (by omega) cG hk]
  congr 1
  unfold fX11_work fX11_work_31
  simp (disch := omega) only [c8, cA, cC, cE, k_iT, k_iF, Bool.false_eq_true, eq_self, Nat.add_zero, k_lt', k_bs, k_T, k_F, k_inb, k_ck, k_nz, ↓kN, kL, k_lt, k_le, k_eq, kn_le, kn_lt, kn_eq, kn_le', kn_lt', kn_eq', nI_clamp, nI_add, k_sub, k_mul, k_div, rd_hi, rd_mi, rd_hl, rd_ml, rd_hr, rd_mr, rd_si2, rd_sl1, rd_sl2, rd_sr1, rd_sr2]
  by_cases u : dp + 1 ≤ dd
  · have e : max dd (dp + 1) = dd := Nat.max_eq_left (by omega)
    simp (disch := omega) only [k_iT, k_iF, Bool.false_eq_true, eq_self, Nat.add_zero, k_lt', k_bs, k_T, k_F, k_inb, k_ck, k_nz, ↓kN, kL, k_lt, k_le, k_eq, kn_le, kn_lt, kn_eq, kn_le', kn_lt', kn_eq', nI_clamp, nI_add, k_sub, k_mul, k_div, rd_hi, rd_mi, rd_hl, rd_ml, rd_hr, rd_mr, rd_si2, rd_sl1, rd_sl2, rd_sr1, rd_sr2]
    rw [wk_85, r_task (t := t) (by simp (disch := omega) only [rd_hi, rd_mi, rd_hl, rd_ml, rd_hr, rd_mr, rd_si2, rd_sl1, rd_sl2, rd_sr1, rd_sr2]) (by omega), k_bs]
    unfold eR
    rw [e]
    rfl
  · have e : max dd (dp + 1) = dp + 1 := Nat.max_eq_right (by omega)
    simp (disch := omega) only [k_iT, k_iF, Bool.false_eq_true, eq_self, Nat.add_zero, k_lt', k_bs, k_T, k_F, k_inb, k_ck, k_nz, ↓kN, kL, k_lt, k_le, k_eq, kn_le, kn_lt, kn_eq, kn_le', kn_lt', kn_eq', nI_clamp, nI_add, k_sub, k_mul, k_div, rd_hi, rd_mi, rd_hl, rd_ml, rd_hr, rd_mr, rd_si2, rd_sl1, rd_sl2, rd_sr1, rd_sr2]
    rw [wk_85, r_task (t := t) (by simp (disch := omega) only [rd_hi, rd_mi, rd_hl, rd_ml, rd_hr, rd_mr, rd_si2, rd_sl1, rd_sl2, rd_sr1, rd_sr2]) (by omega), k_bs]
    unfold eR
    rw [e]
    rfl
theorem r_enter3 {y : Nat} (hc : Ct st mx dp dd (t + 1) kp M N) (h1 : ¬ st < mx) (hk : tk3 N t (nI 1) (nI y) (nI fr)) : gX11_goes_0 N = some (.inl (), mv_si (mv_si N 62 36 (nI t)) 62 74 (nI 3)) := by
  obtain ⟨⟨c1, c2, c3, c4, c5, c6⟩, ⟨c7, c8⟩, ⟨c9, cA⟩, ⟨cB, cC⟩, ⟨cD, cE⟩, ⟨cF, cG⟩, cH, cI⟩ := hc
  obtain rfl : st = mx := by omega
  rw [r_pop1 cH (by omega) cG hk]
  unfold fX11_work fX11_work_31
  simp (disch := omega) only [c8, cA, cC, cE, k_iT, k_iF, Bool.false_eq_true, eq_self, Nat.add_zero, k_lt', k_bs, k_T, k_F, k_inb, k_ck, k_nz, ↓kN, kL, k_lt, k_le, k_eq, kn_le, kn_lt, kn_eq, kn_le', kn_lt', kn_eq', nI_clamp, nI_add, k_sub, k_mul, k_div, rd_hi, rd_mi, rd_hl, rd_ml, rd_hr, rd_mr, rd_si2, rd_sl1, rd_sl2, rd_sr1, rd_sr2]
theorem r_enter4 {y : Nat} (hc : Ct st mx dp dd (t + 1) kp M N) (h1 : st < mx) (h2 : ¬ dp < 150) (hk : tk3 N t (nI 1) (nI y) (nI fr)) : gX11_goes_0 N = some (.inl (), mv_si (mv_si N 62 36 (nI t)) 62 74 (nI 4)) := by
  obtain ⟨⟨c1, c2, c3, c4, c5, c6⟩, ⟨c7, c8⟩, ⟨c9, cA⟩, ⟨cB, cC⟩, ⟨cD, cE⟩, ⟨cF, cG⟩, cH, cI⟩ := hc
  obtain rfl : dp = 150 := by omega
  rw [r_pop1 cH (by omega) cG hk]
  unfold fX11_work fX11_work_31
  simp (disch := omega) only [c8, cA, cC, cE, k_iT, k_iF, Bool.false_eq_true, eq_self, Nat.add_zero, k_lt', k_bs, k_T, k_F, k_inb, k_ck, k_nz, ↓kN, kL, k_lt, k_le, k_eq, kn_le, kn_lt, kn_eq, kn_le', kn_lt', kn_eq', nI_clamp, nI_add, k_sub, k_mul, k_div, rd_hi, rd_mi, rd_hl, rd_ml, rd_hr, rd_mr, rd_si2, rd_sl1, rd_sl2, rd_sr1, rd_sr2]
end RV
