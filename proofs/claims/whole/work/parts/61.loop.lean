/-! THE LAW'S LOOP: out of what each of its sixteen calls does. Inv: what holds between the class's part of the memory and the reference's. -/
theorem mv_S_no {cs : List Nat} {ps : List (Nat × Nat)} {c k : Nat} (h : (!(cs.contains c) && ps.all (fun q => !(q.1 == c))) = true) : mv_S cs ps c k = false := by
  simp only [Bool.and_eq_true, Bool.not_eq_true', List.all_eq_true, beq_eq_false_iff_ne] at h
  unfold mv_S
  rw [h.1, Bool.false_or]
  cases hc : ps.contains (c, k) with
  | false => rfl
  | true =>
    rw [List.contains_iff_mem] at hc
    exact absurd rfl (h.2 _ hc)
/-- a call of the class (through the law's method) and the same call of the reference: an int answer -/
def pm_I (Inv : mv_M → Prop) (fw fm : mv_M → Option (Int32 × mv_M)) : Prop := ∀ M, Inv M → mv_ok (fw M) (fun k M1 => mv_ok (fm M1) (fun r M2 => M2.1 62 0 = k ∧ (k = 0 → M2.2.1 106 0 = r.toInt64) ∧ Inv M2))
/-- .. a boolean answer -/
def pm_Z (Inv : mv_M → Prop) (fw fm : mv_M → Option (Int32 × mv_M)) : Prop := ∀ M, Inv M → mv_ok (fw M) (fun k M1 => mv_ok (fm M1) (fun r M2 => M2.1 62 0 = k ∧ (k = 0 → M2.2.1 106 0 = if r = 0 then 0 else 1) ∧ Inv M2))
/-- .. no exception -/
def pm_N (Inv : mv_M → Prop) (fw fm : mv_M → Option (Int32 × mv_M)) : Prop := ∀ M, Inv M → mv_ok (fw M) (fun k M1 => mv_ok (fm M1) (fun r M2 => k = r ∧ Inv M2))
def pm_scr (L : Nat) (xs : Nat → Int32) (M : mv_M) : Prop := M.2.2 302 0 = some L ∧ M.1 302 = xs
theorem pm_scr_sm {L : Nat} {xs : Nat → Int32} {M M' : mv_M} {cs : List Nat} {ps : List (Nat × Nat)} (hS : (!(cs.contains 302) && ps.all (fun q => !(q.1 == 302))) = true) (h : pm_scr L xs M) (hf : mv_sm (mv_S cs ps) M M') : pm_scr L xs M' := ⟨((hf 302 0 (mv_S_no hS)).2.2).trans h.1, by
  funext j
  rw [(hf 302 j (mv_S_no hS)).1]
  exact congrFun h.2 j⟩
set_option maxRecDepth 100000 in
set_option maxHeartbeats 4000000 in
theorem pm_loop {Inv : mv_M → Prop} (H0 : ∀ a0 a1 a2 a3 a4 : Int32, pm_I Inv (fL_feed a0 a1 a2 a3 a4) (fX11_feed a0 a1 a2 a3 a4)) (H1 : ∀ a0 : Int32, pm_I Inv (fL_cut a0) (fX11_cut a0)) (H2 : pm_N Inv fX10_read fX11_read) (H3 : pm_N Inv fX10_place fX11_place) (H4 : ∀ a0 a1 : Int32, pm_I Inv (fL_function a0 a1) (fX11_function a0 a1)) (H5 : pm_I Inv (fL_rounds ) (fX11_rounds )) (H6 : ∀ a0 a1 : Int32, pm_Z Inv (fL_dead a0 a1) (fX11_dead a0 a1)) (H7 : ∀ a0 a1 a2 : Int32, pm_I Inv (fL_asks a0 a1 a2) (fX11_asks_ a0 a1 a2)) (H8 : ∀ a0 a1 : Int32, pm_Z Inv (fL_strict a0 a1) (fX11_strict a0 a1)) (H9 : ∀ a0 a1 a2 a3 : Int32, pm_I Inv (fL_plant a0 a1 a2 a3) (fX11_plant a0 a1 a2 a3)) (H10 : pm_I Inv (fL_check ) (fX11_check )) (H11 : ∀ a0 a1 : Int32, pm_I Inv (fL_input a0 a1) (fX11_input a0 a1)) (H12 : ∀ a0 a1 a2 : Int32, pm_I Inv (fL_run a0 a1 a2) (fX11_run a0 a1 a2)) (H13 : ∀ a0 : Int32, pm_I Inv (fL_told a0) (fX11_told a0)) (H14 : ∀ a0 : Int32, pm_I Inv (fL_result a0) (fX11_result a0)) (H15 : ∀ a0 : Int32, pm_Z Inv (fL_needed a0) (fX11_needed a0)) {L : Nat} {xs : Nat → Int32} (hL : L ≤ 3072) : ∀ (n i : Nat) (M : mv_M), i + n = 520 → 6 * i ≤ L + 5 → Inv M → pm_scr L xs M → mv_ok (fL_law_23 n (nI (6 * i)) M) (fun r _ => r = 1) := by
  intro n
  induction n with
  | zero =>
    intro i M h1 h2
    omega
  | succ n ih =>
    intro i M hn hi hI hS
    rw [fL_law_23]
    refine ok_len hS.1 ?_
    refine ok_if (fun _ => ok_some rfl) (fun z => ?_)
    have hlt : 6 * i + 6 ≤ L := by
      rw [lt_toInt, show (Int32.ofNat L - 6 : Int32) = nI L - nI 6 from rfl, pk_sub_toInt (by omega) (by omega), nI_toInt (by omega)] at z
      omega
    have hx : ∀ k : Nat, k < 6 → mv_inb (nI (6 * i) + nI k) L = true := fun k hk => by
      rw [nI_add]
      exact nI_inb (by omega) (by omega)
    have hx0 : mv_inb (nI (6 * i)) L = true := nI_inb (by omega) (by omega)
    have go : ∀ M2, Inv M2 → pm_scr L xs M2 → mv_ok (fL_law_1107 (fun x4 M => fL_law_23 n x4 M) (nI (6 * i)) M2) (fun r _ => r = 1) := fun M2 a b => by
      unfold fL_law_1107
      refine ok_let ?_
      rw [show nI (6 * i) + 6 = nI (6 * (i + 1)) from nI_add (6 * i) 6]
      exact ih (i + 1) M2 (by omega) (by omega) a b
    refine ok_len hS.1 ?_
    refine ok_chk hx0 ?_
    refine ok_if (fun _ => ?_) (fun _ => ?_)
    · clear ih
      refine ok_len hS.1 ?_
      refine ok_chk (hx 1 (by decide)) ?_
      refine ok_len hS.1 ?_
      refine ok_chk (hx 2 (by decide)) ?_
      refine ok_len hS.1 ?_
      refine ok_chk (hx 3 (by decide)) ?_
      refine ok_len hS.1 ?_
      refine ok_chk (hx 4 (by decide)) ?_
      refine ok_len hS.1 ?_
      refine ok_chk (hx 5 (by decide)) ?_
      refine ok_bind (ok_mono (ok_frm (qL_feed (M.1 302 (nI (6 * i) + 1).toNatClampNeg) (M.1 302 (nI (6 * i) + 2).toNatClampNeg) (M.1 302 (nI (6 * i) + 3).toNatClampNeg) (M.1 302 (nI (6 * i) + 4).toNatClampNeg) (M.1 302 (nI (6 * i) + 5).toNatClampNeg) M) (H0 (M.1 302 (nI (6 * i) + 1).toNatClampNeg) (M.1 302 (nI (6 * i) + 2).toNatClampNeg) (M.1 302 (nI (6 * i) + 3).toNatClampNeg) (M.1 302 (nI (6 * i) + 4).toNatClampNeg) (M.1 302 (nI (6 * i) + 5).toNatClampNeg) M hI)) (fun k M1 h => ?_))
      obtain ⟨h1, hf1⟩ := h
      have hS1 := pm_scr_sm (by decide) hS hf1
      refine ok_len hS1.1 ?_
      refine ok_chk (hx 1 (by decide)) ?_
      refine ok_len hS1.1 ?_
      refine ok_chk (hx 2 (by decide)) ?_
      refine ok_len hS1.1 ?_
      refine ok_chk (hx 3 (by decide)) ?_
      refine ok_len hS1.1 ?_
      refine ok_chk (hx 4 (by decide)) ?_
      refine ok_len hS1.1 ?_
      refine ok_chk (hx 5 (by decide)) ?_
      rw [hS1.2, ← hS.2]
      refine ok_bind (ok_mono (ok_frm (qX11_feed (M.1 302 (nI (6 * i) + 1).toNatClampNeg) (M.1 302 (nI (6 * i) + 2).toNatClampNeg) (M.1 302 (nI (6 * i) + 3).toNatClampNeg) (M.1 302 (nI (6 * i) + 4).toNatClampNeg) (M.1 302 (nI (6 * i) + 5).toNatClampNeg) M1) h1) (fun r M2 h => ?_))
      obtain ⟨⟨t1, t2, t3⟩, hf2⟩ := h
      have hS2 := pm_scr_sm (by decide) hS1 hf2
      refine ok_bind (ok_some ?_)
      refine ok_T t1 ?_
      refine ok_if (fun hk => ?_) (fun hk => ?_)
      · refine ok_T (by rw [show (0 : Int32).toNatClampNeg = 0 from rfl, t2 hk]; exact ok_cmp _) ?_
        unfold fL_law_221
        exact go M2 t3 hS2
      · unfold fL_law_221
        exact go M2 t3 hS2
    · skip
      refine ok_if (fun _ => ?_) (fun _ => ?_)
      · clear ih
        refine ok_len hS.1 ?_
        refine ok_chk (hx 1 (by decide)) ?_
        refine ok_bind (ok_mono (ok_frm (qL_cut (M.1 302 (nI (6 * i) + 1).toNatClampNeg) M) (H1 (M.1 302 (nI (6 * i) + 1).toNatClampNeg) M hI)) (fun k M1 h => ?_))
        obtain ⟨h1, hf1⟩ := h
        have hS1 := pm_scr_sm (by decide) hS hf1
        refine ok_len hS1.1 ?_
        refine ok_chk (hx 1 (by decide)) ?_
        rw [hS1.2, ← hS.2]
        refine ok_bind (ok_mono (ok_frm (qX11_cut (M.1 302 (nI (6 * i) + 1).toNatClampNeg) M1) h1) (fun r M2 h => ?_))
        obtain ⟨⟨t1, t2, t3⟩, hf2⟩ := h
        have hS2 := pm_scr_sm (by decide) hS1 hf2
        refine ok_bind (ok_some ?_)
        refine ok_T t1 ?_
        refine ok_if (fun hk => ?_) (fun hk => ?_)
        · refine ok_T (by rw [show (0 : Int32).toNatClampNeg = 0 from rfl, t2 hk]; exact ok_cmp _) ?_
          unfold fL_law_277
          exact go M2 t3 hS2
        · unfold fL_law_277
          exact go M2 t3 hS2
      · skip
        refine ok_if (fun _ => ?_) (fun _ => ?_)
        · clear ih
          refine ok_bind (ok_mono (ok_frm (qX10_read M) (H2 M hI)) (fun k M1 h => ?_))
          obtain ⟨h1, hf1⟩ := h
          have hS1 := pm_scr_sm (by decide) hS hf1
          refine ok_bind (ok_mono (ok_frm (qX11_read M1) h1) (fun r M2 h => ?_))
          obtain ⟨⟨t1, t2⟩, hf2⟩ := h
          refine ok_T t1 ?_
          exact go M2 t2 (pm_scr_sm (by decide) hS1 hf2)
        · skip
          refine ok_if (fun _ => ?_) (fun _ => ?_)
          · clear ih
            refine ok_bind (ok_mono (ok_frm (qX10_place M) (H3 M hI)) (fun k M1 h => ?_))
            obtain ⟨h1, hf1⟩ := h
            have hS1 := pm_scr_sm (by decide) hS hf1
            refine ok_bind (ok_mono (ok_frm (qX11_place M1) h1) (fun r M2 h => ?_))
            obtain ⟨⟨t1, t2⟩, hf2⟩ := h
            refine ok_T t1 ?_
            exact go M2 t2 (pm_scr_sm (by decide) hS1 hf2)
          · skip
            refine ok_if (fun _ => ?_) (fun _ => ?_)
            · clear ih
              refine ok_len hS.1 ?_
              refine ok_chk (hx 1 (by decide)) ?_
              refine ok_len hS.1 ?_
              refine ok_chk (hx 2 (by decide)) ?_
              refine ok_bind (ok_mono (ok_frm (qL_function (M.1 302 (nI (6 * i) + 1).toNatClampNeg) (M.1 302 (nI (6 * i) + 2).toNatClampNeg) M) (H4 (M.1 302 (nI (6 * i) + 1).toNatClampNeg) (M.1 302 (nI (6 * i) + 2).toNatClampNeg) M hI)) (fun k M1 h => ?_))
              obtain ⟨h1, hf1⟩ := h
              have hS1 := pm_scr_sm (by decide) hS hf1
              refine ok_len hS1.1 ?_
              refine ok_chk (hx 1 (by decide)) ?_
              refine ok_len hS1.1 ?_
              refine ok_chk (hx 2 (by decide)) ?_
              rw [hS1.2, ← hS.2]
              refine ok_bind (ok_mono (ok_frm (qX11_function (M.1 302 (nI (6 * i) + 1).toNatClampNeg) (M.1 302 (nI (6 * i) + 2).toNatClampNeg) M1) h1) (fun r M2 h => ?_))
              obtain ⟨⟨t1, t2, t3⟩, hf2⟩ := h
              have hS2 := pm_scr_sm (by decide) hS1 hf2
              refine ok_bind (ok_some ?_)
              refine ok_T t1 ?_
              refine ok_if (fun hk => ?_) (fun hk => ?_)
              · refine ok_T (by rw [show (0 : Int32).toNatClampNeg = 0 from rfl, t2 hk]; exact ok_cmp _) ?_
                unfold fL_law_371
                exact go M2 t3 hS2
              · unfold fL_law_371
                exact go M2 t3 hS2
            · skip
              refine ok_if (fun _ => ?_) (fun _ => ?_)
              · clear ih
                refine ok_bind (ok_mono (ok_frm (qL_rounds  M) (H5  M hI)) (fun k M1 h => ?_))
                obtain ⟨h1, hf1⟩ := h
                have hS1 := pm_scr_sm (by decide) hS hf1
                refine ok_bind (ok_mono (ok_frm (qX11_rounds  M1) h1) (fun r M2 h => ?_))
                obtain ⟨⟨t1, t2, t3⟩, hf2⟩ := h
                have hS2 := pm_scr_sm (by decide) hS1 hf2
                refine ok_bind (ok_some ?_)
                refine ok_T t1 ?_
                refine ok_if (fun hk => ?_) (fun hk => ?_)
                · refine ok_T (by rw [show (0 : Int32).toNatClampNeg = 0 from rfl, t2 hk]; exact ok_cmp _) ?_
                  unfold fL_law_415
                  exact go M2 t3 hS2
                · unfold fL_law_415
                  exact go M2 t3 hS2
              · skip
                refine ok_if (fun _ => ?_) (fun _ => ?_)
                · clear ih
                  refine ok_len hS.1 ?_
                  refine ok_chk (hx 1 (by decide)) ?_
                  refine ok_len hS.1 ?_
                  refine ok_chk (hx 2 (by decide)) ?_
                  refine ok_bind (ok_mono (ok_frm (qL_dead (M.1 302 (nI (6 * i) + 1).toNatClampNeg) (M.1 302 (nI (6 * i) + 2).toNatClampNeg) M) (H6 (M.1 302 (nI (6 * i) + 1).toNatClampNeg) (M.1 302 (nI (6 * i) + 2).toNatClampNeg) M hI)) (fun k M1 h => ?_))
                  obtain ⟨h1, hf1⟩ := h
                  have hS1 := pm_scr_sm (by decide) hS hf1
                  refine ok_len hS1.1 ?_
                  refine ok_chk (hx 1 (by decide)) ?_
                  refine ok_len hS1.1 ?_
                  refine ok_chk (hx 2 (by decide)) ?_
                  rw [hS1.2, ← hS.2]
                  refine ok_bind (ok_mono (ok_frm (qX11_dead (M.1 302 (nI (6 * i) + 1).toNatClampNeg) (M.1 302 (nI (6 * i) + 2).toNatClampNeg) M1) h1) (fun r M2 h => ?_))
                  obtain ⟨⟨t1, t2, t3⟩, hf2⟩ := h
                  have hS2 := pm_scr_sm (by decide) hS1 hf2
                  refine ok_bind (ok_some ?_)
                  refine ok_T t1 ?_
                  refine ok_if (fun hk => ?_) (fun hk => ?_)
                  · have t2 := t2 hk
                    refine ok_if (fun hr => ?_) (fun hr => ?_)
                    · rw [if_pos hr] at t2
                      unfold fL_law_484
                      refine ok_T (by rw [show (0 : Int32).toNatClampNeg = 0 from rfl, t2]; decide) ?_
                      unfold fL_law_490
                      exact go M2 t3 hS2
                    · rw [if_neg hr] at t2
                      unfold fL_law_484
                      refine ok_T (by rw [show (0 : Int32).toNatClampNeg = 0 from rfl, t2]; decide) ?_
                      unfold fL_law_490
                      exact go M2 t3 hS2
                  · unfold fL_law_490
                    exact go M2 t3 hS2
                · skip
                  refine ok_if (fun _ => ?_) (fun _ => ?_)
                  · clear ih
                    refine ok_len hS.1 ?_
                    refine ok_chk (hx 1 (by decide)) ?_
                    refine ok_len hS.1 ?_
                    refine ok_chk (hx 2 (by decide)) ?_
                    refine ok_len hS.1 ?_
                    refine ok_chk (hx 3 (by decide)) ?_
                    refine ok_bind (ok_mono (ok_frm (qL_asks (M.1 302 (nI (6 * i) + 1).toNatClampNeg) (M.1 302 (nI (6 * i) + 2).toNatClampNeg) (M.1 302 (nI (6 * i) + 3).toNatClampNeg) M) (H7 (M.1 302 (nI (6 * i) + 1).toNatClampNeg) (M.1 302 (nI (6 * i) + 2).toNatClampNeg) (M.1 302 (nI (6 * i) + 3).toNatClampNeg) M hI)) (fun k M1 h => ?_))
                    obtain ⟨h1, hf1⟩ := h
                    have hS1 := pm_scr_sm (by decide) hS hf1
                    refine ok_len hS1.1 ?_
                    refine ok_chk (hx 1 (by decide)) ?_
                    refine ok_len hS1.1 ?_
                    refine ok_chk (hx 2 (by decide)) ?_
                    refine ok_len hS1.1 ?_
                    refine ok_chk (hx 3 (by decide)) ?_
                    rw [hS1.2, ← hS.2]
                    refine ok_bind (ok_mono (ok_frm (qX11_asks_ (M.1 302 (nI (6 * i) + 1).toNatClampNeg) (M.1 302 (nI (6 * i) + 2).toNatClampNeg) (M.1 302 (nI (6 * i) + 3).toNatClampNeg) M1) h1) (fun r M2 h => ?_))
                    obtain ⟨⟨t1, t2, t3⟩, hf2⟩ := h
                    have hS2 := pm_scr_sm (by decide) hS1 hf2
                    refine ok_bind (ok_some ?_)
                    refine ok_T t1 ?_
                    refine ok_if (fun hk => ?_) (fun hk => ?_)
                    · refine ok_T (by rw [show (0 : Int32).toNatClampNeg = 0 from rfl, t2 hk]; exact ok_cmp _) ?_
                      unfold fL_law_570
                      exact go M2 t3 hS2
                    · unfold fL_law_570
                      exact go M2 t3 hS2
                  · skip
                    refine ok_if (fun _ => ?_) (fun _ => ?_)
                    · clear ih
                      refine ok_len hS.1 ?_
                      refine ok_chk (hx 1 (by decide)) ?_
                      refine ok_len hS.1 ?_
                      refine ok_chk (hx 2 (by decide)) ?_
                      refine ok_bind (ok_mono (ok_frm (qL_strict (M.1 302 (nI (6 * i) + 1).toNatClampNeg) (M.1 302 (nI (6 * i) + 2).toNatClampNeg) M) (H8 (M.1 302 (nI (6 * i) + 1).toNatClampNeg) (M.1 302 (nI (6 * i) + 2).toNatClampNeg) M hI)) (fun k M1 h => ?_))
                      obtain ⟨h1, hf1⟩ := h
                      have hS1 := pm_scr_sm (by decide) hS hf1
                      refine ok_len hS1.1 ?_
                      refine ok_chk (hx 1 (by decide)) ?_
                      refine ok_len hS1.1 ?_
                      refine ok_chk (hx 2 (by decide)) ?_
                      rw [hS1.2, ← hS.2]
                      refine ok_bind (ok_mono (ok_frm (qX11_strict (M.1 302 (nI (6 * i) + 1).toNatClampNeg) (M.1 302 (nI (6 * i) + 2).toNatClampNeg) M1) h1) (fun r M2 h => ?_))
                      obtain ⟨⟨t1, t2, t3⟩, hf2⟩ := h
                      have hS2 := pm_scr_sm (by decide) hS1 hf2
                      refine ok_bind (ok_some ?_)
                      refine ok_T t1 ?_
                      refine ok_if (fun hk => ?_) (fun hk => ?_)
                      · have t2 := t2 hk
                        refine ok_if (fun hr => ?_) (fun hr => ?_)
                        · rw [if_pos hr] at t2
                          unfold fL_law_639
                          refine ok_T (by rw [show (0 : Int32).toNatClampNeg = 0 from rfl, t2]; decide) ?_
                          unfold fL_law_645
                          exact go M2 t3 hS2
                        · rw [if_neg hr] at t2
                          unfold fL_law_639
                          refine ok_T (by rw [show (0 : Int32).toNatClampNeg = 0 from rfl, t2]; decide) ?_
                          unfold fL_law_645
                          exact go M2 t3 hS2
                      · unfold fL_law_645
                        exact go M2 t3 hS2
                    · skip
                      refine ok_if (fun _ => ?_) (fun _ => ?_)
                      · clear ih
                        refine ok_len hS.1 ?_
                        refine ok_chk (hx 1 (by decide)) ?_
                        refine ok_len hS.1 ?_
                        refine ok_chk (hx 2 (by decide)) ?_
                        refine ok_len hS.1 ?_
                        refine ok_chk (hx 3 (by decide)) ?_
                        refine ok_len hS.1 ?_
                        refine ok_chk (hx 4 (by decide)) ?_
                        refine ok_bind (ok_mono (ok_frm (qL_plant (M.1 302 (nI (6 * i) + 1).toNatClampNeg) (M.1 302 (nI (6 * i) + 2).toNatClampNeg) (M.1 302 (nI (6 * i) + 3).toNatClampNeg) (M.1 302 (nI (6 * i) + 4).toNatClampNeg) M) (H9 (M.1 302 (nI (6 * i) + 1).toNatClampNeg) (M.1 302 (nI (6 * i) + 2).toNatClampNeg) (M.1 302 (nI (6 * i) + 3).toNatClampNeg) (M.1 302 (nI (6 * i) + 4).toNatClampNeg) M hI)) (fun k M1 h => ?_))
                        obtain ⟨h1, hf1⟩ := h
                        have hS1 := pm_scr_sm (by decide) hS hf1
                        refine ok_len hS1.1 ?_
                        refine ok_chk (hx 1 (by decide)) ?_
                        refine ok_len hS1.1 ?_
                        refine ok_chk (hx 2 (by decide)) ?_
                        refine ok_len hS1.1 ?_
                        refine ok_chk (hx 3 (by decide)) ?_
                        refine ok_len hS1.1 ?_
                        refine ok_chk (hx 4 (by decide)) ?_
                        rw [hS1.2, ← hS.2]
                        refine ok_bind (ok_mono (ok_frm (qX11_plant (M.1 302 (nI (6 * i) + 1).toNatClampNeg) (M.1 302 (nI (6 * i) + 2).toNatClampNeg) (M.1 302 (nI (6 * i) + 3).toNatClampNeg) (M.1 302 (nI (6 * i) + 4).toNatClampNeg) M1) h1) (fun r M2 h => ?_))
                        obtain ⟨⟨t1, t2, t3⟩, hf2⟩ := h
                        have hS2 := pm_scr_sm (by decide) hS1 hf2
                        refine ok_bind (ok_some ?_)
                        refine ok_T t1 ?_
                        refine ok_if (fun hk => ?_) (fun hk => ?_)
                        · refine ok_T (by rw [show (0 : Int32).toNatClampNeg = 0 from rfl, t2 hk]; exact ok_cmp _) ?_
                          unfold fL_law_737
                          exact go M2 t3 hS2
                        · unfold fL_law_737
                          exact go M2 t3 hS2
                      · skip
                        refine ok_if (fun _ => ?_) (fun _ => ?_)
                        · clear ih
                          refine ok_bind (ok_mono (ok_frm (qL_check  M) (H10  M hI)) (fun k M1 h => ?_))
                          obtain ⟨h1, hf1⟩ := h
                          have hS1 := pm_scr_sm (by decide) hS hf1
                          refine ok_bind (ok_mono (ok_frm (qX11_check  M1) h1) (fun r M2 h => ?_))
                          obtain ⟨⟨t1, t2, t3⟩, hf2⟩ := h
                          have hS2 := pm_scr_sm (by decide) hS1 hf2
                          refine ok_bind (ok_some ?_)
                          refine ok_T t1 ?_
                          refine ok_if (fun hk => ?_) (fun hk => ?_)
                          · refine ok_T (by rw [show (0 : Int32).toNatClampNeg = 0 from rfl, t2 hk]; exact ok_cmp _) ?_
                            unfold fL_law_781
                            exact go M2 t3 hS2
                          · unfold fL_law_781
                            exact go M2 t3 hS2
                        · skip
                          refine ok_if (fun _ => ?_) (fun _ => ?_)
                          · clear ih
                            refine ok_len hS.1 ?_
                            refine ok_chk (hx 1 (by decide)) ?_
                            refine ok_len hS.1 ?_
                            refine ok_chk (hx 2 (by decide)) ?_
                            refine ok_bind (ok_mono (ok_frm (qL_input (M.1 302 (nI (6 * i) + 1).toNatClampNeg) (M.1 302 (nI (6 * i) + 2).toNatClampNeg) M) (H11 (M.1 302 (nI (6 * i) + 1).toNatClampNeg) (M.1 302 (nI (6 * i) + 2).toNatClampNeg) M hI)) (fun k M1 h => ?_))
                            obtain ⟨h1, hf1⟩ := h
                            have hS1 := pm_scr_sm (by decide) hS hf1
                            refine ok_len hS1.1 ?_
                            refine ok_chk (hx 1 (by decide)) ?_
                            refine ok_len hS1.1 ?_
                            refine ok_chk (hx 2 (by decide)) ?_
                            rw [hS1.2, ← hS.2]
                            refine ok_bind (ok_mono (ok_frm (qX11_input (M.1 302 (nI (6 * i) + 1).toNatClampNeg) (M.1 302 (nI (6 * i) + 2).toNatClampNeg) M1) h1) (fun r M2 h => ?_))
                            obtain ⟨⟨t1, t2, t3⟩, hf2⟩ := h
                            have hS2 := pm_scr_sm (by decide) hS1 hf2
                            refine ok_bind (ok_some ?_)
                            refine ok_T t1 ?_
                            refine ok_if (fun hk => ?_) (fun hk => ?_)
                            · refine ok_T (by rw [show (0 : Int32).toNatClampNeg = 0 from rfl, t2 hk]; exact ok_cmp _) ?_
                              unfold fL_law_849
                              exact go M2 t3 hS2
                            · unfold fL_law_849
                              exact go M2 t3 hS2
                          · skip
                            refine ok_if (fun _ => ?_) (fun _ => ?_)
                            · clear ih
                              refine ok_len hS.1 ?_
                              refine ok_chk (hx 1 (by decide)) ?_
                              refine ok_len hS.1 ?_
                              refine ok_chk (hx 2 (by decide)) ?_
                              refine ok_len hS.1 ?_
                              refine ok_chk (hx 3 (by decide)) ?_
                              refine ok_bind (ok_mono (ok_frm (qL_run (M.1 302 (nI (6 * i) + 1).toNatClampNeg) (M.1 302 (nI (6 * i) + 2).toNatClampNeg) (M.1 302 (nI (6 * i) + 3).toNatClampNeg) M) (H12 (M.1 302 (nI (6 * i) + 1).toNatClampNeg) (M.1 302 (nI (6 * i) + 2).toNatClampNeg) (M.1 302 (nI (6 * i) + 3).toNatClampNeg) M hI)) (fun k M1 h => ?_))
                              obtain ⟨h1, hf1⟩ := h
                              have hS1 := pm_scr_sm (by decide) hS hf1
                              refine ok_len hS1.1 ?_
                              refine ok_chk (hx 1 (by decide)) ?_
                              refine ok_len hS1.1 ?_
                              refine ok_chk (hx 2 (by decide)) ?_
                              refine ok_len hS1.1 ?_
                              refine ok_chk (hx 3 (by decide)) ?_
                              rw [hS1.2, ← hS.2]
                              refine ok_bind (ok_mono (ok_frm (qX11_run (M.1 302 (nI (6 * i) + 1).toNatClampNeg) (M.1 302 (nI (6 * i) + 2).toNatClampNeg) (M.1 302 (nI (6 * i) + 3).toNatClampNeg) M1) h1) (fun r M2 h => ?_))
                              obtain ⟨⟨t1, t2, t3⟩, hf2⟩ := h
                              have hS2 := pm_scr_sm (by decide) hS1 hf2
                              refine ok_bind (ok_some ?_)
                              refine ok_T t1 ?_
                              refine ok_if (fun hk => ?_) (fun hk => ?_)
                              · refine ok_T (by rw [show (0 : Int32).toNatClampNeg = 0 from rfl, t2 hk]; exact ok_cmp _) ?_
                                unfold fL_law_929
                                exact go M2 t3 hS2
                              · unfold fL_law_929
                                exact go M2 t3 hS2
                            · skip
                              refine ok_if (fun _ => ?_) (fun _ => ?_)
                              · clear ih
                                refine ok_len hS.1 ?_
                                refine ok_chk (hx 1 (by decide)) ?_
                                refine ok_bind (ok_mono (ok_frm (qL_told (M.1 302 (nI (6 * i) + 1).toNatClampNeg) M) (H13 (M.1 302 (nI (6 * i) + 1).toNatClampNeg) M hI)) (fun k M1 h => ?_))
                                obtain ⟨h1, hf1⟩ := h
                                have hS1 := pm_scr_sm (by decide) hS hf1
                                refine ok_len hS1.1 ?_
                                refine ok_chk (hx 1 (by decide)) ?_
                                rw [hS1.2, ← hS.2]
                                refine ok_bind (ok_mono (ok_frm (qX11_told (M.1 302 (nI (6 * i) + 1).toNatClampNeg) M1) h1) (fun r M2 h => ?_))
                                obtain ⟨⟨t1, t2, t3⟩, hf2⟩ := h
                                have hS2 := pm_scr_sm (by decide) hS1 hf2
                                refine ok_bind (ok_some ?_)
                                refine ok_T t1 ?_
                                refine ok_if (fun hk => ?_) (fun hk => ?_)
                                · refine ok_T (by rw [show (0 : Int32).toNatClampNeg = 0 from rfl, t2 hk]; exact ok_cmp _) ?_
                                  unfold fL_law_985
                                  exact go M2 t3 hS2
                                · unfold fL_law_985
                                  exact go M2 t3 hS2
                              · skip
                                refine ok_if (fun _ => ?_) (fun _ => ?_)
                                · clear ih
                                  refine ok_len hS.1 ?_
                                  refine ok_chk (hx 1 (by decide)) ?_
                                  refine ok_bind (ok_mono (ok_frm (qL_result (M.1 302 (nI (6 * i) + 1).toNatClampNeg) M) (H14 (M.1 302 (nI (6 * i) + 1).toNatClampNeg) M hI)) (fun k M1 h => ?_))
                                  obtain ⟨h1, hf1⟩ := h
                                  have hS1 := pm_scr_sm (by decide) hS hf1
                                  refine ok_len hS1.1 ?_
                                  refine ok_chk (hx 1 (by decide)) ?_
                                  rw [hS1.2, ← hS.2]
                                  refine ok_bind (ok_mono (ok_frm (qX11_result (M.1 302 (nI (6 * i) + 1).toNatClampNeg) M1) h1) (fun r M2 h => ?_))
                                  obtain ⟨⟨t1, t2, t3⟩, hf2⟩ := h
                                  have hS2 := pm_scr_sm (by decide) hS1 hf2
                                  refine ok_bind (ok_some ?_)
                                  refine ok_T t1 ?_
                                  refine ok_if (fun hk => ?_) (fun hk => ?_)
                                  · refine ok_T (by rw [show (0 : Int32).toNatClampNeg = 0 from rfl, t2 hk]; exact ok_cmp _) ?_
                                    unfold fL_law_1041
                                    exact go M2 t3 hS2
                                  · unfold fL_law_1041
                                    exact go M2 t3 hS2
                                · skip
                                  refine ok_if (fun _ => ?_) (fun _ => ?_)
                                  · clear ih
                                    refine ok_len hS.1 ?_
                                    refine ok_chk (hx 1 (by decide)) ?_
                                    refine ok_bind (ok_mono (ok_frm (qL_needed (M.1 302 (nI (6 * i) + 1).toNatClampNeg) M) (H15 (M.1 302 (nI (6 * i) + 1).toNatClampNeg) M hI)) (fun k M1 h => ?_))
                                    obtain ⟨h1, hf1⟩ := h
                                    have hS1 := pm_scr_sm (by decide) hS hf1
                                    refine ok_len hS1.1 ?_
                                    refine ok_chk (hx 1 (by decide)) ?_
                                    rw [hS1.2, ← hS.2]
                                    refine ok_bind (ok_mono (ok_frm (qX11_needed (M.1 302 (nI (6 * i) + 1).toNatClampNeg) M1) h1) (fun r M2 h => ?_))
                                    obtain ⟨⟨t1, t2, t3⟩, hf2⟩ := h
                                    have hS2 := pm_scr_sm (by decide) hS1 hf2
                                    refine ok_bind (ok_some ?_)
                                    refine ok_T t1 ?_
                                    refine ok_if (fun hk => ?_) (fun hk => ?_)
                                    · have t2 := t2 hk
                                      refine ok_if (fun hr => ?_) (fun hr => ?_)
                                      · rw [if_pos hr] at t2
                                        unfold fL_law_1098
                                        refine ok_T (by rw [show (0 : Int32).toNatClampNeg = 0 from rfl, t2]; decide) ?_
                                        unfold fL_law_1104
                                        exact go M2 t3 hS2
                                      · rw [if_neg hr] at t2
                                        unfold fL_law_1098
                                        refine ok_T (by rw [show (0 : Int32).toNatClampNeg = 0 from rfl, t2]; decide) ?_
                                        unfold fL_law_1104
                                        exact go M2 t3 hS2
                                    · unfold fL_law_1104
                                      exact go M2 t3 hS2
                                  · skip
                                    exact go M hI hS
