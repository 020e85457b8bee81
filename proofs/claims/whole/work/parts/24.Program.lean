theorem dX4_clear_0 : decode cX4_clear 0 = .ok (.aload_n 0, 1) := by decide +kernel
theorem dX4_clear_1 : decode cX4_clear 1 = .ok (.iconst 0, 1) := by decide +kernel
theorem dX4_clear_2 : decode cX4_clear 2 = .ok (.putfield 9, 3) := by decide +kernel
theorem dX4_clear_5 : decode cX4_clear 5 = .ok (.aload_n 0, 1) := by decide +kernel
theorem dX4_clear_6 : decode cX4_clear 6 = .ok (.iconst 0, 1) := by decide +kernel
theorem dX4_clear_7 : decode cX4_clear 7 = .ok (.putfield 38, 3) := by decide +kernel
theorem dX4_clear_10 : decode cX4_clear 10 = .ok (.return_, 1) := by decide +kernel
noncomputable def fX4_clear (b0 : Nat) (M : mv_M) : Option (Unit × mv_M) :=
  mv_let (mv_si M b0 0 0) fun M1 =>
  mv_let (mv_si M1 b0 8 0) fun M2 =>
  some ((), M2)
set_option maxRecDepth 100000 in
set_option maxHeartbeats 4000000 in
theorem zX4_clear {l : Launch} {d : Nat} {Q : Unit → mv_M → Prop} (hd : 0 ≤ d) (b0 : Nat) (M : mv_M) (hb0 : b0 = 9 ∨ b0 = 24) (h : mv_ok (fX4_clear b0 M) Q) : mv l mX4_clear d 0 0 (lv_args 0 [.ref b0]) [] M (mv_qV Q) := by
  unfold fX4_clear at h
  show mv l mX4_clear d 0 0 [(0, .ref b0)] [] M (mv_qV Q)
  refine mv_aload_n 0 dX4_clear_0 rfl ?_
  refine mv_iconst 0 dX4_clear_1 (by decide) ?_
  refine mv_putI fX4_9 (mv_pN (t := 0) hb0 (by decide)) (by rcases hb0 with rfl | rfl <;> rfl) rfl dX4_clear_2 (fun M1 eM1 => ?_)
  replace h := mv_letE h M1 eM1
  refine mv_aload_n 0 dX4_clear_5 rfl ?_
  refine mv_iconst 0 dX4_clear_6 (by decide) ?_
  refine mv_putI fX4_38 (mv_pN (t := 0) hb0 (by decide)) (by rcases hb0 with rfl | rfl <;> rfl) rfl dX4_clear_7 (fun M2 eM2 => ?_)
  replace h := mv_letE h M2 eM2
  exact mv_vret rfl dX4_clear_10 ⟨rfl, h⟩
theorem dX4_functionOf_0 : decode cX4_functionOf 0 = .ok (.iconst 0, 1) := by decide +kernel
theorem dX4_functionOf_1 : decode cX4_functionOf 1 = .ok (.istore_n 3, 1) := by decide +kernel
theorem dX4_functionOf_2 : decode cX4_functionOf 2 = .ok (.iload_n 3, 1) := by decide +kernel
theorem dX4_functionOf_3 : decode cX4_functionOf 3 = .ok (.aload_n 0, 1) := by decide +kernel
theorem dX4_functionOf_4 : decode cX4_functionOf 4 = .ok (.getfield 9, 3) := by decide +kernel
theorem dX4_functionOf_7 : decode cX4_functionOf 7 = .ok (.if_icmp .ge 22, 3) := by decide +kernel
theorem dX4_functionOf_10 : decode cX4_functionOf 10 = .ok (.aload_n 0, 1) := by decide +kernel
theorem dX4_functionOf_11 : decode cX4_functionOf 11 = .ok (.getfield 15, 3) := by decide +kernel
theorem dX4_functionOf_14 : decode cX4_functionOf 14 = .ok (.iload_n 3, 1) := by decide +kernel
theorem dX4_functionOf_15 : decode cX4_functionOf 15 = .ok (.laload, 1) := by decide +kernel
theorem dX4_functionOf_16 : decode cX4_functionOf 16 = .ok (.lload_n 1, 1) := by decide +kernel
theorem dX4_functionOf_17 : decode cX4_functionOf 17 = .ok (.lcmp, 1) := by decide +kernel
theorem dX4_functionOf_18 : decode cX4_functionOf 18 = .ok (.ifCond .ne 5, 3) := by decide +kernel
theorem dX4_functionOf_21 : decode cX4_functionOf 21 = .ok (.iload_n 3, 1) := by decide +kernel
theorem dX4_functionOf_22 : decode cX4_functionOf 22 = .ok (.ireturn, 1) := by decide +kernel
theorem dX4_functionOf_23 : decode cX4_functionOf 23 = .ok (.iinc 3 1, 3) := by decide +kernel
theorem dX4_functionOf_26 : decode cX4_functionOf 26 = .ok (.goto (-24), 3) := by decide +kernel
theorem dX4_functionOf_29 : decode cX4_functionOf 29 = .ok (.iconst (-1), 1) := by decide +kernel
theorem dX4_functionOf_30 : decode cX4_functionOf 30 = .ok (.ireturn, 1) := by decide +kernel
noncomputable def gX4_functionOf_2 (b0 : Nat) (x1 : Int64) (x3 : Int32) (M : mv_M) : Option (((Nat × Int64 × Int32) ⊕ Int32) × mv_M) :=
  if (M.1 b0 0) ≤ x3 then
    some (.inr ((-1)), M)
  else
    mv_chk (mv_inb x3 12) <|
    if (lg_cmp (M.2.1 (b0 + 1) x3.toNatClampNeg) x1) = 0 then
      some (.inr (x3), M)
    else
      mv_let (x3 + 1) fun v2 =>
      some (.inl (b0, x1, v2), M)
noncomputable def fX4_functionOf_2 (b0 : Nat) (x1 : Int64) (x3 : Int32) (M : mv_M) : Option (Int32 × mv_M) := mv_loop (fun (s : Nat × Int64 × Int32) M => gX4_functionOf_2 s.1 s.2.1 s.2.2 M) (b0, x1, x3) M
set_option maxRecDepth 100000 in
set_option maxHeartbeats 4000000 in
theorem zX4_functionOf_2 {l : Launch} {d : Nat} {Q : Int32 → mv_M → Prop} (hd : 0 ≤ d) (b0 : Nat) (x1 : Int64) (x3 : Int32) (M : mv_M) (hb0 : b0 = 9 ∨ b0 = 24) (h : mv_ok (fX4_functionOf_2 b0 x1 x3 M) Q) : mv l mX4_functionOf d 0 2 [(0, .ref b0), (1, .long x1), (3, .int x3)] [] M (mv_qI Q) := by
  unfold fX4_functionOf_2 at h
  refine mv_loopE (A := (fun (s : Nat × Int64 × Int32) M => (s.1 = 9 ∨ s.1 = 24) → mv l mX4_functionOf d 0 2 [(0, .ref s.1), (1, .long s.2.1), (3, .int s.2.2)] [] M (mv_qI Q))) ?_ (b0, x1, x3) M h hb0
  · rintro ⟨b0, x1, x3⟩ M h hb0
    replace hb0 : b0 = 9 ∨ b0 = 24 := hb0
    try dsimp only at h
    show mv l mX4_functionOf d 0 2 [(0, .ref b0), (1, .long x1), (3, .int x3)] [] M (mv_qI Q)
    unfold gX4_functionOf_2 at h
    refine mv_iload_n 2 dX4_functionOf_2 rfl ?_
    refine mv_aload_n 0 dX4_functionOf_3 rfl ?_
    refine mv_getI fX4_9 (mv_pN (t := 0) hb0 (by decide)) (by rcases hb0 with rfl | rfl <;> rfl) rfl dX4_functionOf_4 ?_
    refine mv_icmp_ge 29 dX4_functionOf_7 (by decide) (fun z => ?_) (fun z => ?_)
    · replace h := mv_ifT z h
      refine mv_iconst (-1) dX4_functionOf_29 (by decide) ?_
      exact mv_iret rfl dX4_functionOf_30 ⟨_, rfl, h⟩
    · replace h := mv_ifF z h
      refine mv_aload_n 0 dX4_functionOf_10 rfl ?_
      refine mv_getR (b0 + 1) fX4_15 (mv_pN (t := 0) hb0 (by decide)) (by rcases hb0 with rfl | rfl <;> rfl) rfl (by rcases hb0 with rfl | rfl <;> rfl) dX4_functionOf_11 ?_
      refine mv_iload_n 2 dX4_functionOf_14 rfl ?_
      obtain ⟨hi1, h⟩ := mv_chkE h
      refine mv_lld (mv_pN (t := 1) hb0 (by decide)) (by rcases hb0 with rfl | rfl <;> rfl) (mv_inE hi1) dX4_functionOf_15 ?_
      refine mv_lload_n 1 dX4_functionOf_16 rfl ?_
      refine mv_lcmp dX4_functionOf_17 ?_
      refine mv_if_ne 23 dX4_functionOf_18 (by decide) (fun z => ?_) (fun z => ?_)
      · replace h := mv_ifF z h
        obtain ⟨v2, ev2⟩ : ∃ z : Int32, z = x3 + 1 := ⟨_, rfl⟩
        replace h := mv_letE h v2 ev2
        refine mv_iinc v2 2 [(3, .int v2), (0, .ref b0), (1, .long x1)] dX4_functionOf_23 rfl (by rw [ev2]; rfl) (by decide) rfl ?_
        refine mv_goto 2 dX4_functionOf_26 (by decide) ?_
        refine mv_sub [1, 2, 0] rfl ?_
        exact h hb0
      · replace h := mv_ifT z h
        refine mv_iload_n 2 dX4_functionOf_21 rfl ?_
        exact mv_iret rfl dX4_functionOf_22 ⟨_, rfl, h⟩
noncomputable def fX4_functionOf (b0 : Nat) (a0 : Int64) (M : mv_M) : Option (Int32 × mv_M) :=
  fX4_functionOf_2 b0 a0 0 M
set_option maxRecDepth 100000 in
set_option maxHeartbeats 4000000 in
theorem zX4_functionOf {l : Launch} {d : Nat} {Q : Int32 → mv_M → Prop} (hd : 0 ≤ d) (b0 : Nat) (a0 : Int64) (M : mv_M) (hb0 : b0 = 9 ∨ b0 = 24) (h : mv_ok (fX4_functionOf b0 a0 M) Q) : mv l mX4_functionOf d 0 0 (lv_args 0 [.ref b0, .long a0]) [] M (mv_qI Q) := by
  unfold fX4_functionOf at h
  show mv l mX4_functionOf d 0 0 [(0, .ref b0), (1, .long a0)] [] M (mv_qI Q)
  refine mv_iconst 0 dX4_functionOf_0 (by decide) ?_
  refine mv_istore_n [(3, .int 0), (0, .ref b0), (1, .long a0)] dX4_functionOf_1 (by decide) rfl ?_
  refine mv_sub [1, 2, 0] rfl ?_
  exact zX4_functionOf_2 hd b0 a0 0 M hb0 h
theorem dX4_addFunction_0 : decode cX4_addFunction 0 = .ok (.aload_n 0, 1) := by decide +kernel
theorem dX4_addFunction_1 : decode cX4_addFunction 1 = .ok (.getfield 9, 3) := by decide +kernel
theorem dX4_addFunction_4 : decode cX4_addFunction 4 = .ok (.bipush 12, 2) := by decide +kernel
theorem dX4_addFunction_6 : decode cX4_addFunction 6 = .ok (.if_icmp .ge 43, 3) := by decide +kernel
theorem dX4_addFunction_9 : decode cX4_addFunction 9 = .ok (.aload_n 0, 1) := by decide +kernel
theorem dX4_addFunction_10 : decode cX4_addFunction 10 = .ok (.getfield 15, 3) := by decide +kernel
theorem dX4_addFunction_13 : decode cX4_addFunction 13 = .ok (.aload_n 0, 1) := by decide +kernel
theorem dX4_addFunction_14 : decode cX4_addFunction 14 = .ok (.getfield 9, 3) := by decide +kernel
theorem dX4_addFunction_17 : decode cX4_addFunction 17 = .ok (.lload_n 1, 1) := by decide +kernel
theorem dX4_addFunction_18 : decode cX4_addFunction 18 = .ok (.lastore, 1) := by decide +kernel
theorem dX4_addFunction_19 : decode cX4_addFunction 19 = .ok (.aload_n 0, 1) := by decide +kernel
theorem dX4_addFunction_20 : decode cX4_addFunction 20 = .ok (.getfield 19, 3) := by decide +kernel
theorem dX4_addFunction_23 : decode cX4_addFunction 23 = .ok (.aload_n 0, 1) := by decide +kernel
theorem dX4_addFunction_24 : decode cX4_addFunction 24 = .ok (.getfield 9, 3) := by decide +kernel
theorem dX4_addFunction_27 : decode cX4_addFunction 27 = .ok (.iconst 0, 1) := by decide +kernel
theorem dX4_addFunction_28 : decode cX4_addFunction 28 = .ok (.iastore, 1) := by decide +kernel
theorem dX4_addFunction_29 : decode cX4_addFunction 29 = .ok (.aload_n 0, 1) := by decide +kernel
theorem dX4_addFunction_30 : decode cX4_addFunction 30 = .ok (.getfield 23, 3) := by decide +kernel
theorem dX4_addFunction_33 : decode cX4_addFunction 33 = .ok (.aload_n 0, 1) := by decide +kernel
theorem dX4_addFunction_34 : decode cX4_addFunction 34 = .ok (.getfield 9, 3) := by decide +kernel
theorem dX4_addFunction_37 : decode cX4_addFunction 37 = .ok (.iconst 0, 1) := by decide +kernel
theorem dX4_addFunction_38 : decode cX4_addFunction 38 = .ok (.iastore, 1) := by decide +kernel
theorem dX4_addFunction_39 : decode cX4_addFunction 39 = .ok (.aload_n 0, 1) := by decide +kernel
theorem dX4_addFunction_40 : decode cX4_addFunction 40 = .ok (.dup, 1) := by decide +kernel
theorem dX4_addFunction_41 : decode cX4_addFunction 41 = .ok (.getfield 9, 3) := by decide +kernel
theorem dX4_addFunction_44 : decode cX4_addFunction 44 = .ok (.iconst 1, 1) := by decide +kernel
theorem dX4_addFunction_45 : decode cX4_addFunction 45 = .ok (.iadd, 1) := by decide +kernel
theorem dX4_addFunction_46 : decode cX4_addFunction 46 = .ok (.putfield 9, 3) := by decide +kernel
theorem dX4_addFunction_49 : decode cX4_addFunction 49 = .ok (.return_, 1) := by decide +kernel
noncomputable def fX4_addFunction (b0 : Nat) (a0 : Int64) (M : mv_M) : Option (Unit × mv_M) :=
  if 12 ≤ (M.1 b0 0) then
    some ((), M)
  else
    mv_chk (mv_inb (M.1 b0 0) 12) <|
    mv_let (mv_sl M (b0 + 1) (M.1 b0 0).toNatClampNeg a0) fun M2 =>
    mv_chk (mv_inb (M2.1 b0 0) 12) <|
    mv_let (mv_si M2 (b0 + 2) (M2.1 b0 0).toNatClampNeg 0) fun M4 =>
    mv_chk (mv_inb (M4.1 b0 0) 12) <|
    mv_let (mv_si M4 (b0 + 3) (M4.1 b0 0).toNatClampNeg 0) fun M6 =>
    mv_let (mv_si M6 b0 0 ((M6.1 b0 0) + 1)) fun M7 =>
    some ((), M7)
set_option maxRecDepth 100000 in
set_option maxHeartbeats 4000000 in
theorem zX4_addFunction {l : Launch} {d : Nat} {Q : Unit → mv_M → Prop} (hd : 0 ≤ d) (b0 : Nat) (a0 : Int64) (M : mv_M) (hb0 : b0 = 9 ∨ b0 = 24) (h : mv_ok (fX4_addFunction b0 a0 M) Q) : mv l mX4_addFunction d 0 0 (lv_args 0 [.ref b0, .long a0]) [] M (mv_qV Q) := by
  unfold fX4_addFunction at h
  show mv l mX4_addFunction d 0 0 [(0, .ref b0), (1, .long a0)] [] M (mv_qV Q)
  refine mv_aload_n 0 dX4_addFunction_0 rfl ?_
  refine mv_getI fX4_9 (mv_pN (t := 0) hb0 (by decide)) (by rcases hb0 with rfl | rfl <;> rfl) rfl dX4_addFunction_1 ?_
  refine mv_bipush 12 dX4_addFunction_4 (by decide) ?_
  refine mv_icmp_ge 49 dX4_addFunction_6 (by decide) (fun z => ?_) (fun z => ?_)
  · replace h := mv_ifT z h
    exact mv_vret rfl dX4_addFunction_49 ⟨rfl, h⟩
  · replace h := mv_ifF z h
    refine mv_aload_n 0 dX4_addFunction_9 rfl ?_
    refine mv_getR (b0 + 1) fX4_15 (mv_pN (t := 0) hb0 (by decide)) (by rcases hb0 with rfl | rfl <;> rfl) rfl (by rcases hb0 with rfl | rfl <;> rfl) dX4_addFunction_10 ?_
    refine mv_aload_n 0 dX4_addFunction_13 rfl ?_
    refine mv_getI fX4_9 (mv_pN (t := 0) hb0 (by decide)) (by rcases hb0 with rfl | rfl <;> rfl) rfl dX4_addFunction_14 ?_
    refine mv_lload_n 1 dX4_addFunction_17 rfl ?_
    obtain ⟨hi1, h⟩ := mv_chkE h
    refine mv_lst (mv_pN (t := 1) hb0 (by decide)) (by rcases hb0 with rfl | rfl <;> rfl) (mv_inE hi1) dX4_addFunction_18 (fun M2 eM2 => ?_)
    replace h := mv_letE h M2 eM2
    refine mv_aload_n 0 dX4_addFunction_19 rfl ?_
    refine mv_getR (b0 + 2) fX4_19 (mv_pN (t := 0) hb0 (by decide)) (by rcases hb0 with rfl | rfl <;> rfl) rfl (by rcases hb0 with rfl | rfl <;> rfl) dX4_addFunction_20 ?_
    refine mv_aload_n 0 dX4_addFunction_23 rfl ?_
    refine mv_getI fX4_9 (mv_pN (t := 0) hb0 (by decide)) (by rcases hb0 with rfl | rfl <;> rfl) rfl dX4_addFunction_24 ?_
    refine mv_iconst 0 dX4_addFunction_27 (by decide) ?_
    obtain ⟨hi3, h⟩ := mv_chkE h
    refine mv_ist (mv_pN (t := 2) hb0 (by decide)) (by rcases hb0 with rfl | rfl <;> rfl) (mv_inE hi3) dX4_addFunction_28 (fun M4 eM4 => ?_)
    replace h := mv_letE h M4 eM4
    refine mv_aload_n 0 dX4_addFunction_29 rfl ?_
    refine mv_getR (b0 + 3) fX4_23 (mv_pN (t := 0) hb0 (by decide)) (by rcases hb0 with rfl | rfl <;> rfl) rfl (by rcases hb0 with rfl | rfl <;> rfl) dX4_addFunction_30 ?_
    refine mv_aload_n 0 dX4_addFunction_33 rfl ?_
    refine mv_getI fX4_9 (mv_pN (t := 0) hb0 (by decide)) (by rcases hb0 with rfl | rfl <;> rfl) rfl dX4_addFunction_34 ?_
    refine mv_iconst 0 dX4_addFunction_37 (by decide) ?_
    obtain ⟨hi5, h⟩ := mv_chkE h
    refine mv_ist (mv_pN (t := 3) hb0 (by decide)) (by rcases hb0 with rfl | rfl <;> rfl) (mv_inE hi5) dX4_addFunction_38 (fun M6 eM6 => ?_)
    replace h := mv_letE h M6 eM6
    refine mv_aload_n 0 dX4_addFunction_39 rfl ?_
    refine mv_dup dX4_addFunction_40 rfl ?_
    refine mv_getI fX4_9 (mv_pN (t := 0) hb0 (by decide)) (by rcases hb0 with rfl | rfl <;> rfl) rfl dX4_addFunction_41 ?_
    refine mv_iconst 1 dX4_addFunction_44 (by decide) ?_
    refine mv_iadd dX4_addFunction_45 ?_
    refine mv_putI fX4_9 (mv_pN (t := 0) hb0 (by decide)) (by rcases hb0 with rfl | rfl <;> rfl) rfl dX4_addFunction_46 (fun M7 eM7 => ?_)
    replace h := mv_letE h M7 eM7
    exact mv_vret rfl dX4_addFunction_49 ⟨rfl, h⟩
theorem dX4_hasFunction_0 : decode cX4_hasFunction 0 = .ok (.iload_n 1, 1) := by decide +kernel
theorem dX4_hasFunction_1 : decode cX4_hasFunction 1 = .ok (.ifCond .lt 15, 3) := by decide +kernel
theorem dX4_hasFunction_4 : decode cX4_hasFunction 4 = .ok (.iload_n 1, 1) := by decide +kernel
theorem dX4_hasFunction_5 : decode cX4_hasFunction 5 = .ok (.aload_n 0, 1) := by decide +kernel
theorem dX4_hasFunction_6 : decode cX4_hasFunction 6 = .ok (.getfield 9, 3) := by decide +kernel
theorem dX4_hasFunction_9 : decode cX4_hasFunction 9 = .ok (.if_icmp .ge 7, 3) := by decide +kernel
theorem dX4_hasFunction_12 : decode cX4_hasFunction 12 = .ok (.iconst 1, 1) := by decide +kernel
theorem dX4_hasFunction_13 : decode cX4_hasFunction 13 = .ok (.goto 4, 3) := by decide +kernel
theorem dX4_hasFunction_16 : decode cX4_hasFunction 16 = .ok (.iconst 0, 1) := by decide +kernel
theorem dX4_hasFunction_17 : decode cX4_hasFunction 17 = .ok (.ireturn, 1) := by decide +kernel
noncomputable def fX4_hasFunction (b0 : Nat) (a0 : Int32) (M : mv_M) : Option (Int32 × mv_M) :=
  if a0 < 0 then
    some (0, M)
  else
    if (M.1 b0 0) ≤ a0 then
      some (0, M)
    else
      some (1, M)
set_option maxRecDepth 100000 in
set_option maxHeartbeats 4000000 in
theorem zX4_hasFunction {l : Launch} {d : Nat} {Q : Int32 → mv_M → Prop} (hd : 0 ≤ d) (b0 : Nat) (a0 : Int32) (M : mv_M) (hb0 : b0 = 9 ∨ b0 = 24) (h : mv_ok (fX4_hasFunction b0 a0 M) Q) : mv l mX4_hasFunction d 0 0 (lv_args 0 [.ref b0, .int a0]) [] M (mv_qI Q) := by
  unfold fX4_hasFunction at h
  show mv l mX4_hasFunction d 0 0 [(0, .ref b0), (1, .int a0)] [] M (mv_qI Q)
  refine mv_iload_n 1 dX4_hasFunction_0 rfl ?_
  refine mv_if_lt 16 dX4_hasFunction_1 (by decide) (fun z => ?_) (fun z => ?_)
  · replace h := mv_ifT z h
    refine mv_iconst 0 dX4_hasFunction_16 (by decide) ?_
    exact mv_zret (by decide) rfl dX4_hasFunction_17 ⟨_, rfl, h⟩
  · replace h := mv_ifF z h
    refine mv_iload_n 1 dX4_hasFunction_4 rfl ?_
    refine mv_aload_n 0 dX4_hasFunction_5 rfl ?_
    refine mv_getI fX4_9 (mv_pN (t := 0) hb0 (by decide)) (by rcases hb0 with rfl | rfl <;> rfl) rfl dX4_hasFunction_6 ?_
    refine mv_icmp_ge 16 dX4_hasFunction_9 (by decide) (fun z => ?_) (fun z => ?_)
    · replace h := mv_ifT z h
      refine mv_iconst 0 dX4_hasFunction_16 (by decide) ?_
      exact mv_zret (by decide) rfl dX4_hasFunction_17 ⟨_, rfl, h⟩
    · replace h := mv_ifF z h
      refine mv_iconst 1 dX4_hasFunction_12 (by decide) ?_
      refine mv_goto 17 dX4_hasFunction_13 (by decide) ?_
      exact mv_zret (by decide) rfl dX4_hasFunction_17 ⟨_, rfl, h⟩
theorem dX4_hasName_0 : decode cX4_hasName 0 = .ok (.aload_n 0, 1) := by decide +kernel
theorem dX4_hasName_1 : decode cX4_hasName 1 = .ok (.iload_n 1, 1) := by decide +kernel
theorem dX4_hasName_2 : decode cX4_hasName 2 = .ok (.invokevirtual 62, 3) := by decide +kernel
theorem dX4_hasName_5 : decode cX4_hasName 5 = .ok (.ifCond .eq 21, 3) := by decide +kernel
theorem dX4_hasName_8 : decode cX4_hasName 8 = .ok (.iload_n 2, 1) := by decide +kernel
theorem dX4_hasName_9 : decode cX4_hasName 9 = .ok (.ifCond .lt 17, 3) := by decide +kernel
theorem dX4_hasName_12 : decode cX4_hasName 12 = .ok (.iload_n 2, 1) := by decide +kernel
theorem dX4_hasName_13 : decode cX4_hasName 13 = .ok (.aload_n 0, 1) := by decide +kernel
theorem dX4_hasName_14 : decode cX4_hasName 14 = .ok (.getfield 23, 3) := by decide +kernel
theorem dX4_hasName_17 : decode cX4_hasName 17 = .ok (.iload_n 1, 1) := by decide +kernel
theorem dX4_hasName_18 : decode cX4_hasName 18 = .ok (.iaload, 1) := by decide +kernel
theorem dX4_hasName_19 : decode cX4_hasName 19 = .ok (.if_icmp .ge 7, 3) := by decide +kernel
theorem dX4_hasName_22 : decode cX4_hasName 22 = .ok (.iconst 1, 1) := by decide +kernel
theorem dX4_hasName_23 : decode cX4_hasName 23 = .ok (.goto 4, 3) := by decide +kernel
theorem dX4_hasName_26 : decode cX4_hasName 26 = .ok (.iconst 0, 1) := by decide +kernel
theorem dX4_hasName_27 : decode cX4_hasName 27 = .ok (.ireturn, 1) := by decide +kernel
noncomputable def fX4_hasName (b0 : Nat) (a0 : Int32) (a1 : Int32) (M : mv_M) : Option (Int32 × mv_M) :=
  mv_bind (fX4_hasFunction b0 a0 M) fun r1 M2 =>
  if r1 = 0 then
    some (0, M2)
  else
    if a1 < 0 then
      some (0, M2)
    else
      mv_chk (mv_inb a0 12) <|
      if (M2.1 (b0 + 3) a0.toNatClampNeg) ≤ a1 then
        some (0, M2)
      else
        some (1, M2)
set_option maxRecDepth 100000 in
set_option maxHeartbeats 4000000 in
theorem zX4_hasName {l : Launch} {d : Nat} {Q : Int32 → mv_M → Prop} (hd : 1 ≤ d) (b0 : Nat) (a0 : Int32) (a1 : Int32) (M : mv_M) (hb0 : b0 = 9 ∨ b0 = 24) (h : mv_ok (fX4_hasName b0 a0 a1 M) Q) : mv l mX4_hasName d 0 0 (lv_args 0 [.ref b0, .int a0, .int a1]) [] M (mv_qI Q) := by
  unfold fX4_hasName at h
  show mv l mX4_hasName d 0 0 [(0, .ref b0), (1, .int a0), (2, .int a1)] [] M (mv_qI Q)
  refine mv_aload_n 0 dX4_hasName_0 rfl ?_
  refine mv_iload_n 1 dX4_hasName_1 rfl ?_
  refine mv_cvI (As := [.int a0]) (st := []) okX4_hasFunction lX4_62 (mv_pN (t := 0) hb0 (by decide)) (by rcases hb0 with rfl | rfl <;> rfl) rfl rfl (Nat.le_of_ble_eq_true rfl) rfl (Nat.le_of_ble_eq_true rfl) dX4_hasName_2 (by omega) rfl (zX4_hasFunction (d := d - 1) (by omega) b0 a0 M hb0 (mv_bindE h)) (fun r1 M2 h => ?_)
  refine mv_if_eq 26 dX4_hasName_5 (by decide) (fun z => ?_) (fun z => ?_)
  · replace h := mv_ifT z h
    refine mv_iconst 0 dX4_hasName_26 (by decide) ?_
    exact mv_zret (by decide) rfl dX4_hasName_27 ⟨_, rfl, h⟩
  · replace h := mv_ifF z h
    refine mv_iload_n 2 dX4_hasName_8 rfl ?_
    refine mv_if_lt 26 dX4_hasName_9 (by decide) (fun z => ?_) (fun z => ?_)
    · replace h := mv_ifT z h
      refine mv_iconst 0 dX4_hasName_26 (by decide) ?_
      exact mv_zret (by decide) rfl dX4_hasName_27 ⟨_, rfl, h⟩
    · replace h := mv_ifF z h
      refine mv_iload_n 2 dX4_hasName_12 rfl ?_
      refine mv_aload_n 0 dX4_hasName_13 rfl ?_
      refine mv_getR (b0 + 3) fX4_23 (mv_pN (t := 0) hb0 (by decide)) (by rcases hb0 with rfl | rfl <;> rfl) rfl (by rcases hb0 with rfl | rfl <;> rfl) dX4_hasName_14 ?_
      refine mv_iload_n 1 dX4_hasName_17 rfl ?_
      obtain ⟨hi3, h⟩ := mv_chkE h
      refine mv_ild (mv_pN (t := 3) hb0 (by decide)) (by rcases hb0 with rfl | rfl <;> rfl) (mv_inE hi3) dX4_hasName_18 ?_
      refine mv_icmp_ge 26 dX4_hasName_19 (by decide) (fun z => ?_) (fun z => ?_)
      · replace h := mv_ifT z h
        refine mv_iconst 0 dX4_hasName_26 (by decide) ?_
        exact mv_zret (by decide) rfl dX4_hasName_27 ⟨_, rfl, h⟩
      · replace h := mv_ifF z h
        refine mv_iconst 1 dX4_hasName_22 (by decide) ?_
        refine mv_goto 27 dX4_hasName_23 (by decide) ?_
        exact mv_zret (by decide) rfl dX4_hasName_27 ⟨_, rfl, h⟩
theorem dX4_isNamed_0 : decode cX4_isNamed 0 = .ok (.aload_n 0, 1) := by decide +kernel
theorem dX4_isNamed_1 : decode cX4_isNamed 1 = .ok (.iload_n 1, 1) := by decide +kernel
theorem dX4_isNamed_2 : decode cX4_isNamed 2 = .ok (.iload_n 2, 1) := by decide +kernel
theorem dX4_isNamed_3 : decode cX4_isNamed 3 = .ok (.invokevirtual 66, 3) := by decide +kernel
theorem dX4_isNamed_6 : decode cX4_isNamed 6 = .ok (.ifCond .eq 23, 3) := by decide +kernel
theorem dX4_isNamed_9 : decode cX4_isNamed 9 = .ok (.aload_n 0, 1) := by decide +kernel
theorem dX4_isNamed_10 : decode cX4_isNamed 10 = .ok (.getfield 32, 3) := by decide +kernel
theorem dX4_isNamed_13 : decode cX4_isNamed 13 = .ok (.iload_n 1, 1) := by decide +kernel
theorem dX4_isNamed_14 : decode cX4_isNamed 14 = .ok (.bipush 16, 2) := by decide +kernel
theorem dX4_isNamed_16 : decode cX4_isNamed 16 = .ok (.imul, 1) := by decide +kernel
theorem dX4_isNamed_17 : decode cX4_isNamed 17 = .ok (.iload_n 2, 1) := by decide +kernel
theorem dX4_isNamed_18 : decode cX4_isNamed 18 = .ok (.iadd, 1) := by decide +kernel
theorem dX4_isNamed_19 : decode cX4_isNamed 19 = .ok (.laload, 1) := by decide +kernel
theorem dX4_isNamed_20 : decode cX4_isNamed 20 = .ok (.lload_n 3, 1) := by decide +kernel
theorem dX4_isNamed_21 : decode cX4_isNamed 21 = .ok (.lcmp, 1) := by decide +kernel
theorem dX4_isNamed_22 : decode cX4_isNamed 22 = .ok (.ifCond .ne 7, 3) := by decide +kernel
theorem dX4_isNamed_25 : decode cX4_isNamed 25 = .ok (.iconst 1, 1) := by decide +kernel
theorem dX4_isNamed_26 : decode cX4_isNamed 26 = .ok (.goto 4, 3) := by decide +kernel
theorem dX4_isNamed_29 : decode cX4_isNamed 29 = .ok (.iconst 0, 1) := by decide +kernel
theorem dX4_isNamed_30 : decode cX4_isNamed 30 = .ok (.ireturn, 1) := by decide +kernel
noncomputable def fX4_isNamed (b0 : Nat) (a0 : Int32) (a1 : Int32) (a2 : Int64) (M : mv_M) : Option (Int32 × mv_M) :=
  mv_bind (fX4_hasName b0 a0 a1 M) fun r1 M2 =>
  if r1 = 0 then
    some (0, M2)
  else
    mv_chk (mv_inb ((a0 * 16) + a1) 192) <|
    if (lg_cmp (M2.2.1 (b0 + 6) ((a0 * 16) + a1).toNatClampNeg) a2) = 0 then
      some (1, M2)
    else
      some (0, M2)
set_option maxRecDepth 100000 in
set_option maxHeartbeats 4000000 in
theorem zX4_isNamed {l : Launch} {d : Nat} {Q : Int32 → mv_M → Prop} (hd : 2 ≤ d) (b0 : Nat) (a0 : Int32) (a1 : Int32) (a2 : Int64) (M : mv_M) (hb0 : b0 = 9 ∨ b0 = 24) (h : mv_ok (fX4_isNamed b0 a0 a1 a2 M) Q) : mv l mX4_isNamed d 0 0 (lv_args 0 [.ref b0, .int a0, .int a1, .long a2]) [] M (mv_qI Q) := by
  unfold fX4_isNamed at h
  show mv l mX4_isNamed d 0 0 [(0, .ref b0), (1, .int a0), (2, .int a1), (3, .long a2)] [] M (mv_qI Q)
  refine mv_aload_n 0 dX4_isNamed_0 rfl ?_
  refine mv_iload_n 1 dX4_isNamed_1 rfl ?_
  refine mv_iload_n 2 dX4_isNamed_2 rfl ?_
  refine mv_cvI (As := [.int a0, .int a1]) (st := []) okX4_hasName lX4_66 (mv_pN (t := 0) hb0 (by decide)) (by rcases hb0 with rfl | rfl <;> rfl) rfl rfl (Nat.le_of_ble_eq_true rfl) rfl (Nat.le_of_ble_eq_true rfl) dX4_isNamed_3 (by omega) rfl (zX4_hasName (d := d - 1) (by omega) b0 a0 a1 M hb0 (mv_bindE h)) (fun r1 M2 h => ?_)
  refine mv_if_eq 29 dX4_isNamed_6 (by decide) (fun z => ?_) (fun z => ?_)
  · replace h := mv_ifT z h
    refine mv_iconst 0 dX4_isNamed_29 (by decide) ?_
    exact mv_zret (by decide) rfl dX4_isNamed_30 ⟨_, rfl, h⟩
  · replace h := mv_ifF z h
    refine mv_aload_n 0 dX4_isNamed_9 rfl ?_
    refine mv_getR (b0 + 6) fX4_32 (mv_pN (t := 0) hb0 (by decide)) (by rcases hb0 with rfl | rfl <;> rfl) rfl (by rcases hb0 with rfl | rfl <;> rfl) dX4_isNamed_10 ?_
    refine mv_iload_n 1 dX4_isNamed_13 rfl ?_
    refine mv_bipush 16 dX4_isNamed_14 (by decide) ?_
    refine mv_imul dX4_isNamed_16 ?_
    refine mv_iload_n 2 dX4_isNamed_17 rfl ?_
    refine mv_iadd dX4_isNamed_18 ?_
    obtain ⟨hi3, h⟩ := mv_chkE h
    refine mv_lld (mv_pN (t := 6) hb0 (by decide)) (by rcases hb0 with rfl | rfl <;> rfl) (mv_inE hi3) dX4_isNamed_19 ?_
    refine mv_lload_n 3 dX4_isNamed_20 rfl ?_
    refine mv_lcmp dX4_isNamed_21 ?_
    refine mv_if_ne 29 dX4_isNamed_22 (by decide) (fun z => ?_) (fun z => ?_)
    · replace h := mv_ifF z h
      refine mv_iconst 0 dX4_isNamed_29 (by decide) ?_
      exact mv_zret (by decide) rfl dX4_isNamed_30 ⟨_, rfl, h⟩
    · replace h := mv_ifT z h
      refine mv_iconst 1 dX4_isNamed_25 (by decide) ?_
      refine mv_goto 30 dX4_isNamed_26 (by decide) ?_
      exact mv_zret (by decide) rfl dX4_isNamed_30 ⟨_, rfl, h⟩
theorem dX4_addName_0 : decode cX4_addName 0 = .ok (.aload_n 0, 1) := by decide +kernel
theorem dX4_addName_1 : decode cX4_addName 1 = .ok (.iload_n 1, 1) := by decide +kernel
theorem dX4_addName_2 : decode cX4_addName 2 = .ok (.invokevirtual 62, 3) := by decide +kernel
theorem dX4_addName_5 : decode cX4_addName 5 = .ok (.ifCond .eq 14, 3) := by decide +kernel
theorem dX4_addName_8 : decode cX4_addName 8 = .ok (.aload_n 0, 1) := by decide +kernel
theorem dX4_addName_9 : decode cX4_addName 9 = .ok (.getfield 23, 3) := by decide +kernel
theorem dX4_addName_12 : decode cX4_addName 12 = .ok (.iload_n 1, 1) := by decide +kernel
theorem dX4_addName_13 : decode cX4_addName 13 = .ok (.iaload, 1) := by decide +kernel
theorem dX4_addName_14 : decode cX4_addName 14 = .ok (.bipush 16, 2) := by decide +kernel
theorem dX4_addName_16 : decode cX4_addName 16 = .ok (.if_icmp .lt 5, 3) := by decide +kernel
theorem dX4_addName_19 : decode cX4_addName 19 = .ok (.iconst (-1), 1) := by decide +kernel
theorem dX4_addName_20 : decode cX4_addName 20 = .ok (.ireturn, 1) := by decide +kernel
theorem dX4_addName_21 : decode cX4_addName 21 = .ok (.aload_n 0, 1) := by decide +kernel
theorem dX4_addName_22 : decode cX4_addName 22 = .ok (.getfield 23, 3) := by decide +kernel
theorem dX4_addName_25 : decode cX4_addName 25 = .ok (.iload_n 1, 1) := by decide +kernel
theorem dX4_addName_26 : decode cX4_addName 26 = .ok (.iaload, 1) := by decide +kernel
theorem dX4_addName_27 : decode cX4_addName 27 = .ok (.istore 4, 2) := by decide +kernel
theorem dX4_addName_29 : decode cX4_addName 29 = .ok (.aload_n 0, 1) := by decide +kernel
theorem dX4_addName_30 : decode cX4_addName 30 = .ok (.getfield 23, 3) := by decide +kernel
theorem dX4_addName_33 : decode cX4_addName 33 = .ok (.iload_n 1, 1) := by decide +kernel
theorem dX4_addName_34 : decode cX4_addName 34 = .ok (.dup2, 1) := by decide +kernel
theorem dX4_addName_35 : decode cX4_addName 35 = .ok (.iaload, 1) := by decide +kernel
theorem dX4_addName_36 : decode cX4_addName 36 = .ok (.iconst 1, 1) := by decide +kernel
theorem dX4_addName_37 : decode cX4_addName 37 = .ok (.iadd, 1) := by decide +kernel
theorem dX4_addName_38 : decode cX4_addName 38 = .ok (.iastore, 1) := by decide +kernel
theorem dX4_addName_39 : decode cX4_addName 39 = .ok (.aload_n 0, 1) := by decide +kernel
theorem dX4_addName_40 : decode cX4_addName 40 = .ok (.getfield 32, 3) := by decide +kernel
theorem dX4_addName_43 : decode cX4_addName 43 = .ok (.iload_n 1, 1) := by decide +kernel
theorem dX4_addName_44 : decode cX4_addName 44 = .ok (.bipush 16, 2) := by decide +kernel
theorem dX4_addName_46 : decode cX4_addName 46 = .ok (.imul, 1) := by decide +kernel
theorem dX4_addName_47 : decode cX4_addName 47 = .ok (.iload 4, 2) := by decide +kernel
theorem dX4_addName_49 : decode cX4_addName 49 = .ok (.iadd, 1) := by decide +kernel
theorem dX4_addName_50 : decode cX4_addName 50 = .ok (.lload_n 2, 1) := by decide +kernel
theorem dX4_addName_51 : decode cX4_addName 51 = .ok (.lastore, 1) := by decide +kernel
theorem dX4_addName_52 : decode cX4_addName 52 = .ok (.iload 4, 2) := by decide +kernel
theorem dX4_addName_54 : decode cX4_addName 54 = .ok (.ireturn, 1) := by decide +kernel
noncomputable def fX4_addName (b0 : Nat) (a0 : Int32) (a1 : Int64) (M : mv_M) : Option (Int32 × mv_M) :=
  mv_bind (fX4_hasFunction b0 a0 M) fun r1 M2 =>
  if r1 = 0 then
    some ((-1), M2)
  else
    mv_chk (mv_inb a0 12) <|
    if (M2.1 (b0 + 3) a0.toNatClampNeg) < 16 then
      mv_chk (mv_inb a0 12) <|
      mv_let (M2.1 (b0 + 3) a0.toNatClampNeg) fun v5 =>
      mv_chk (mv_inb a0 12) <|
      mv_chk (mv_inb a0 12) <|
      mv_let (mv_si M2 (b0 + 3) a0.toNatClampNeg ((M2.1 (b0 + 3) a0.toNatClampNeg) + 1)) fun M8 =>
      mv_chk (mv_inb ((a0 * 16) + v5) 192) <|
      mv_let (mv_sl M8 (b0 + 6) ((a0 * 16) + v5).toNatClampNeg a1) fun M10 =>
      some (v5, M10)
    else
      some ((-1), M2)
set_option maxRecDepth 100000 in
set_option maxHeartbeats 4000000 in
theorem zX4_addName {l : Launch} {d : Nat} {Q : Int32 → mv_M → Prop} (hd : 1 ≤ d) (b0 : Nat) (a0 : Int32) (a1 : Int64) (M : mv_M) (hb0 : b0 = 9 ∨ b0 = 24) (h : mv_ok (fX4_addName b0 a0 a1 M) Q) : mv l mX4_addName d 0 0 (lv_args 0 [.ref b0, .int a0, .long a1]) [] M (mv_qI Q) := by
  unfold fX4_addName at h
  show mv l mX4_addName d 0 0 [(0, .ref b0), (1, .int a0), (2, .long a1)] [] M (mv_qI Q)
  refine mv_aload_n 0 dX4_addName_0 rfl ?_
  refine mv_iload_n 1 dX4_addName_1 rfl ?_
  refine mv_cvI (As := [.int a0]) (st := []) okX4_hasFunction lX4_62 (mv_pN (t := 0) hb0 (by decide)) (by rcases hb0 with rfl | rfl <;> rfl) rfl rfl (Nat.le_of_ble_eq_true rfl) rfl (Nat.le_of_ble_eq_true rfl) dX4_addName_2 (by omega) rfl (zX4_hasFunction (d := d - 1) (by omega) b0 a0 M hb0 (mv_bindE h)) (fun r1 M2 h => ?_)
  refine mv_if_eq 19 dX4_addName_5 (by decide) (fun z => ?_) (fun z => ?_)
  · replace h := mv_ifT z h
    refine mv_iconst (-1) dX4_addName_19 (by decide) ?_
    exact mv_iret rfl dX4_addName_20 ⟨_, rfl, h⟩
  · replace h := mv_ifF z h
    refine mv_aload_n 0 dX4_addName_8 rfl ?_
    refine mv_getR (b0 + 3) fX4_23 (mv_pN (t := 0) hb0 (by decide)) (by rcases hb0 with rfl | rfl <;> rfl) rfl (by rcases hb0 with rfl | rfl <;> rfl) dX4_addName_9 ?_
    refine mv_iload_n 1 dX4_addName_12 rfl ?_
    obtain ⟨hi3, h⟩ := mv_chkE h
    refine mv_ild (mv_pN (t := 3) hb0 (by decide)) (by rcases hb0 with rfl | rfl <;> rfl) (mv_inE hi3) dX4_addName_13 ?_
    refine mv_bipush 16 dX4_addName_14 (by decide) ?_
    refine mv_icmp_lt 21 dX4_addName_16 (by decide) (fun z => ?_) (fun z => ?_)
    · replace h := mv_ifT z h
      refine mv_aload_n 0 dX4_addName_21 rfl ?_
      refine mv_getR (b0 + 3) fX4_23 (mv_pN (t := 0) hb0 (by decide)) (by rcases hb0 with rfl | rfl <;> rfl) rfl (by rcases hb0 with rfl | rfl <;> rfl) dX4_addName_22 ?_
      refine mv_iload_n 1 dX4_addName_25 rfl ?_
      obtain ⟨hi4, h⟩ := mv_chkE h
      refine mv_ild (mv_pN (t := 3) hb0 (by decide)) (by rcases hb0 with rfl | rfl <;> rfl) (mv_inE hi4) dX4_addName_26 ?_
      refine mv_topi (fun v5 ev5 => ?_)
      replace h := mv_letE h v5 ev5
      refine mv_istore [(4, .int v5), (0, .ref b0), (1, .int a0), (2, .long a1)] dX4_addName_27 (by decide) rfl ?_
      refine mv_aload_n 1 dX4_addName_29 rfl ?_
      refine mv_getR (b0 + 3) fX4_23 (mv_pN (t := 0) hb0 (by decide)) (by rcases hb0 with rfl | rfl <;> rfl) rfl (by rcases hb0 with rfl | rfl <;> rfl) dX4_addName_30 ?_
      refine mv_iload_n 2 dX4_addName_33 rfl ?_
      refine mv_dup2 dX4_addName_34 rfl rfl ?_
      obtain ⟨hi6, h⟩ := mv_chkE h
      refine mv_ild (mv_pN (t := 3) hb0 (by decide)) (by rcases hb0 with rfl | rfl <;> rfl) (mv_inE hi6) dX4_addName_35 ?_
      refine mv_iconst 1 dX4_addName_36 (by decide) ?_
      refine mv_iadd dX4_addName_37 ?_
      obtain ⟨hi7, h⟩ := mv_chkE h
      refine mv_ist (mv_pN (t := 3) hb0 (by decide)) (by rcases hb0 with rfl | rfl <;> rfl) (mv_inE hi7) dX4_addName_38 (fun M8 eM8 => ?_)
      replace h := mv_letE h M8 eM8
      refine mv_aload_n 1 dX4_addName_39 rfl ?_
      refine mv_getR (b0 + 6) fX4_32 (mv_pN (t := 0) hb0 (by decide)) (by rcases hb0 with rfl | rfl <;> rfl) rfl (by rcases hb0 with rfl | rfl <;> rfl) dX4_addName_40 ?_
      refine mv_iload_n 2 dX4_addName_43 rfl ?_
      refine mv_bipush 16 dX4_addName_44 (by decide) ?_
      refine mv_imul dX4_addName_46 ?_
      refine mv_iload 0 dX4_addName_47 rfl ?_
      refine mv_iadd dX4_addName_49 ?_
      refine mv_lload_n 3 dX4_addName_50 rfl ?_
      obtain ⟨hi9, h⟩ := mv_chkE h
      refine mv_lst (mv_pN (t := 6) hb0 (by decide)) (by rcases hb0 with rfl | rfl <;> rfl) (mv_inE hi9) dX4_addName_51 (fun M10 eM10 => ?_)
      replace h := mv_letE h M10 eM10
      refine mv_iload 0 dX4_addName_52 rfl ?_
      exact mv_iret rfl dX4_addName_54 ⟨_, rfl, h⟩
    · replace h := mv_ifF z h
      refine mv_iconst (-1) dX4_addName_19 (by decide) ?_
      exact mv_iret rfl dX4_addName_20 ⟨_, rfl, h⟩
theorem dX4_setNameType_0 : decode cX4_setNameType 0 = .ok (.aload_n 0, 1) := by decide +kernel
theorem dX4_setNameType_1 : decode cX4_setNameType 1 = .ok (.iload_n 1, 1) := by decide +kernel
theorem dX4_setNameType_2 : decode cX4_setNameType 2 = .ok (.iload_n 2, 1) := by decide +kernel
theorem dX4_setNameType_3 : decode cX4_setNameType 3 = .ok (.invokevirtual 66, 3) := by decide +kernel
theorem dX4_setNameType_6 : decode cX4_setNameType 6 = .ok (.ifCond .eq 15, 3) := by decide +kernel
theorem dX4_setNameType_9 : decode cX4_setNameType 9 = .ok (.aload_n 0, 1) := by decide +kernel
theorem dX4_setNameType_10 : decode cX4_setNameType 10 = .ok (.getfield 35, 3) := by decide +kernel
theorem dX4_setNameType_13 : decode cX4_setNameType 13 = .ok (.iload_n 1, 1) := by decide +kernel
theorem dX4_setNameType_14 : decode cX4_setNameType 14 = .ok (.bipush 16, 2) := by decide +kernel
theorem dX4_setNameType_16 : decode cX4_setNameType 16 = .ok (.imul, 1) := by decide +kernel
theorem dX4_setNameType_17 : decode cX4_setNameType 17 = .ok (.iload_n 2, 1) := by decide +kernel
theorem dX4_setNameType_18 : decode cX4_setNameType 18 = .ok (.iadd, 1) := by decide +kernel
theorem dX4_setNameType_19 : decode cX4_setNameType 19 = .ok (.iload_n 3, 1) := by decide +kernel
theorem dX4_setNameType_20 : decode cX4_setNameType 20 = .ok (.iastore, 1) := by decide +kernel
theorem dX4_setNameType_21 : decode cX4_setNameType 21 = .ok (.return_, 1) := by decide +kernel
noncomputable def fX4_setNameType (b0 : Nat) (a0 : Int32) (a1 : Int32) (a2 : Int32) (M : mv_M) : Option (Unit × mv_M) :=
  mv_bind (fX4_hasName b0 a0 a1 M) fun r1 M2 =>
  if r1 = 0 then
    some ((), M2)
  else
    mv_chk (mv_inb ((a0 * 16) + a1) 192) <|
    mv_let (mv_si M2 (b0 + 7) ((a0 * 16) + a1).toNatClampNeg a2) fun M4 =>
    some ((), M4)
set_option maxRecDepth 100000 in
set_option maxHeartbeats 4000000 in
theorem zX4_setNameType {l : Launch} {d : Nat} {Q : Unit → mv_M → Prop} (hd : 2 ≤ d) (b0 : Nat) (a0 : Int32) (a1 : Int32) (a2 : Int32) (M : mv_M) (hb0 : b0 = 9 ∨ b0 = 24) (h : mv_ok (fX4_setNameType b0 a0 a1 a2 M) Q) : mv l mX4_setNameType d 0 0 (lv_args 0 [.ref b0, .int a0, .int a1, .int a2]) [] M (mv_qV Q) := by
  unfold fX4_setNameType at h
  show mv l mX4_setNameType d 0 0 [(0, .ref b0), (1, .int a0), (2, .int a1), (3, .int a2)] [] M (mv_qV Q)
  refine mv_aload_n 0 dX4_setNameType_0 rfl ?_
  refine mv_iload_n 1 dX4_setNameType_1 rfl ?_
  refine mv_iload_n 2 dX4_setNameType_2 rfl ?_
  refine mv_cvI (As := [.int a0, .int a1]) (st := []) okX4_hasName lX4_66 (mv_pN (t := 0) hb0 (by decide)) (by rcases hb0 with rfl | rfl <;> rfl) rfl rfl (Nat.le_of_ble_eq_true rfl) rfl (Nat.le_of_ble_eq_true rfl) dX4_setNameType_3 (by omega) rfl (zX4_hasName (d := d - 1) (by omega) b0 a0 a1 M hb0 (mv_bindE h)) (fun r1 M2 h => ?_)
  refine mv_if_eq 21 dX4_setNameType_6 (by decide) (fun z => ?_) (fun z => ?_)
  · replace h := mv_ifT z h
    exact mv_vret rfl dX4_setNameType_21 ⟨rfl, h⟩
  · replace h := mv_ifF z h
    refine mv_aload_n 0 dX4_setNameType_9 rfl ?_
    refine mv_getR (b0 + 7) fX4_35 (mv_pN (t := 0) hb0 (by decide)) (by rcases hb0 with rfl | rfl <;> rfl) rfl (by rcases hb0 with rfl | rfl <;> rfl) dX4_setNameType_10 ?_
    refine mv_iload_n 1 dX4_setNameType_13 rfl ?_
    refine mv_bipush 16 dX4_setNameType_14 (by decide) ?_
    refine mv_imul dX4_setNameType_16 ?_
    refine mv_iload_n 2 dX4_setNameType_17 rfl ?_
    refine mv_iadd dX4_setNameType_18 ?_
    refine mv_iload_n 3 dX4_setNameType_19 rfl ?_
    obtain ⟨hi3, h⟩ := mv_chkE h
    refine mv_ist (mv_pN (t := 7) hb0 (by decide)) (by rcases hb0 with rfl | rfl <;> rfl) (mv_inE hi3) dX4_setNameType_20 (fun M4 eM4 => ?_)
    replace h := mv_letE h M4 eM4
    exact mv_vret rfl dX4_setNameType_21 ⟨rfl, h⟩
theorem dX4_addNode_0 : decode cX4_addNode 0 = .ok (.aload_n 0, 1) := by decide +kernel
theorem dX4_addNode_1 : decode cX4_addNode 1 = .ok (.getfield 38, 3) := by decide +kernel
theorem dX4_addNode_4 : decode cX4_addNode 4 = .ok (.sipush 1000, 3) := by decide +kernel
theorem dX4_addNode_7 : decode cX4_addNode 7 = .ok (.if_icmp .lt 5, 3) := by decide +kernel
theorem dX4_addNode_10 : decode cX4_addNode 10 = .ok (.iconst (-1), 1) := by decide +kernel
theorem dX4_addNode_11 : decode cX4_addNode 11 = .ok (.ireturn, 1) := by decide +kernel
theorem dX4_addNode_12 : decode cX4_addNode 12 = .ok (.aload_n 0, 1) := by decide +kernel
theorem dX4_addNode_13 : decode cX4_addNode 13 = .ok (.getfield 38, 3) := by decide +kernel
theorem dX4_addNode_16 : decode cX4_addNode 16 = .ok (.istore 6, 2) := by decide +kernel
theorem dX4_addNode_18 : decode cX4_addNode 18 = .ok (.aload_n 0, 1) := by decide +kernel
theorem dX4_addNode_19 : decode cX4_addNode 19 = .ok (.dup, 1) := by decide +kernel
theorem dX4_addNode_20 : decode cX4_addNode 20 = .ok (.getfield 38, 3) := by decide +kernel
theorem dX4_addNode_23 : decode cX4_addNode 23 = .ok (.iconst 1, 1) := by decide +kernel
theorem dX4_addNode_24 : decode cX4_addNode 24 = .ok (.iadd, 1) := by decide +kernel
theorem dX4_addNode_25 : decode cX4_addNode 25 = .ok (.putfield 38, 3) := by decide +kernel
theorem dX4_addNode_28 : decode cX4_addNode 28 = .ok (.aload_n 0, 1) := by decide +kernel
theorem dX4_addNode_29 : decode cX4_addNode 29 = .ok (.getfield 41, 3) := by decide +kernel
theorem dX4_addNode_32 : decode cX4_addNode 32 = .ok (.iload 6, 2) := by decide +kernel
theorem dX4_addNode_34 : decode cX4_addNode 34 = .ok (.iload_n 1, 1) := by decide +kernel
theorem dX4_addNode_35 : decode cX4_addNode 35 = .ok (.iastore, 1) := by decide +kernel
theorem dX4_addNode_36 : decode cX4_addNode 36 = .ok (.aload_n 0, 1) := by decide +kernel
theorem dX4_addNode_37 : decode cX4_addNode 37 = .ok (.getfield 59, 3) := by decide +kernel
theorem dX4_addNode_40 : decode cX4_addNode 40 = .ok (.iload 6, 2) := by decide +kernel
theorem dX4_addNode_42 : decode cX4_addNode 42 = .ok (.iload_n 2, 1) := by decide +kernel
theorem dX4_addNode_43 : decode cX4_addNode 43 = .ok (.iastore, 1) := by decide +kernel
theorem dX4_addNode_44 : decode cX4_addNode 44 = .ok (.aload_n 0, 1) := by decide +kernel
theorem dX4_addNode_45 : decode cX4_addNode 45 = .ok (.getfield 44, 3) := by decide +kernel
theorem dX4_addNode_48 : decode cX4_addNode 48 = .ok (.iload 6, 2) := by decide +kernel
theorem dX4_addNode_50 : decode cX4_addNode 50 = .ok (.iload_n 3, 1) := by decide +kernel
theorem dX4_addNode_51 : decode cX4_addNode 51 = .ok (.iastore, 1) := by decide +kernel
theorem dX4_addNode_52 : decode cX4_addNode 52 = .ok (.aload_n 0, 1) := by decide +kernel
theorem dX4_addNode_53 : decode cX4_addNode 53 = .ok (.getfield 47, 3) := by decide +kernel
theorem dX4_addNode_56 : decode cX4_addNode 56 = .ok (.iload 6, 2) := by decide +kernel
theorem dX4_addNode_58 : decode cX4_addNode 58 = .ok (.iload 4, 2) := by decide +kernel
theorem dX4_addNode_60 : decode cX4_addNode 60 = .ok (.iastore, 1) := by decide +kernel
theorem dX4_addNode_61 : decode cX4_addNode 61 = .ok (.aload_n 0, 1) := by decide +kernel
theorem dX4_addNode_62 : decode cX4_addNode 62 = .ok (.getfield 50, 3) := by decide +kernel
theorem dX4_addNode_65 : decode cX4_addNode 65 = .ok (.iload 6, 2) := by decide +kernel
theorem dX4_addNode_67 : decode cX4_addNode 67 = .ok (.iload 5, 2) := by decide +kernel
theorem dX4_addNode_69 : decode cX4_addNode 69 = .ok (.iastore, 1) := by decide +kernel
theorem dX4_addNode_70 : decode cX4_addNode 70 = .ok (.aload_n 0, 1) := by decide +kernel
theorem dX4_addNode_71 : decode cX4_addNode 71 = .ok (.getfield 53, 3) := by decide +kernel
theorem dX4_addNode_74 : decode cX4_addNode 74 = .ok (.iload 6, 2) := by decide +kernel
theorem dX4_addNode_76 : decode cX4_addNode 76 = .ok (.iconst (-1), 1) := by decide +kernel
theorem dX4_addNode_77 : decode cX4_addNode 77 = .ok (.iastore, 1) := by decide +kernel
theorem dX4_addNode_78 : decode cX4_addNode 78 = .ok (.aload_n 0, 1) := by decide +kernel
theorem dX4_addNode_79 : decode cX4_addNode 79 = .ok (.getfield 56, 3) := by decide +kernel
theorem dX4_addNode_82 : decode cX4_addNode 82 = .ok (.iload 6, 2) := by decide +kernel
theorem dX4_addNode_84 : decode cX4_addNode 84 = .ok (.iconst 0, 1) := by decide +kernel
theorem dX4_addNode_85 : decode cX4_addNode 85 = .ok (.iastore, 1) := by decide +kernel
theorem dX4_addNode_86 : decode cX4_addNode 86 = .ok (.iload 6, 2) := by decide +kernel
theorem dX4_addNode_88 : decode cX4_addNode 88 = .ok (.ireturn, 1) := by decide +kernel
noncomputable def fX4_addNode (b0 : Nat) (a0 : Int32) (a1 : Int32) (a2 : Int32) (a3 : Int32) (a4 : Int32) (M : mv_M) : Option (Int32 × mv_M) :=
  if (M.1 b0 8) < 1000 then
    mv_let (M.1 b0 8) fun v1 =>
    mv_let (mv_si M b0 8 ((M.1 b0 8) + 1)) fun M2 =>
    mv_chk (mv_inb v1 1000) <|
    mv_let (mv_si M2 (b0 + 8) v1.toNatClampNeg a0) fun M4 =>
    mv_chk (mv_inb v1 1000) <|
    mv_let (mv_si M4 (b0 + 14) v1.toNatClampNeg a1) fun M6 =>
    mv_chk (mv_inb v1 1000) <|
    mv_let (mv_si M6 (b0 + 9) v1.toNatClampNeg a2) fun M8 =>
    mv_chk (mv_inb v1 1000) <|
    mv_let (mv_si M8 (b0 + 10) v1.toNatClampNeg a3) fun M10 =>
    mv_chk (mv_inb v1 1000) <|
    mv_let (mv_si M10 (b0 + 11) v1.toNatClampNeg a4) fun M12 =>
    mv_chk (mv_inb v1 1000) <|
    mv_let (mv_si M12 (b0 + 12) v1.toNatClampNeg (-1)) fun M14 =>
    mv_chk (mv_inb v1 1000) <|
    mv_let (mv_si M14 (b0 + 13) v1.toNatClampNeg 0) fun M16 =>
    some (v1, M16)
  else
    some ((-1), M)
set_option maxRecDepth 100000 in
set_option maxHeartbeats 4000000 in
theorem zX4_addNode {l : Launch} {d : Nat} {Q : Int32 → mv_M → Prop} (hd : 0 ≤ d) (b0 : Nat) (a0 : Int32) (a1 : Int32) (a2 : Int32) (a3 : Int32) (a4 : Int32) (M : mv_M) (hb0 : b0 = 9 ∨ b0 = 24) (h : mv_ok (fX4_addNode b0 a0 a1 a2 a3 a4 M) Q) : mv l mX4_addNode d 0 0 (lv_args 0 [.ref b0, .int a0, .int a1, .int a2, .int a3, .int a4]) [] M (mv_qI Q) := by
  unfold fX4_addNode at h
  show mv l mX4_addNode d 0 0 [(0, .ref b0), (1, .int a0), (2, .int a1), (3, .int a2), (4, .int a3), (5, .int a4)] [] M (mv_qI Q)
  refine mv_aload_n 0 dX4_addNode_0 rfl ?_
  refine mv_getI fX4_38 (mv_pN (t := 0) hb0 (by decide)) (by rcases hb0 with rfl | rfl <;> rfl) rfl dX4_addNode_1 ?_
  refine mv_sipush 1000 dX4_addNode_4 (by decide) ?_
  refine mv_icmp_lt 12 dX4_addNode_7 (by decide) (fun z => ?_) (fun z => ?_)
  · replace h := mv_ifT z h
    refine mv_aload_n 0 dX4_addNode_12 rfl ?_
    refine mv_getI fX4_38 (mv_pN (t := 0) hb0 (by decide)) (by rcases hb0 with rfl | rfl <;> rfl) rfl dX4_addNode_13 ?_
    refine mv_topi (fun v1 ev1 => ?_)
    replace h := mv_letE h v1 ev1
    refine mv_istore [(6, .int v1), (0, .ref b0), (1, .int a0), (2, .int a1), (3, .int a2), (4, .int a3), (5, .int a4)] dX4_addNode_16 (by decide) rfl ?_
    refine mv_aload_n 1 dX4_addNode_18 rfl ?_
    refine mv_dup dX4_addNode_19 rfl ?_
    refine mv_getI fX4_38 (mv_pN (t := 0) hb0 (by decide)) (by rcases hb0 with rfl | rfl <;> rfl) rfl dX4_addNode_20 ?_
    refine mv_iconst 1 dX4_addNode_23 (by decide) ?_
    refine mv_iadd dX4_addNode_24 ?_
    refine mv_putI fX4_38 (mv_pN (t := 0) hb0 (by decide)) (by rcases hb0 with rfl | rfl <;> rfl) rfl dX4_addNode_25 (fun M2 eM2 => ?_)
    replace h := mv_letE h M2 eM2
    refine mv_aload_n 1 dX4_addNode_28 rfl ?_
    refine mv_getR (b0 + 8) fX4_41 (mv_pN (t := 0) hb0 (by decide)) (by rcases hb0 with rfl | rfl <;> rfl) rfl (by rcases hb0 with rfl | rfl <;> rfl) dX4_addNode_29 ?_
    refine mv_iload 0 dX4_addNode_32 rfl ?_
    refine mv_iload_n 2 dX4_addNode_34 rfl ?_
    obtain ⟨hi3, h⟩ := mv_chkE h
    refine mv_ist (mv_pN (t := 8) hb0 (by decide)) (by rcases hb0 with rfl | rfl <;> rfl) (mv_inE hi3) dX4_addNode_35 (fun M4 eM4 => ?_)
    replace h := mv_letE h M4 eM4
    refine mv_aload_n 1 dX4_addNode_36 rfl ?_
    refine mv_getR (b0 + 14) fX4_59 (mv_pN (t := 0) hb0 (by decide)) (by rcases hb0 with rfl | rfl <;> rfl) rfl (by rcases hb0 with rfl | rfl <;> rfl) dX4_addNode_37 ?_
    refine mv_iload 0 dX4_addNode_40 rfl ?_
    refine mv_iload_n 3 dX4_addNode_42 rfl ?_
    obtain ⟨hi5, h⟩ := mv_chkE h
    refine mv_ist (mv_pN (t := 14) hb0 (by decide)) (by rcases hb0 with rfl | rfl <;> rfl) (mv_inE hi5) dX4_addNode_43 (fun M6 eM6 => ?_)
    replace h := mv_letE h M6 eM6
    refine mv_aload_n 1 dX4_addNode_44 rfl ?_
    refine mv_getR (b0 + 9) fX4_44 (mv_pN (t := 0) hb0 (by decide)) (by rcases hb0 with rfl | rfl <;> rfl) rfl (by rcases hb0 with rfl | rfl <;> rfl) dX4_addNode_45 ?_
    refine mv_iload 0 dX4_addNode_48 rfl ?_
    refine mv_iload_n 4 dX4_addNode_50 rfl ?_
    obtain ⟨hi7, h⟩ := mv_chkE h
    refine mv_ist (mv_pN (t := 9) hb0 (by decide)) (by rcases hb0 with rfl | rfl <;> rfl) (mv_inE hi7) dX4_addNode_51 (fun M8 eM8 => ?_)
    replace h := mv_letE h M8 eM8
    refine mv_aload_n 1 dX4_addNode_52 rfl ?_
    refine mv_getR (b0 + 10) fX4_47 (mv_pN (t := 0) hb0 (by decide)) (by rcases hb0 with rfl | rfl <;> rfl) rfl (by rcases hb0 with rfl | rfl <;> rfl) dX4_addNode_53 ?_
    refine mv_iload 0 dX4_addNode_56 rfl ?_
    refine mv_iload 5 dX4_addNode_58 rfl ?_
    obtain ⟨hi9, h⟩ := mv_chkE h
    refine mv_ist (mv_pN (t := 10) hb0 (by decide)) (by rcases hb0 with rfl | rfl <;> rfl) (mv_inE hi9) dX4_addNode_60 (fun M10 eM10 => ?_)
    replace h := mv_letE h M10 eM10
    refine mv_aload_n 1 dX4_addNode_61 rfl ?_
    refine mv_getR (b0 + 11) fX4_50 (mv_pN (t := 0) hb0 (by decide)) (by rcases hb0 with rfl | rfl <;> rfl) rfl (by rcases hb0 with rfl | rfl <;> rfl) dX4_addNode_62 ?_
    refine mv_iload 0 dX4_addNode_65 rfl ?_
    refine mv_iload 6 dX4_addNode_67 rfl ?_
    obtain ⟨hi11, h⟩ := mv_chkE h
    refine mv_ist (mv_pN (t := 11) hb0 (by decide)) (by rcases hb0 with rfl | rfl <;> rfl) (mv_inE hi11) dX4_addNode_69 (fun M12 eM12 => ?_)
    replace h := mv_letE h M12 eM12
    refine mv_aload_n 1 dX4_addNode_70 rfl ?_
    refine mv_getR (b0 + 12) fX4_53 (mv_pN (t := 0) hb0 (by decide)) (by rcases hb0 with rfl | rfl <;> rfl) rfl (by rcases hb0 with rfl | rfl <;> rfl) dX4_addNode_71 ?_
    refine mv_iload 0 dX4_addNode_74 rfl ?_
    refine mv_iconst (-1) dX4_addNode_76 (by decide) ?_
    obtain ⟨hi13, h⟩ := mv_chkE h
    refine mv_ist (mv_pN (t := 12) hb0 (by decide)) (by rcases hb0 with rfl | rfl <;> rfl) (mv_inE hi13) dX4_addNode_77 (fun M14 eM14 => ?_)
    replace h := mv_letE h M14 eM14
    refine mv_aload_n 1 dX4_addNode_78 rfl ?_
    refine mv_getR (b0 + 13) fX4_56 (mv_pN (t := 0) hb0 (by decide)) (by rcases hb0 with rfl | rfl <;> rfl) rfl (by rcases hb0 with rfl | rfl <;> rfl) dX4_addNode_79 ?_
    refine mv_iload 0 dX4_addNode_82 rfl ?_
    refine mv_iconst 0 dX4_addNode_84 (by decide) ?_
    obtain ⟨hi15, h⟩ := mv_chkE h
    refine mv_ist (mv_pN (t := 13) hb0 (by decide)) (by rcases hb0 with rfl | rfl <;> rfl) (mv_inE hi15) dX4_addNode_85 (fun M16 eM16 => ?_)
    replace h := mv_letE h M16 eM16
    refine mv_iload 0 dX4_addNode_86 rfl ?_
    exact mv_iret rfl dX4_addNode_88 ⟨_, rfl, h⟩
  · replace h := mv_ifF z h
    refine mv_iconst (-1) dX4_addNode_10 (by decide) ?_
    exact mv_iret rfl dX4_addNode_11 ⟨_, rfl, h⟩
theorem dX4_hasNode_0 : decode cX4_hasNode 0 = .ok (.iload_n 1, 1) := by decide +kernel
theorem dX4_hasNode_1 : decode cX4_hasNode 1 = .ok (.ifCond .lt 15, 3) := by decide +kernel
theorem dX4_hasNode_4 : decode cX4_hasNode 4 = .ok (.iload_n 1, 1) := by decide +kernel
theorem dX4_hasNode_5 : decode cX4_hasNode 5 = .ok (.aload_n 0, 1) := by decide +kernel
theorem dX4_hasNode_6 : decode cX4_hasNode 6 = .ok (.getfield 38, 3) := by decide +kernel
theorem dX4_hasNode_9 : decode cX4_hasNode 9 = .ok (.if_icmp .ge 7, 3) := by decide +kernel
theorem dX4_hasNode_12 : decode cX4_hasNode 12 = .ok (.iconst 1, 1) := by decide +kernel
theorem dX4_hasNode_13 : decode cX4_hasNode 13 = .ok (.goto 4, 3) := by decide +kernel
theorem dX4_hasNode_16 : decode cX4_hasNode 16 = .ok (.iconst 0, 1) := by decide +kernel
theorem dX4_hasNode_17 : decode cX4_hasNode 17 = .ok (.ireturn, 1) := by decide +kernel
noncomputable def fX4_hasNode (b0 : Nat) (a0 : Int32) (M : mv_M) : Option (Int32 × mv_M) :=
  if a0 < 0 then
    some (0, M)
  else
    if (M.1 b0 8) ≤ a0 then
      some (0, M)
    else
      some (1, M)
set_option maxRecDepth 100000 in
set_option maxHeartbeats 4000000 in
theorem zX4_hasNode {l : Launch} {d : Nat} {Q : Int32 → mv_M → Prop} (hd : 0 ≤ d) (b0 : Nat) (a0 : Int32) (M : mv_M) (hb0 : b0 = 9 ∨ b0 = 24) (h : mv_ok (fX4_hasNode b0 a0 M) Q) : mv l mX4_hasNode d 0 0 (lv_args 0 [.ref b0, .int a0]) [] M (mv_qI Q) := by
  unfold fX4_hasNode at h
  show mv l mX4_hasNode d 0 0 [(0, .ref b0), (1, .int a0)] [] M (mv_qI Q)
  refine mv_iload_n 1 dX4_hasNode_0 rfl ?_
  refine mv_if_lt 16 dX4_hasNode_1 (by decide) (fun z => ?_) (fun z => ?_)
  · replace h := mv_ifT z h
    refine mv_iconst 0 dX4_hasNode_16 (by decide) ?_
    exact mv_zret (by decide) rfl dX4_hasNode_17 ⟨_, rfl, h⟩
  · replace h := mv_ifF z h
    refine mv_iload_n 1 dX4_hasNode_4 rfl ?_
    refine mv_aload_n 0 dX4_hasNode_5 rfl ?_
    refine mv_getI fX4_38 (mv_pN (t := 0) hb0 (by decide)) (by rcases hb0 with rfl | rfl <;> rfl) rfl dX4_hasNode_6 ?_
    refine mv_icmp_ge 16 dX4_hasNode_9 (by decide) (fun z => ?_) (fun z => ?_)
    · replace h := mv_ifT z h
      refine mv_iconst 0 dX4_hasNode_16 (by decide) ?_
      exact mv_zret (by decide) rfl dX4_hasNode_17 ⟨_, rfl, h⟩
    · replace h := mv_ifF z h
      refine mv_iconst 1 dX4_hasNode_12 (by decide) ?_
      refine mv_goto 17 dX4_hasNode_13 (by decide) ?_
      exact mv_zret (by decide) rfl dX4_hasNode_17 ⟨_, rfl, h⟩
theorem dX4_nameType_0 : decode cX4_nameType 0 = .ok (.aload_n 0, 1) := by decide +kernel
theorem dX4_nameType_1 : decode cX4_nameType 1 = .ok (.iload_n 1, 1) := by decide +kernel
theorem dX4_nameType_2 : decode cX4_nameType 2 = .ok (.iload_n 2, 1) := by decide +kernel
theorem dX4_nameType_3 : decode cX4_nameType 3 = .ok (.invokevirtual 66, 3) := by decide +kernel
theorem dX4_nameType_6 : decode cX4_nameType 6 = .ok (.ifCond .eq 17, 3) := by decide +kernel
theorem dX4_nameType_9 : decode cX4_nameType 9 = .ok (.aload_n 0, 1) := by decide +kernel
theorem dX4_nameType_10 : decode cX4_nameType 10 = .ok (.getfield 35, 3) := by decide +kernel
theorem dX4_nameType_13 : decode cX4_nameType 13 = .ok (.iload_n 1, 1) := by decide +kernel
theorem dX4_nameType_14 : decode cX4_nameType 14 = .ok (.bipush 16, 2) := by decide +kernel
theorem dX4_nameType_16 : decode cX4_nameType 16 = .ok (.imul, 1) := by decide +kernel
theorem dX4_nameType_17 : decode cX4_nameType 17 = .ok (.iload_n 2, 1) := by decide +kernel
theorem dX4_nameType_18 : decode cX4_nameType 18 = .ok (.iadd, 1) := by decide +kernel
theorem dX4_nameType_19 : decode cX4_nameType 19 = .ok (.iaload, 1) := by decide +kernel
theorem dX4_nameType_20 : decode cX4_nameType 20 = .ok (.goto 4, 3) := by decide +kernel
theorem dX4_nameType_23 : decode cX4_nameType 23 = .ok (.iconst 0, 1) := by decide +kernel
theorem dX4_nameType_24 : decode cX4_nameType 24 = .ok (.ireturn, 1) := by decide +kernel
noncomputable def fX4_nameType (b0 : Nat) (a0 : Int32) (a1 : Int32) (M : mv_M) : Option (Int32 × mv_M) :=
  mv_bind (fX4_hasName b0 a0 a1 M) fun r1 M2 =>
  if r1 = 0 then
    some (0, M2)
  else
    mv_chk (mv_inb ((a0 * 16) + a1) 192) <|
    some (M2.1 (b0 + 7) ((a0 * 16) + a1).toNatClampNeg, M2)
set_option maxRecDepth 100000 in
set_option maxHeartbeats 4000000 in
theorem zX4_nameType {l : Launch} {d : Nat} {Q : Int32 → mv_M → Prop} (hd : 2 ≤ d) (b0 : Nat) (a0 : Int32) (a1 : Int32) (M : mv_M) (hb0 : b0 = 9 ∨ b0 = 24) (h : mv_ok (fX4_nameType b0 a0 a1 M) Q) : mv l mX4_nameType d 0 0 (lv_args 0 [.ref b0, .int a0, .int a1]) [] M (mv_qI Q) := by
  unfold fX4_nameType at h
  show mv l mX4_nameType d 0 0 [(0, .ref b0), (1, .int a0), (2, .int a1)] [] M (mv_qI Q)
  refine mv_aload_n 0 dX4_nameType_0 rfl ?_
  refine mv_iload_n 1 dX4_nameType_1 rfl ?_
  refine mv_iload_n 2 dX4_nameType_2 rfl ?_
  refine mv_cvI (As := [.int a0, .int a1]) (st := []) okX4_hasName lX4_66 (mv_pN (t := 0) hb0 (by decide)) (by rcases hb0 with rfl | rfl <;> rfl) rfl rfl (Nat.le_of_ble_eq_true rfl) rfl (Nat.le_of_ble_eq_true rfl) dX4_nameType_3 (by omega) rfl (zX4_hasName (d := d - 1) (by omega) b0 a0 a1 M hb0 (mv_bindE h)) (fun r1 M2 h => ?_)
  refine mv_if_eq 23 dX4_nameType_6 (by decide) (fun z => ?_) (fun z => ?_)
  · replace h := mv_ifT z h
    refine mv_iconst 0 dX4_nameType_23 (by decide) ?_
    exact mv_iret rfl dX4_nameType_24 ⟨_, rfl, h⟩
  · replace h := mv_ifF z h
    refine mv_aload_n 0 dX4_nameType_9 rfl ?_
    refine mv_getR (b0 + 7) fX4_35 (mv_pN (t := 0) hb0 (by decide)) (by rcases hb0 with rfl | rfl <;> rfl) rfl (by rcases hb0 with rfl | rfl <;> rfl) dX4_nameType_10 ?_
    refine mv_iload_n 1 dX4_nameType_13 rfl ?_
    refine mv_bipush 16 dX4_nameType_14 (by decide) ?_
    refine mv_imul dX4_nameType_16 ?_
    refine mv_iload_n 2 dX4_nameType_17 rfl ?_
    refine mv_iadd dX4_nameType_18 ?_
    obtain ⟨hi3, h⟩ := mv_chkE h
    refine mv_ild (mv_pN (t := 7) hb0 (by decide)) (by rcases hb0 with rfl | rfl <;> rfl) (mv_inE hi3) dX4_nameType_19 ?_
    refine mv_goto 24 dX4_nameType_20 (by decide) ?_
    exact mv_iret rfl dX4_nameType_24 ⟨_, rfl, h⟩
theorem dX4_hasParam_0 : decode cX4_hasParam 0 = .ok (.aload_n 0, 1) := by decide +kernel
theorem dX4_hasParam_1 : decode cX4_hasParam 1 = .ok (.iload_n 1, 1) := by decide +kernel
theorem dX4_hasParam_2 : decode cX4_hasParam 2 = .ok (.invokevirtual 62, 3) := by decide +kernel
theorem dX4_hasParam_5 : decode cX4_hasParam 5 = .ok (.ifCond .eq 21, 3) := by decide +kernel
theorem dX4_hasParam_8 : decode cX4_hasParam 8 = .ok (.iload_n 2, 1) := by decide +kernel
theorem dX4_hasParam_9 : decode cX4_hasParam 9 = .ok (.ifCond .lt 17, 3) := by decide +kernel
theorem dX4_hasParam_12 : decode cX4_hasParam 12 = .ok (.iload_n 2, 1) := by decide +kernel
theorem dX4_hasParam_13 : decode cX4_hasParam 13 = .ok (.aload_n 0, 1) := by decide +kernel
theorem dX4_hasParam_14 : decode cX4_hasParam 14 = .ok (.getfield 19, 3) := by decide +kernel
theorem dX4_hasParam_17 : decode cX4_hasParam 17 = .ok (.iload_n 1, 1) := by decide +kernel
theorem dX4_hasParam_18 : decode cX4_hasParam 18 = .ok (.iaload, 1) := by decide +kernel
theorem dX4_hasParam_19 : decode cX4_hasParam 19 = .ok (.if_icmp .ge 7, 3) := by decide +kernel
theorem dX4_hasParam_22 : decode cX4_hasParam 22 = .ok (.iconst 1, 1) := by decide +kernel
theorem dX4_hasParam_23 : decode cX4_hasParam 23 = .ok (.goto 4, 3) := by decide +kernel
theorem dX4_hasParam_26 : decode cX4_hasParam 26 = .ok (.iconst 0, 1) := by decide +kernel
theorem dX4_hasParam_27 : decode cX4_hasParam 27 = .ok (.ireturn, 1) := by decide +kernel
noncomputable def fX4_hasParam (b0 : Nat) (a0 : Int32) (a1 : Int32) (M : mv_M) : Option (Int32 × mv_M) :=
  mv_bind (fX4_hasFunction b0 a0 M) fun r1 M2 =>
  if r1 = 0 then
    some (0, M2)
  else
    if a1 < 0 then
      some (0, M2)
    else
      mv_chk (mv_inb a0 12) <|
      if (M2.1 (b0 + 2) a0.toNatClampNeg) ≤ a1 then
        some (0, M2)
      else
        some (1, M2)
set_option maxRecDepth 100000 in
set_option maxHeartbeats 4000000 in
theorem zX4_hasParam {l : Launch} {d : Nat} {Q : Int32 → mv_M → Prop} (hd : 1 ≤ d) (b0 : Nat) (a0 : Int32) (a1 : Int32) (M : mv_M) (hb0 : b0 = 9 ∨ b0 = 24) (h : mv_ok (fX4_hasParam b0 a0 a1 M) Q) : mv l mX4_hasParam d 0 0 (lv_args 0 [.ref b0, .int a0, .int a1]) [] M (mv_qI Q) := by
  unfold fX4_hasParam at h
  show mv l mX4_hasParam d 0 0 [(0, .ref b0), (1, .int a0), (2, .int a1)] [] M (mv_qI Q)
  refine mv_aload_n 0 dX4_hasParam_0 rfl ?_
  refine mv_iload_n 1 dX4_hasParam_1 rfl ?_
  refine mv_cvI (As := [.int a0]) (st := []) okX4_hasFunction lX4_62 (mv_pN (t := 0) hb0 (by decide)) (by rcases hb0 with rfl | rfl <;> rfl) rfl rfl (Nat.le_of_ble_eq_true rfl) rfl (Nat.le_of_ble_eq_true rfl) dX4_hasParam_2 (by omega) rfl (zX4_hasFunction (d := d - 1) (by omega) b0 a0 M hb0 (mv_bindE h)) (fun r1 M2 h => ?_)
  refine mv_if_eq 26 dX4_hasParam_5 (by decide) (fun z => ?_) (fun z => ?_)
  · replace h := mv_ifT z h
    refine mv_iconst 0 dX4_hasParam_26 (by decide) ?_
    exact mv_zret (by decide) rfl dX4_hasParam_27 ⟨_, rfl, h⟩
  · replace h := mv_ifF z h
    refine mv_iload_n 2 dX4_hasParam_8 rfl ?_
    refine mv_if_lt 26 dX4_hasParam_9 (by decide) (fun z => ?_) (fun z => ?_)
    · replace h := mv_ifT z h
      refine mv_iconst 0 dX4_hasParam_26 (by decide) ?_
      exact mv_zret (by decide) rfl dX4_hasParam_27 ⟨_, rfl, h⟩
    · replace h := mv_ifF z h
      refine mv_iload_n 2 dX4_hasParam_12 rfl ?_
      refine mv_aload_n 0 dX4_hasParam_13 rfl ?_
      refine mv_getR (b0 + 2) fX4_19 (mv_pN (t := 0) hb0 (by decide)) (by rcases hb0 with rfl | rfl <;> rfl) rfl (by rcases hb0 with rfl | rfl <;> rfl) dX4_hasParam_14 ?_
      refine mv_iload_n 1 dX4_hasParam_17 rfl ?_
      obtain ⟨hi3, h⟩ := mv_chkE h
      refine mv_ild (mv_pN (t := 2) hb0 (by decide)) (by rcases hb0 with rfl | rfl <;> rfl) (mv_inE hi3) dX4_hasParam_18 ?_
      refine mv_icmp_ge 26 dX4_hasParam_19 (by decide) (fun z => ?_) (fun z => ?_)
      · replace h := mv_ifT z h
        refine mv_iconst 0 dX4_hasParam_26 (by decide) ?_
        exact mv_zret (by decide) rfl dX4_hasParam_27 ⟨_, rfl, h⟩
      · replace h := mv_ifF z h
        refine mv_iconst 1 dX4_hasParam_22 (by decide) ?_
        refine mv_goto 27 dX4_hasParam_23 (by decide) ?_
        exact mv_zret (by decide) rfl dX4_hasParam_27 ⟨_, rfl, h⟩
