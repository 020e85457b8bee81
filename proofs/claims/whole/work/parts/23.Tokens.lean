theorem dX8_append_0 : decode cX8_append 0 = .ok (.bipush 24, 2) := by decide +kernel
theorem dX8_append_2 : decode cX8_append 2 = .ok (.istore_n 2, 1) := by decide +kernel
theorem dX8_append_3 : decode cX8_append 3 = .ok (.iload_n 2, 1) := by decide +kernel
theorem dX8_append_4 : decode cX8_append 4 = .ok (.ifCond .lt 42, 3) := by decide +kernel
theorem dX8_append_7 : decode cX8_append 7 = .ok (.aload_n 0, 1) := by decide +kernel
theorem dX8_append_8 : decode cX8_append 8 = .ok (.getfield 15, 3) := by decide +kernel
theorem dX8_append_11 : decode cX8_append 11 = .ok (.sipush 4000, 3) := by decide +kernel
theorem dX8_append_14 : decode cX8_append 14 = .ok (.if_icmp .ge 32, 3) := by decide +kernel
theorem dX8_append_17 : decode cX8_append 17 = .ok (.aload_n 0, 1) := by decide +kernel
theorem dX8_append_18 : decode cX8_append 18 = .ok (.getfield 9, 3) := by decide +kernel
theorem dX8_append_21 : decode cX8_append 21 = .ok (.aload_n 0, 1) := by decide +kernel
theorem dX8_append_22 : decode cX8_append 22 = .ok (.getfield 15, 3) := by decide +kernel
theorem dX8_append_25 : decode cX8_append 25 = .ok (.iload_n 1, 1) := by decide +kernel
theorem dX8_append_26 : decode cX8_append 26 = .ok (.iload_n 2, 1) := by decide +kernel
theorem dX8_append_27 : decode cX8_append 27 = .ok (.ishr, 1) := by decide +kernel
theorem dX8_append_28 : decode cX8_append 28 = .ok (.i2b, 1) := by decide +kernel
theorem dX8_append_29 : decode cX8_append 29 = .ok (.bastore, 1) := by decide +kernel
theorem dX8_append_30 : decode cX8_append 30 = .ok (.aload_n 0, 1) := by decide +kernel
theorem dX8_append_31 : decode cX8_append 31 = .ok (.dup, 1) := by decide +kernel
theorem dX8_append_32 : decode cX8_append 32 = .ok (.getfield 15, 3) := by decide +kernel
theorem dX8_append_35 : decode cX8_append 35 = .ok (.iconst 1, 1) := by decide +kernel
theorem dX8_append_36 : decode cX8_append 36 = .ok (.iadd, 1) := by decide +kernel
theorem dX8_append_37 : decode cX8_append 37 = .ok (.putfield 15, 3) := by decide +kernel
theorem dX8_append_40 : decode cX8_append 40 = .ok (.iinc 2 (-8), 3) := by decide +kernel
theorem dX8_append_43 : decode cX8_append 43 = .ok (.goto (-40), 3) := by decide +kernel
theorem dX8_append_46 : decode cX8_append 46 = .ok (.return_, 1) := by decide +kernel
noncomputable def gX8_append_3 (x1 : Int32) (x2 : Int32) (M : mv_M) : Option (((Int32 × Int32) ⊕ Unit) × mv_M) :=
  if x2 < 0 then
    some (.inr (()), M)
  else
    if 4000 ≤ (M.1 2 1) then
      some (.inr (()), M)
    else
      mv_chk (mv_inb (M.1 2 1) 4000) <|
      mv_let (mv_si M 39 (M.1 2 1).toNatClampNeg (vp_nar .byte ((x1 >>> (x2 &&& 31)).toInt8.toInt32))) fun M2 =>
      mv_let (mv_si M2 2 1 ((M2.1 2 1) + 1)) fun M3 =>
      mv_let (x2 - 8) fun v4 =>
      some (.inl (x1, v4), M3)
noncomputable def fX8_append_3 (x1 : Int32) (x2 : Int32) (M : mv_M) : Option (Unit × mv_M) := mv_loop (fun (s : Int32 × Int32) M => gX8_append_3 s.1 s.2 M) (x1, x2) M
set_option maxRecDepth 100000 in
set_option maxHeartbeats 4000000 in
theorem zX8_append_3 {l : Launch} {d : Nat} {Q : Unit → mv_M → Prop} (hd : 0 ≤ d) (x1 : Int32) (x2 : Int32) (M : mv_M) (h : mv_ok (fX8_append_3 x1 x2 M) Q) : mv l mX8_append d 0 3 [(0, .ref 2), (1, .int x1), (2, .int x2)] [] M (mv_qV Q) := by
  unfold fX8_append_3 at h
  refine mv_loopE (A := (fun (s : Int32 × Int32) M => mv l mX8_append d 0 3 [(0, .ref 2), (1, .int s.1), (2, .int s.2)] [] M (mv_qV Q))) ?_ (x1, x2) M h
  · rintro ⟨x1, x2⟩ M h
    try dsimp only at h
    show mv l mX8_append d 0 3 [(0, .ref 2), (1, .int x1), (2, .int x2)] [] M (mv_qV Q)
    unfold gX8_append_3 at h
    refine mv_iload_n 2 dX8_append_3 rfl ?_
    refine mv_if_lt 46 dX8_append_4 (by decide) (fun z => ?_) (fun z => ?_)
    · replace h := mv_ifT z h
      exact mv_vret rfl dX8_append_46 ⟨rfl, h⟩
    · replace h := mv_ifF z h
      refine mv_aload_n 0 dX8_append_7 rfl ?_
      refine mv_getI fX8_15 (by decide) rfl rfl dX8_append_8 ?_
      refine mv_sipush 4000 dX8_append_11 (by decide) ?_
      refine mv_icmp_ge 46 dX8_append_14 (by decide) (fun z => ?_) (fun z => ?_)
      · replace h := mv_ifT z h
        exact mv_vret rfl dX8_append_46 ⟨rfl, h⟩
      · replace h := mv_ifF z h
        refine mv_aload_n 0 dX8_append_17 rfl ?_
        refine mv_getR 39 fX8_9 (by decide) rfl rfl rfl dX8_append_18 ?_
        refine mv_aload_n 0 dX8_append_21 rfl ?_
        refine mv_getI fX8_15 (by decide) rfl rfl dX8_append_22 ?_
        refine mv_iload_n 1 dX8_append_25 rfl ?_
        refine mv_iload_n 2 dX8_append_26 rfl ?_
        refine mv_ishr dX8_append_27 ?_
        refine mv_i2b dX8_append_28 ?_
        obtain ⟨hi1, h⟩ := mv_chkE h
        refine mv_bst (by decide) rfl (mv_inE hi1) dX8_append_29 (fun M2 eM2 => ?_)
        replace h := mv_letE h M2 eM2
        refine mv_aload_n 0 dX8_append_30 rfl ?_
        refine mv_dup dX8_append_31 rfl ?_
        refine mv_getI fX8_15 (by decide) rfl rfl dX8_append_32 ?_
        refine mv_iconst 1 dX8_append_35 (by decide) ?_
        refine mv_iadd dX8_append_36 ?_
        refine mv_putI fX8_15 (by decide) rfl rfl dX8_append_37 (fun M3 eM3 => ?_)
        replace h := mv_letE h M3 eM3
        obtain ⟨v4, ev4⟩ : ∃ z : Int32, z = x2 - 8 := ⟨_, rfl⟩
        replace h := mv_letE h v4 ev4
        refine mv_iinc v4 2 [(2, .int v4), (0, .ref 2), (1, .int x1)] dX8_append_40 rfl (mv_dec 8 (by decide) ev4) (by decide) rfl ?_
        refine mv_goto 3 dX8_append_43 (by decide) ?_
        refine mv_sub [1, 2, 0] rfl ?_
        exact h
noncomputable def fX8_append (a0 : Int32) (M : mv_M) : Option (Unit × mv_M) :=
  fX8_append_3 a0 24 M
set_option maxRecDepth 100000 in
set_option maxHeartbeats 4000000 in
theorem zX8_append {l : Launch} {d : Nat} {Q : Unit → mv_M → Prop} (hd : 0 ≤ d) (a0 : Int32) (M : mv_M) (h : mv_ok (fX8_append a0 M) Q) : mv l mX8_append d 0 0 (lv_args 0 [.ref 2, .int a0]) [] M (mv_qV Q) := by
  unfold fX8_append at h
  show mv l mX8_append d 0 0 [(0, .ref 2), (1, .int a0)] [] M (mv_qV Q)
  refine mv_bipush 24 dX8_append_0 (by decide) ?_
  refine mv_istore_n [(2, .int 24), (0, .ref 2), (1, .int a0)] dX8_append_2 (by decide) rfl ?_
  refine mv_sub [1, 2, 0] rfl ?_
  exact zX8_append_3 hd a0 24 M h
theorem dX8_pastBlanks_0 : decode cX8_pastBlanks 0 = .ok (.iload_n 1, 1) := by decide +kernel
theorem dX8_pastBlanks_1 : decode cX8_pastBlanks 1 = .ok (.istore_n 2, 1) := by decide +kernel
theorem dX8_pastBlanks_2 : decode cX8_pastBlanks 2 = .ok (.iload_n 2, 1) := by decide +kernel
theorem dX8_pastBlanks_3 : decode cX8_pastBlanks 3 = .ok (.aload_n 0, 1) := by decide +kernel
theorem dX8_pastBlanks_4 : decode cX8_pastBlanks 4 = .ok (.getfield 15, 3) := by decide +kernel
theorem dX8_pastBlanks_7 : decode cX8_pastBlanks 7 = .ok (.if_icmp .ge 31, 3) := by decide +kernel
theorem dX8_pastBlanks_10 : decode cX8_pastBlanks 10 = .ok (.aload_n 0, 1) := by decide +kernel
theorem dX8_pastBlanks_11 : decode cX8_pastBlanks 11 = .ok (.getfield 9, 3) := by decide +kernel
theorem dX8_pastBlanks_14 : decode cX8_pastBlanks 14 = .ok (.iload_n 2, 1) := by decide +kernel
theorem dX8_pastBlanks_15 : decode cX8_pastBlanks 15 = .ok (.baload, 1) := by decide +kernel
theorem dX8_pastBlanks_16 : decode cX8_pastBlanks 16 = .ok (.bipush 32, 2) := by decide +kernel
theorem dX8_pastBlanks_18 : decode cX8_pastBlanks 18 = .ok (.if_icmp .eq 14, 3) := by decide +kernel
theorem dX8_pastBlanks_21 : decode cX8_pastBlanks 21 = .ok (.aload_n 0, 1) := by decide +kernel
theorem dX8_pastBlanks_22 : decode cX8_pastBlanks 22 = .ok (.getfield 9, 3) := by decide +kernel
theorem dX8_pastBlanks_25 : decode cX8_pastBlanks 25 = .ok (.iload_n 2, 1) := by decide +kernel
theorem dX8_pastBlanks_26 : decode cX8_pastBlanks 26 = .ok (.baload, 1) := by decide +kernel
theorem dX8_pastBlanks_27 : decode cX8_pastBlanks 27 = .ok (.bipush 10, 2) := by decide +kernel
theorem dX8_pastBlanks_29 : decode cX8_pastBlanks 29 = .ok (.if_icmp .ne 9, 3) := by decide +kernel
theorem dX8_pastBlanks_32 : decode cX8_pastBlanks 32 = .ok (.iinc 2 1, 3) := by decide +kernel
theorem dX8_pastBlanks_35 : decode cX8_pastBlanks 35 = .ok (.goto (-33), 3) := by decide +kernel
theorem dX8_pastBlanks_38 : decode cX8_pastBlanks 38 = .ok (.iload_n 2, 1) := by decide +kernel
theorem dX8_pastBlanks_39 : decode cX8_pastBlanks 39 = .ok (.ireturn, 1) := by decide +kernel
noncomputable def fX8_pastBlanks_32 (x2 : Int32) (M : mv_M) : Option (((Int32) ⊕ Int32) × mv_M) :=
  mv_let (x2 + 1) fun v3 =>
  some (.inl v3, M)
set_option maxRecDepth 100000 in
set_option maxHeartbeats 4000000 in
theorem zX8_pastBlanks_32 {l : Launch} {d : Nat} {Q : Int32 → mv_M → Prop} (hd : 0 ≤ d) (x2 : Int32) (M : mv_M) (h : mv_ok (fX8_pastBlanks_32 x2 M) (mv_pq (fun (s : Int32) M => mv l mX8_pastBlanks d 0 2 [(0, .ref 2), (2, .int s)] [] M (mv_qI Q)) Q)) : mv l mX8_pastBlanks d 0 32 [(0, .ref 2), (2, .int x2)] [] M (mv_qI Q) := by
  unfold fX8_pastBlanks_32 at h
  obtain ⟨v3, ev3⟩ : ∃ z : Int32, z = x2 + 1 := ⟨_, rfl⟩
  replace h := mv_letE h v3 ev3
  refine mv_iinc v3 1 [(2, .int v3), (0, .ref 2)] dX8_pastBlanks_32 rfl (by rw [ev3]; rfl) (by decide) rfl ?_
  refine mv_goto 2 dX8_pastBlanks_35 (by decide) ?_
  refine mv_sub [1, 0] rfl ?_
  exact h
noncomputable def gX8_pastBlanks_2 (x2 : Int32) (M : mv_M) : Option (((Int32) ⊕ Int32) × mv_M) :=
  if (M.1 2 1) ≤ x2 then
    some (.inr (x2), M)
  else
    mv_chk (mv_inb x2 4000) <|
    if (M.1 39 x2.toNatClampNeg) = 32 then
      fX8_pastBlanks_32 x2 M
    else
      mv_chk (mv_inb x2 4000) <|
      if (M.1 39 x2.toNatClampNeg) = 10 then
        fX8_pastBlanks_32 x2 M
      else
        some (.inr (x2), M)
noncomputable def fX8_pastBlanks_2 (x2 : Int32) (M : mv_M) : Option (Int32 × mv_M) := mv_loop (fun (s : Int32) M => gX8_pastBlanks_2 s M) x2 M
set_option maxRecDepth 100000 in
set_option maxHeartbeats 4000000 in
theorem zX8_pastBlanks_2 {l : Launch} {d : Nat} {Q : Int32 → mv_M → Prop} (hd : 0 ≤ d) (x2 : Int32) (M : mv_M) (h : mv_ok (fX8_pastBlanks_2 x2 M) Q) : mv l mX8_pastBlanks d 0 2 [(0, .ref 2), (2, .int x2)] [] M (mv_qI Q) := by
  unfold fX8_pastBlanks_2 at h
  refine mv_loopE (A := (fun (s : Int32) M => mv l mX8_pastBlanks d 0 2 [(0, .ref 2), (2, .int s)] [] M (mv_qI Q))) ?_ x2 M h
  · intro x2 M h
    try dsimp only at h
    show mv l mX8_pastBlanks d 0 2 [(0, .ref 2), (2, .int x2)] [] M (mv_qI Q)
    unfold gX8_pastBlanks_2 at h
    refine mv_iload_n 1 dX8_pastBlanks_2 rfl ?_
    refine mv_aload_n 0 dX8_pastBlanks_3 rfl ?_
    refine mv_getI fX8_15 (by decide) rfl rfl dX8_pastBlanks_4 ?_
    refine mv_icmp_ge 38 dX8_pastBlanks_7 (by decide) (fun z => ?_) (fun z => ?_)
    · replace h := mv_ifT z h
      refine mv_iload_n 1 dX8_pastBlanks_38 rfl ?_
      exact mv_iret rfl dX8_pastBlanks_39 ⟨_, rfl, h⟩
    · replace h := mv_ifF z h
      refine mv_aload_n 0 dX8_pastBlanks_10 rfl ?_
      refine mv_getR 39 fX8_9 (by decide) rfl rfl rfl dX8_pastBlanks_11 ?_
      refine mv_iload_n 1 dX8_pastBlanks_14 rfl ?_
      obtain ⟨hi1, h⟩ := mv_chkE h
      refine mv_bld (by decide) rfl (mv_inE hi1) dX8_pastBlanks_15 ?_
      refine mv_bipush 32 dX8_pastBlanks_16 (by decide) ?_
      refine mv_icmp_eq 32 dX8_pastBlanks_18 (by decide) (fun z => ?_) (fun z => ?_)
      · replace h := mv_ifT z h
        refine mv_sub [0, 1] rfl ?_
        exact zX8_pastBlanks_32 hd x2 M h
      · replace h := mv_ifF z h
        refine mv_aload_n 0 dX8_pastBlanks_21 rfl ?_
        refine mv_getR 39 fX8_9 (by decide) rfl rfl rfl dX8_pastBlanks_22 ?_
        refine mv_iload_n 1 dX8_pastBlanks_25 rfl ?_
        obtain ⟨hi2, h⟩ := mv_chkE h
        refine mv_bld (by decide) rfl (mv_inE hi2) dX8_pastBlanks_26 ?_
        refine mv_bipush 10 dX8_pastBlanks_27 (by decide) ?_
        refine mv_icmp_ne 38 dX8_pastBlanks_29 (by decide) (fun z => ?_) (fun z => ?_)
        · replace h := mv_ifF z h
          refine mv_iload_n 1 dX8_pastBlanks_38 rfl ?_
          exact mv_iret rfl dX8_pastBlanks_39 ⟨_, rfl, h⟩
        · replace h := mv_ifT z h
          refine mv_sub [0, 1] rfl ?_
          exact zX8_pastBlanks_32 hd x2 M h
noncomputable def fX8_pastBlanks (a0 : Int32) (M : mv_M) : Option (Int32 × mv_M) :=
  fX8_pastBlanks_2 a0 M
set_option maxRecDepth 100000 in
set_option maxHeartbeats 4000000 in
theorem zX8_pastBlanks {l : Launch} {d : Nat} {Q : Int32 → mv_M → Prop} (hd : 0 ≤ d) (a0 : Int32) (M : mv_M) (h : mv_ok (fX8_pastBlanks a0 M) Q) : mv l mX8_pastBlanks d 0 0 (lv_args 0 [.ref 2, .int a0]) [] M (mv_qI Q) := by
  unfold fX8_pastBlanks at h
  show mv l mX8_pastBlanks d 0 0 [(0, .ref 2), (1, .int a0)] [] M (mv_qI Q)
  refine mv_iload_n 1 dX8_pastBlanks_0 rfl ?_
  refine mv_istore_n [(2, .int a0), (0, .ref 2), (1, .int a0)] dX8_pastBlanks_1 (by decide) rfl ?_
  refine mv_sub [1, 0] rfl ?_
  exact zX8_pastBlanks_2 hd a0 M h
theorem dX8_isDigit_0 : decode cX8_isDigit 0 = .ok (.iload_n 1, 1) := by decide +kernel
theorem dX8_isDigit_1 : decode cX8_isDigit 1 = .ok (.aload_n 0, 1) := by decide +kernel
theorem dX8_isDigit_2 : decode cX8_isDigit 2 = .ok (.getfield 15, 3) := by decide +kernel
theorem dX8_isDigit_5 : decode cX8_isDigit 5 = .ok (.if_icmp .ge 29, 3) := by decide +kernel
theorem dX8_isDigit_8 : decode cX8_isDigit 8 = .ok (.aload_n 0, 1) := by decide +kernel
theorem dX8_isDigit_9 : decode cX8_isDigit 9 = .ok (.getfield 9, 3) := by decide +kernel
theorem dX8_isDigit_12 : decode cX8_isDigit 12 = .ok (.iload_n 1, 1) := by decide +kernel
theorem dX8_isDigit_13 : decode cX8_isDigit 13 = .ok (.baload, 1) := by decide +kernel
theorem dX8_isDigit_14 : decode cX8_isDigit 14 = .ok (.bipush 48, 2) := by decide +kernel
theorem dX8_isDigit_16 : decode cX8_isDigit 16 = .ok (.if_icmp .lt 18, 3) := by decide +kernel
theorem dX8_isDigit_19 : decode cX8_isDigit 19 = .ok (.aload_n 0, 1) := by decide +kernel
theorem dX8_isDigit_20 : decode cX8_isDigit 20 = .ok (.getfield 9, 3) := by decide +kernel
theorem dX8_isDigit_23 : decode cX8_isDigit 23 = .ok (.iload_n 1, 1) := by decide +kernel
theorem dX8_isDigit_24 : decode cX8_isDigit 24 = .ok (.baload, 1) := by decide +kernel
theorem dX8_isDigit_25 : decode cX8_isDigit 25 = .ok (.bipush 57, 2) := by decide +kernel
theorem dX8_isDigit_27 : decode cX8_isDigit 27 = .ok (.if_icmp .gt 7, 3) := by decide +kernel
theorem dX8_isDigit_30 : decode cX8_isDigit 30 = .ok (.iconst 1, 1) := by decide +kernel
theorem dX8_isDigit_31 : decode cX8_isDigit 31 = .ok (.goto 4, 3) := by decide +kernel
theorem dX8_isDigit_34 : decode cX8_isDigit 34 = .ok (.iconst 0, 1) := by decide +kernel
theorem dX8_isDigit_35 : decode cX8_isDigit 35 = .ok (.ireturn, 1) := by decide +kernel
noncomputable def fX8_isDigit (a0 : Int32) (M : mv_M) : Option (Int32 × mv_M) :=
  if (M.1 2 1) ≤ a0 then
    some (0, M)
  else
    mv_chk (mv_inb a0 4000) <|
    if (M.1 39 a0.toNatClampNeg) < 48 then
      some (0, M)
    else
      mv_chk (mv_inb a0 4000) <|
      if 57 < (M.1 39 a0.toNatClampNeg) then
        some (0, M)
      else
        some (1, M)
set_option maxRecDepth 100000 in
set_option maxHeartbeats 4000000 in
theorem zX8_isDigit {l : Launch} {d : Nat} {Q : Int32 → mv_M → Prop} (hd : 0 ≤ d) (a0 : Int32) (M : mv_M) (h : mv_ok (fX8_isDigit a0 M) Q) : mv l mX8_isDigit d 0 0 (lv_args 0 [.ref 2, .int a0]) [] M (mv_qI Q) := by
  unfold fX8_isDigit at h
  show mv l mX8_isDigit d 0 0 [(0, .ref 2), (1, .int a0)] [] M (mv_qI Q)
  refine mv_iload_n 1 dX8_isDigit_0 rfl ?_
  refine mv_aload_n 0 dX8_isDigit_1 rfl ?_
  refine mv_getI fX8_15 (by decide) rfl rfl dX8_isDigit_2 ?_
  refine mv_icmp_ge 34 dX8_isDigit_5 (by decide) (fun z => ?_) (fun z => ?_)
  · replace h := mv_ifT z h
    refine mv_iconst 0 dX8_isDigit_34 (by decide) ?_
    exact mv_zret (by decide) rfl dX8_isDigit_35 ⟨_, rfl, h⟩
  · replace h := mv_ifF z h
    refine mv_aload_n 0 dX8_isDigit_8 rfl ?_
    refine mv_getR 39 fX8_9 (by decide) rfl rfl rfl dX8_isDigit_9 ?_
    refine mv_iload_n 1 dX8_isDigit_12 rfl ?_
    obtain ⟨hi1, h⟩ := mv_chkE h
    refine mv_bld (by decide) rfl (mv_inE hi1) dX8_isDigit_13 ?_
    refine mv_bipush 48 dX8_isDigit_14 (by decide) ?_
    refine mv_icmp_lt 34 dX8_isDigit_16 (by decide) (fun z => ?_) (fun z => ?_)
    · replace h := mv_ifT z h
      refine mv_iconst 0 dX8_isDigit_34 (by decide) ?_
      exact mv_zret (by decide) rfl dX8_isDigit_35 ⟨_, rfl, h⟩
    · replace h := mv_ifF z h
      refine mv_aload_n 0 dX8_isDigit_19 rfl ?_
      refine mv_getR 39 fX8_9 (by decide) rfl rfl rfl dX8_isDigit_20 ?_
      refine mv_iload_n 1 dX8_isDigit_23 rfl ?_
      obtain ⟨hi2, h⟩ := mv_chkE h
      refine mv_bld (by decide) rfl (mv_inE hi2) dX8_isDigit_24 ?_
      refine mv_bipush 57 dX8_isDigit_25 (by decide) ?_
      refine mv_icmp_gt 34 dX8_isDigit_27 (by decide) (fun z => ?_) (fun z => ?_)
      · replace h := mv_ifT z h
        refine mv_iconst 0 dX8_isDigit_34 (by decide) ?_
        exact mv_zret (by decide) rfl dX8_isDigit_35 ⟨_, rfl, h⟩
      · replace h := mv_ifF z h
        refine mv_iconst 1 dX8_isDigit_30 (by decide) ?_
        refine mv_goto 35 dX8_isDigit_31 (by decide) ?_
        exact mv_zret (by decide) rfl dX8_isDigit_35 ⟨_, rfl, h⟩
theorem dX8_isOfRow_0 : decode cX8_isOfRow 0 = .ok (.aload_n 0, 1) := by decide +kernel
theorem dX8_isOfRow_1 : decode cX8_isOfRow 1 = .ok (.iload_n 1, 1) := by decide +kernel
theorem dX8_isOfRow_2 : decode cX8_isOfRow 2 = .ok (.invokevirtual 47, 3) := by decide +kernel
theorem dX8_isOfRow_5 : decode cX8_isOfRow 5 = .ok (.ifCond .ne 33, 3) := by decide +kernel
theorem dX8_isOfRow_8 : decode cX8_isOfRow 8 = .ok (.iload_n 1, 1) := by decide +kernel
theorem dX8_isOfRow_9 : decode cX8_isOfRow 9 = .ok (.aload_n 0, 1) := by decide +kernel
theorem dX8_isOfRow_10 : decode cX8_isOfRow 10 = .ok (.getfield 15, 3) := by decide +kernel
theorem dX8_isOfRow_13 : decode cX8_isOfRow 13 = .ok (.if_icmp .ge 29, 3) := by decide +kernel
theorem dX8_isOfRow_16 : decode cX8_isOfRow 16 = .ok (.aload_n 0, 1) := by decide +kernel
theorem dX8_isOfRow_17 : decode cX8_isOfRow 17 = .ok (.getfield 9, 3) := by decide +kernel
theorem dX8_isOfRow_20 : decode cX8_isOfRow 20 = .ok (.iload_n 1, 1) := by decide +kernel
theorem dX8_isOfRow_21 : decode cX8_isOfRow 21 = .ok (.baload, 1) := by decide +kernel
theorem dX8_isOfRow_22 : decode cX8_isOfRow 22 = .ok (.bipush 97, 2) := by decide +kernel
theorem dX8_isOfRow_24 : decode cX8_isOfRow 24 = .ok (.if_icmp .lt 18, 3) := by decide +kernel
theorem dX8_isOfRow_27 : decode cX8_isOfRow 27 = .ok (.aload_n 0, 1) := by decide +kernel
theorem dX8_isOfRow_28 : decode cX8_isOfRow 28 = .ok (.getfield 9, 3) := by decide +kernel
theorem dX8_isOfRow_31 : decode cX8_isOfRow 31 = .ok (.iload_n 1, 1) := by decide +kernel
theorem dX8_isOfRow_32 : decode cX8_isOfRow 32 = .ok (.baload, 1) := by decide +kernel
theorem dX8_isOfRow_33 : decode cX8_isOfRow 33 = .ok (.bipush 122, 2) := by decide +kernel
theorem dX8_isOfRow_35 : decode cX8_isOfRow 35 = .ok (.if_icmp .gt 7, 3) := by decide +kernel
theorem dX8_isOfRow_38 : decode cX8_isOfRow 38 = .ok (.iconst 1, 1) := by decide +kernel
theorem dX8_isOfRow_39 : decode cX8_isOfRow 39 = .ok (.goto 4, 3) := by decide +kernel
theorem dX8_isOfRow_42 : decode cX8_isOfRow 42 = .ok (.iconst 0, 1) := by decide +kernel
theorem dX8_isOfRow_43 : decode cX8_isOfRow 43 = .ok (.ireturn, 1) := by decide +kernel
noncomputable def fX8_isOfRow_38 (M : mv_M) : Option (Int32 × mv_M) :=
  some (1, M)
set_option maxRecDepth 100000 in
set_option maxHeartbeats 4000000 in
theorem zX8_isOfRow_38 {l : Launch} {d : Nat} {Q : Int32 → mv_M → Prop} (hd : 1 ≤ d) (M : mv_M) (h : mv_ok (fX8_isOfRow_38 M) Q) : mv l mX8_isOfRow d 0 38 [] [] M (mv_qI Q) := by
  unfold fX8_isOfRow_38 at h
  refine mv_iconst 1 dX8_isOfRow_38 (by decide) ?_
  refine mv_goto 43 dX8_isOfRow_39 (by decide) ?_
  exact mv_zret (by decide) rfl dX8_isOfRow_43 ⟨_, rfl, h⟩
noncomputable def fX8_isOfRow (a0 : Int32) (M : mv_M) : Option (Int32 × mv_M) :=
  mv_bind (fX8_isDigit a0 M) fun r1 M2 =>
  if r1 = 0 then
    if (M2.1 2 1) ≤ a0 then
      some (0, M2)
    else
      mv_chk (mv_inb a0 4000) <|
      if (M2.1 39 a0.toNatClampNeg) < 97 then
        some (0, M2)
      else
        mv_chk (mv_inb a0 4000) <|
        if 122 < (M2.1 39 a0.toNatClampNeg) then
          some (0, M2)
        else
          fX8_isOfRow_38 M2
  else
    fX8_isOfRow_38 M2
set_option maxRecDepth 100000 in
set_option maxHeartbeats 4000000 in
theorem zX8_isOfRow {l : Launch} {d : Nat} {Q : Int32 → mv_M → Prop} (hd : 1 ≤ d) (a0 : Int32) (M : mv_M) (h : mv_ok (fX8_isOfRow a0 M) Q) : mv l mX8_isOfRow d 0 0 (lv_args 0 [.ref 2, .int a0]) [] M (mv_qI Q) := by
  unfold fX8_isOfRow at h
  show mv l mX8_isOfRow d 0 0 [(0, .ref 2), (1, .int a0)] [] M (mv_qI Q)
  refine mv_aload_n 0 dX8_isOfRow_0 rfl ?_
  refine mv_iload_n 1 dX8_isOfRow_1 rfl ?_
  refine mv_cvI (As := [.int a0]) (st := []) okX8_isDigit lX8_47 (by decide) rfl rfl rfl (Nat.le_of_ble_eq_true rfl) rfl (Nat.le_of_ble_eq_true rfl) dX8_isOfRow_2 (by omega) rfl (zX8_isDigit (d := d - 1) (by omega) a0 M (mv_bindE h)) (fun r1 M2 h => ?_)
  refine mv_if_ne 38 dX8_isOfRow_5 (by decide) (fun z => ?_) (fun z => ?_)
  · replace h := mv_ifF z h
    refine mv_sub [] rfl ?_
    exact zX8_isOfRow_38 hd M2 h
  · replace h := mv_ifT z h
    refine mv_iload_n 1 dX8_isOfRow_8 rfl ?_
    refine mv_aload_n 0 dX8_isOfRow_9 rfl ?_
    refine mv_getI fX8_15 (by decide) rfl rfl dX8_isOfRow_10 ?_
    refine mv_icmp_ge 42 dX8_isOfRow_13 (by decide) (fun z => ?_) (fun z => ?_)
    · replace h := mv_ifT z h
      refine mv_iconst 0 dX8_isOfRow_42 (by decide) ?_
      exact mv_zret (by decide) rfl dX8_isOfRow_43 ⟨_, rfl, h⟩
    · replace h := mv_ifF z h
      refine mv_aload_n 0 dX8_isOfRow_16 rfl ?_
      refine mv_getR 39 fX8_9 (by decide) rfl rfl rfl dX8_isOfRow_17 ?_
      refine mv_iload_n 1 dX8_isOfRow_20 rfl ?_
      obtain ⟨hi3, h⟩ := mv_chkE h
      refine mv_bld (by decide) rfl (mv_inE hi3) dX8_isOfRow_21 ?_
      refine mv_bipush 97 dX8_isOfRow_22 (by decide) ?_
      refine mv_icmp_lt 42 dX8_isOfRow_24 (by decide) (fun z => ?_) (fun z => ?_)
      · replace h := mv_ifT z h
        refine mv_iconst 0 dX8_isOfRow_42 (by decide) ?_
        exact mv_zret (by decide) rfl dX8_isOfRow_43 ⟨_, rfl, h⟩
      · replace h := mv_ifF z h
        refine mv_aload_n 0 dX8_isOfRow_27 rfl ?_
        refine mv_getR 39 fX8_9 (by decide) rfl rfl rfl dX8_isOfRow_28 ?_
        refine mv_iload_n 1 dX8_isOfRow_31 rfl ?_
        obtain ⟨hi4, h⟩ := mv_chkE h
        refine mv_bld (by decide) rfl (mv_inE hi4) dX8_isOfRow_32 ?_
        refine mv_bipush 122 dX8_isOfRow_33 (by decide) ?_
        refine mv_icmp_gt 42 dX8_isOfRow_35 (by decide) (fun z => ?_) (fun z => ?_)
        · replace h := mv_ifT z h
          refine mv_iconst 0 dX8_isOfRow_42 (by decide) ?_
          exact mv_zret (by decide) rfl dX8_isOfRow_43 ⟨_, rfl, h⟩
        · replace h := mv_ifF z h
          refine mv_sub [] rfl ?_
          exact zX8_isOfRow_38 hd M2 h
theorem dX8_wordOrName_0 : decode cX8_wordOrName 0 = .ok (.iconst 0, 1) := by decide +kernel
theorem dX8_wordOrName_1 : decode cX8_wordOrName 1 = .ok (.istore_n 3, 1) := by decide +kernel
theorem dX8_wordOrName_2 : decode cX8_wordOrName 2 = .ok (.iload_n 3, 1) := by decide +kernel
theorem dX8_wordOrName_3 : decode cX8_wordOrName 3 = .ok (.getstatic 56, 3) := by decide +kernel
theorem dX8_wordOrName_6 : decode cX8_wordOrName 6 = .ok (.arraylength, 1) := by decide +kernel
theorem dX8_wordOrName_7 : decode cX8_wordOrName 7 = .ok (.if_icmp .ge 25, 3) := by decide +kernel
theorem dX8_wordOrName_10 : decode cX8_wordOrName 10 = .ok (.getstatic 56, 3) := by decide +kernel
theorem dX8_wordOrName_13 : decode cX8_wordOrName 13 = .ok (.iload_n 3, 1) := by decide +kernel
theorem dX8_wordOrName_14 : decode cX8_wordOrName 14 = .ok (.laload, 1) := by decide +kernel
theorem dX8_wordOrName_15 : decode cX8_wordOrName 15 = .ok (.lload_n 1, 1) := by decide +kernel
theorem dX8_wordOrName_16 : decode cX8_wordOrName 16 = .ok (.lcmp, 1) := by decide +kernel
theorem dX8_wordOrName_17 : decode cX8_wordOrName 17 = .ok (.ifCond .ne 9, 3) := by decide +kernel
theorem dX8_wordOrName_20 : decode cX8_wordOrName 20 = .ok (.sipush 300, 3) := by decide +kernel
theorem dX8_wordOrName_23 : decode cX8_wordOrName 23 = .ok (.iload_n 3, 1) := by decide +kernel
theorem dX8_wordOrName_24 : decode cX8_wordOrName 24 = .ok (.iadd, 1) := by decide +kernel
theorem dX8_wordOrName_25 : decode cX8_wordOrName 25 = .ok (.ireturn, 1) := by decide +kernel
theorem dX8_wordOrName_26 : decode cX8_wordOrName 26 = .ok (.iinc 3 1, 3) := by decide +kernel
theorem dX8_wordOrName_29 : decode cX8_wordOrName 29 = .ok (.goto (-27), 3) := by decide +kernel
theorem dX8_wordOrName_32 : decode cX8_wordOrName 32 = .ok (.iconst 2, 1) := by decide +kernel
theorem dX8_wordOrName_33 : decode cX8_wordOrName 33 = .ok (.ireturn, 1) := by decide +kernel
noncomputable def gX8_wordOrName_2 (x1 : Int64) (x3 : Int32) (M : mv_M) : Option (((Int64 × Int32) ⊕ Int32) × mv_M) :=
  if 9 ≤ x3 then
    some (.inr (2), M)
  else
    mv_chk (mv_inb x3 9) <|
    if (lg_cmp (mv_words x3.toNatClampNeg) x1) = 0 then
      some (.inr (300 + x3), M)
    else
      mv_let (x3 + 1) fun v2 =>
      some (.inl (x1, v2), M)
noncomputable def fX8_wordOrName_2 (x1 : Int64) (x3 : Int32) (M : mv_M) : Option (Int32 × mv_M) := mv_loop (fun (s : Int64 × Int32) M => gX8_wordOrName_2 s.1 s.2 M) (x1, x3) M
set_option maxRecDepth 100000 in
set_option maxHeartbeats 4000000 in
theorem zX8_wordOrName_2 {l : Launch} {d : Nat} {Q : Int32 → mv_M → Prop} (hd : 0 ≤ d) (x1 : Int64) (x3 : Int32) (M : mv_M) (h : mv_ok (fX8_wordOrName_2 x1 x3 M) Q) : mv l mX8_wordOrName d 0 2 [(1, .long x1), (3, .int x3)] [] M (mv_qI Q) := by
  unfold fX8_wordOrName_2 at h
  refine mv_loopE (A := (fun (s : Int64 × Int32) M => mv l mX8_wordOrName d 0 2 [(1, .long s.1), (3, .int s.2)] [] M (mv_qI Q))) ?_ (x1, x3) M h
  · rintro ⟨x1, x3⟩ M h
    try dsimp only at h
    show mv l mX8_wordOrName d 0 2 [(1, .long x1), (3, .int x3)] [] M (mv_qI Q)
    unfold gX8_wordOrName_2 at h
    refine mv_iload_n 1 dX8_wordOrName_2 rfl ?_
    refine mv_getW gX8_56 dX8_wordOrName_3 ?_
    refine mv_lenW dX8_wordOrName_6 ?_
    refine mv_icmp_ge 32 dX8_wordOrName_7 (by decide) (fun z => ?_) (fun z => ?_)
    · replace h := mv_ifT z h
      refine mv_iconst 2 dX8_wordOrName_32 (by decide) ?_
      exact mv_iret rfl dX8_wordOrName_33 ⟨_, rfl, h⟩
    · replace h := mv_ifF z h
      refine mv_getW gX8_56 dX8_wordOrName_10 ?_
      refine mv_iload_n 1 dX8_wordOrName_13 rfl ?_
      obtain ⟨hi1, h⟩ := mv_chkE h
      refine mv_ldW (mv_inE hi1) dX8_wordOrName_14 ?_
      refine mv_lload_n 0 dX8_wordOrName_15 rfl ?_
      refine mv_lcmp dX8_wordOrName_16 ?_
      refine mv_if_ne 26 dX8_wordOrName_17 (by decide) (fun z => ?_) (fun z => ?_)
      · replace h := mv_ifF z h
        obtain ⟨v2, ev2⟩ : ∃ z : Int32, z = x3 + 1 := ⟨_, rfl⟩
        replace h := mv_letE h v2 ev2
        refine mv_iinc v2 1 [(3, .int v2), (1, .long x1)] dX8_wordOrName_26 rfl (by rw [ev2]; rfl) (by decide) rfl ?_
        refine mv_goto 2 dX8_wordOrName_29 (by decide) ?_
        refine mv_sub [1, 0] rfl ?_
        exact h
      · replace h := mv_ifT z h
        refine mv_sipush 300 dX8_wordOrName_20 (by decide) ?_
        refine mv_iload_n 1 dX8_wordOrName_23 rfl ?_
        refine mv_iadd dX8_wordOrName_24 ?_
        exact mv_iret rfl dX8_wordOrName_25 ⟨_, rfl, h⟩
noncomputable def fX8_wordOrName (a0 : Int64) (M : mv_M) : Option (Int32 × mv_M) :=
  fX8_wordOrName_2 a0 0 M
set_option maxRecDepth 100000 in
set_option maxHeartbeats 4000000 in
theorem zX8_wordOrName {l : Launch} {d : Nat} {Q : Int32 → mv_M → Prop} (hd : 0 ≤ d) (a0 : Int64) (M : mv_M) (h : mv_ok (fX8_wordOrName a0 M) Q) : mv l mX8_wordOrName d 0 0 (lv_args 0 [.ref 2, .long a0]) [] M (mv_qI Q) := by
  unfold fX8_wordOrName at h
  show mv l mX8_wordOrName d 0 0 [(0, .ref 2), (1, .long a0)] [] M (mv_qI Q)
  refine mv_iconst 0 dX8_wordOrName_0 (by decide) ?_
  refine mv_istore_n [(3, .int 0), (0, .ref 2), (1, .long a0)] dX8_wordOrName_1 (by decide) rfl ?_
  refine mv_sub [2, 0] rfl ?_
  exact zX8_wordOrName_2 hd a0 0 M h
theorem dX8_scanRow_0 : decode cX8_scanRow 0 = .ok (.iload_n 1, 1) := by decide +kernel
theorem dX8_scanRow_1 : decode cX8_scanRow 1 = .ok (.istore_n 2, 1) := by decide +kernel
theorem dX8_scanRow_2 : decode cX8_scanRow 2 = .ok (.iconst 0, 1) := by decide +kernel
theorem dX8_scanRow_3 : decode cX8_scanRow 3 = .ok (.istore_n 3, 1) := by decide +kernel
theorem dX8_scanRow_4 : decode cX8_scanRow 4 = .ok (.lconst 0, 1) := by decide +kernel
theorem dX8_scanRow_5 : decode cX8_scanRow 5 = .ok (.lstore 4, 2) := by decide +kernel
theorem dX8_scanRow_7 : decode cX8_scanRow 7 = .ok (.lconst 0, 1) := by decide +kernel
theorem dX8_scanRow_8 : decode cX8_scanRow 8 = .ok (.lstore 6, 2) := by decide +kernel
theorem dX8_scanRow_10 : decode cX8_scanRow 10 = .ok (.iload_n 2, 1) := by decide +kernel
theorem dX8_scanRow_11 : decode cX8_scanRow 11 = .ok (.aload_n 0, 1) := by decide +kernel
theorem dX8_scanRow_12 : decode cX8_scanRow 12 = .ok (.getfield 15, 3) := by decide +kernel
theorem dX8_scanRow_15 : decode cX8_scanRow 15 = .ok (.if_icmp .ge 62, 3) := by decide +kernel
theorem dX8_scanRow_18 : decode cX8_scanRow 18 = .ok (.aload_n 0, 1) := by decide +kernel
theorem dX8_scanRow_19 : decode cX8_scanRow 19 = .ok (.iload_n 2, 1) := by decide +kernel
theorem dX8_scanRow_20 : decode cX8_scanRow 20 = .ok (.invokevirtual 37, 3) := by decide +kernel
theorem dX8_scanRow_23 : decode cX8_scanRow 23 = .ok (.ifCond .eq 54, 3) := by decide +kernel
theorem dX8_scanRow_26 : decode cX8_scanRow 26 = .ok (.aload_n 0, 1) := by decide +kernel
theorem dX8_scanRow_27 : decode cX8_scanRow 27 = .ok (.iload_n 2, 1) := by decide +kernel
theorem dX8_scanRow_28 : decode cX8_scanRow 28 = .ok (.invokevirtual 47, 3) := by decide +kernel
theorem dX8_scanRow_31 : decode cX8_scanRow 31 = .ok (.ifCond .eq 6, 3) := by decide +kernel
theorem dX8_scanRow_34 : decode cX8_scanRow 34 = .ok (.iinc 3 1, 3) := by decide +kernel
theorem dX8_scanRow_37 : decode cX8_scanRow 37 = .ok (.lload 4, 2) := by decide +kernel
theorem dX8_scanRow_39 : decode cX8_scanRow 39 = .ok (.bipush 8, 2) := by decide +kernel
theorem dX8_scanRow_41 : decode cX8_scanRow 41 = .ok (.lshl, 1) := by decide +kernel
theorem dX8_scanRow_42 : decode cX8_scanRow 42 = .ok (.aload_n 0, 1) := by decide +kernel
theorem dX8_scanRow_43 : decode cX8_scanRow 43 = .ok (.getfield 9, 3) := by decide +kernel
theorem dX8_scanRow_46 : decode cX8_scanRow 46 = .ok (.iload_n 2, 1) := by decide +kernel
theorem dX8_scanRow_47 : decode cX8_scanRow 47 = .ok (.baload, 1) := by decide +kernel
theorem dX8_scanRow_48 : decode cX8_scanRow 48 = .ok (.i2l, 1) := by decide +kernel
theorem dX8_scanRow_49 : decode cX8_scanRow 49 = .ok (.lor, 1) := by decide +kernel
theorem dX8_scanRow_50 : decode cX8_scanRow 50 = .ok (.lstore 4, 2) := by decide +kernel
theorem dX8_scanRow_52 : decode cX8_scanRow 52 = .ok (.lload 6, 2) := by decide +kernel
theorem dX8_scanRow_54 : decode cX8_scanRow 54 = .ok (.ldc2_w 50, 3) := by decide +kernel
theorem dX8_scanRow_57 : decode cX8_scanRow 57 = .ok (.lmul, 1) := by decide +kernel
theorem dX8_scanRow_58 : decode cX8_scanRow 58 = .ok (.aload_n 0, 1) := by decide +kernel
theorem dX8_scanRow_59 : decode cX8_scanRow 59 = .ok (.getfield 9, 3) := by decide +kernel
theorem dX8_scanRow_62 : decode cX8_scanRow 62 = .ok (.iload_n 2, 1) := by decide +kernel
theorem dX8_scanRow_63 : decode cX8_scanRow 63 = .ok (.baload, 1) := by decide +kernel
theorem dX8_scanRow_64 : decode cX8_scanRow 64 = .ok (.bipush 48, 2) := by decide +kernel
theorem dX8_scanRow_66 : decode cX8_scanRow 66 = .ok (.isub, 1) := by decide +kernel
theorem dX8_scanRow_67 : decode cX8_scanRow 67 = .ok (.i2l, 1) := by decide +kernel
theorem dX8_scanRow_68 : decode cX8_scanRow 68 = .ok (.ladd, 1) := by decide +kernel
theorem dX8_scanRow_69 : decode cX8_scanRow 69 = .ok (.lstore 6, 2) := by decide +kernel
theorem dX8_scanRow_71 : decode cX8_scanRow 71 = .ok (.iinc 2 1, 3) := by decide +kernel
theorem dX8_scanRow_74 : decode cX8_scanRow 74 = .ok (.goto (-64), 3) := by decide +kernel
theorem dX8_scanRow_77 : decode cX8_scanRow 77 = .ok (.iload_n 2, 1) := by decide +kernel
theorem dX8_scanRow_78 : decode cX8_scanRow 78 = .ok (.iload_n 1, 1) := by decide +kernel
theorem dX8_scanRow_79 : decode cX8_scanRow 79 = .ok (.isub, 1) := by decide +kernel
theorem dX8_scanRow_80 : decode cX8_scanRow 80 = .ok (.istore 8, 2) := by decide +kernel
theorem dX8_scanRow_82 : decode cX8_scanRow 82 = .ok (.aload_n 0, 1) := by decide +kernel
theorem dX8_scanRow_83 : decode cX8_scanRow 83 = .ok (.iload_n 1, 1) := by decide +kernel
theorem dX8_scanRow_84 : decode cX8_scanRow 84 = .ok (.invokevirtual 47, 3) := by decide +kernel
theorem dX8_scanRow_87 : decode cX8_scanRow 87 = .ok (.ifCond .eq 44, 3) := by decide +kernel
theorem dX8_scanRow_90 : decode cX8_scanRow 90 = .ok (.aload_n 0, 1) := by decide +kernel
theorem dX8_scanRow_91 : decode cX8_scanRow 91 = .ok (.getfield 22, 3) := by decide +kernel
theorem dX8_scanRow_94 : decode cX8_scanRow 94 = .ok (.aload_n 0, 1) := by decide +kernel
theorem dX8_scanRow_95 : decode cX8_scanRow 95 = .ok (.getfield 19, 3) := by decide +kernel
theorem dX8_scanRow_98 : decode cX8_scanRow 98 = .ok (.iload_n 3, 1) := by decide +kernel
theorem dX8_scanRow_99 : decode cX8_scanRow 99 = .ok (.iload 8, 2) := by decide +kernel
theorem dX8_scanRow_101 : decode cX8_scanRow 101 = .ok (.if_icmp .ne 14, 3) := by decide +kernel
theorem dX8_scanRow_104 : decode cX8_scanRow 104 = .ok (.iload 8, 2) := by decide +kernel
theorem dX8_scanRow_106 : decode cX8_scanRow 106 = .ok (.bipush 9, 2) := by decide +kernel
theorem dX8_scanRow_108 : decode cX8_scanRow 108 = .ok (.if_icmp .gt 7, 3) := by decide +kernel
theorem dX8_scanRow_111 : decode cX8_scanRow 111 = .ok (.iconst 3, 1) := by decide +kernel
theorem dX8_scanRow_112 : decode cX8_scanRow 112 = .ok (.goto 4, 3) := by decide +kernel
theorem dX8_scanRow_115 : decode cX8_scanRow 115 = .ok (.iconst 1, 1) := by decide +kernel
theorem dX8_scanRow_116 : decode cX8_scanRow 116 = .ok (.iastore, 1) := by decide +kernel
theorem dX8_scanRow_117 : decode cX8_scanRow 117 = .ok (.aload_n 0, 1) := by decide +kernel
theorem dX8_scanRow_118 : decode cX8_scanRow 118 = .ok (.getfield 29, 3) := by decide +kernel
theorem dX8_scanRow_121 : decode cX8_scanRow 121 = .ok (.aload_n 0, 1) := by decide +kernel
theorem dX8_scanRow_122 : decode cX8_scanRow 122 = .ok (.getfield 19, 3) := by decide +kernel
theorem dX8_scanRow_125 : decode cX8_scanRow 125 = .ok (.lload 6, 2) := by decide +kernel
theorem dX8_scanRow_127 : decode cX8_scanRow 127 = .ok (.lastore, 1) := by decide +kernel
theorem dX8_scanRow_128 : decode cX8_scanRow 128 = .ok (.goto 40, 3) := by decide +kernel
theorem dX8_scanRow_131 : decode cX8_scanRow 131 = .ok (.aload_n 0, 1) := by decide +kernel
theorem dX8_scanRow_132 : decode cX8_scanRow 132 = .ok (.getfield 22, 3) := by decide +kernel
theorem dX8_scanRow_135 : decode cX8_scanRow 135 = .ok (.aload_n 0, 1) := by decide +kernel
theorem dX8_scanRow_136 : decode cX8_scanRow 136 = .ok (.getfield 19, 3) := by decide +kernel
theorem dX8_scanRow_139 : decode cX8_scanRow 139 = .ok (.iload 8, 2) := by decide +kernel
theorem dX8_scanRow_141 : decode cX8_scanRow 141 = .ok (.bipush 8, 2) := by decide +kernel
theorem dX8_scanRow_143 : decode cX8_scanRow 143 = .ok (.if_icmp .gt 12, 3) := by decide +kernel
theorem dX8_scanRow_146 : decode cX8_scanRow 146 = .ok (.aload_n 0, 1) := by decide +kernel
theorem dX8_scanRow_147 : decode cX8_scanRow 147 = .ok (.lload 4, 2) := by decide +kernel
theorem dX8_scanRow_149 : decode cX8_scanRow 149 = .ok (.invokevirtual 52, 3) := by decide +kernel
theorem dX8_scanRow_152 : decode cX8_scanRow 152 = .ok (.goto 4, 3) := by decide +kernel
theorem dX8_scanRow_155 : decode cX8_scanRow 155 = .ok (.iconst 1, 1) := by decide +kernel
theorem dX8_scanRow_156 : decode cX8_scanRow 156 = .ok (.iastore, 1) := by decide +kernel
theorem dX8_scanRow_157 : decode cX8_scanRow 157 = .ok (.aload_n 0, 1) := by decide +kernel
theorem dX8_scanRow_158 : decode cX8_scanRow 158 = .ok (.getfield 29, 3) := by decide +kernel
theorem dX8_scanRow_161 : decode cX8_scanRow 161 = .ok (.aload_n 0, 1) := by decide +kernel
theorem dX8_scanRow_162 : decode cX8_scanRow 162 = .ok (.getfield 19, 3) := by decide +kernel
theorem dX8_scanRow_165 : decode cX8_scanRow 165 = .ok (.lload 4, 2) := by decide +kernel
theorem dX8_scanRow_167 : decode cX8_scanRow 167 = .ok (.lastore, 1) := by decide +kernel
theorem dX8_scanRow_168 : decode cX8_scanRow 168 = .ok (.iload_n 2, 1) := by decide +kernel
theorem dX8_scanRow_169 : decode cX8_scanRow 169 = .ok (.ireturn, 1) := by decide +kernel
noncomputable def fX8_scanRow_37 (x1 : Int32) (x2 : Int32) (x3 : Int32) (x4 : Int64) (x6 : Int64) (M : mv_M) : Option (((Int32 × Int32 × Int32 × Int64 × Int64) ⊕ Int32) × mv_M) :=
  mv_chk (mv_inb x2 4000) <|
  mv_let ((x4 <<< ((8 : Int32).toInt64 &&& 63)) ||| ((M.1 39 x2.toNatClampNeg).toInt64)) fun v12 =>
  mv_chk (mv_inb x2 4000) <|
  mv_let ((x6 * 10) + (((M.1 39 x2.toNatClampNeg) - 48).toInt64)) fun v14 =>
  mv_let (x2 + 1) fun v15 =>
  some (.inl (x1, v15, x3, v12, v14), M)
set_option maxRecDepth 100000 in
set_option maxHeartbeats 4000000 in
theorem zX8_scanRow_37 {l : Launch} {d : Nat} {Q : Int32 → mv_M → Prop} (hd : 2 ≤ d) (x1 : Int32) (x2 : Int32) (x3 : Int32) (x4 : Int64) (x6 : Int64) (M : mv_M) (h : mv_ok (fX8_scanRow_37 x1 x2 x3 x4 x6 M) (mv_pq (fun (s : Int32 × Int32 × Int32 × Int64 × Int64) M => mv l mX8_scanRow d 0 10 [(0, .ref 2), (1, .int s.1), (2, .int s.2.1), (3, .int s.2.2.1), (4, .long s.2.2.2.1), (6, .long s.2.2.2.2)] [] M (mv_qI Q)) Q)) : mv l mX8_scanRow d 0 37 [(0, .ref 2), (1, .int x1), (2, .int x2), (3, .int x3), (4, .long x4), (6, .long x6)] [] M (mv_qI Q) := by
  unfold fX8_scanRow_37 at h
  refine mv_lload 4 dX8_scanRow_37 rfl ?_
  refine mv_bipush 8 dX8_scanRow_39 (by decide) ?_
  refine mv_lshl dX8_scanRow_41 ?_
  refine mv_aload_n 0 dX8_scanRow_42 rfl ?_
  refine mv_getR 39 fX8_9 (by decide) rfl rfl rfl dX8_scanRow_43 ?_
  refine mv_iload_n 2 dX8_scanRow_46 rfl ?_
  obtain ⟨hi11, h⟩ := mv_chkE h
  refine mv_bld (by decide) rfl (mv_inE hi11) dX8_scanRow_47 ?_
  refine mv_i2l dX8_scanRow_48 ?_
  refine mv_lor dX8_scanRow_49 ?_
  refine mv_topl (fun v12 ev12 => ?_)
  replace h := mv_letE h v12 ev12
  refine mv_lstore [(4, .long v12), (0, .ref 2), (1, .int x1), (2, .int x2), (3, .int x3), (6, .long x6)] dX8_scanRow_50 (by decide) rfl ?_
  refine mv_lload 5 dX8_scanRow_52 rfl ?_
  refine mv_ldc2 kX8_50 dX8_scanRow_54 ?_
  refine mv_lmul dX8_scanRow_57 ?_
  refine mv_aload_n 1 dX8_scanRow_58 rfl ?_
  refine mv_getR 39 fX8_9 (by decide) rfl rfl rfl dX8_scanRow_59 ?_
  refine mv_iload_n 3 dX8_scanRow_62 rfl ?_
  obtain ⟨hi13, h⟩ := mv_chkE h
  refine mv_bld (by decide) rfl (mv_inE hi13) dX8_scanRow_63 ?_
  refine mv_bipush 48 dX8_scanRow_64 (by decide) ?_
  refine mv_isub dX8_scanRow_66 ?_
  refine mv_i2l dX8_scanRow_67 ?_
  refine mv_ladd dX8_scanRow_68 ?_
  refine mv_topl (fun v14 ev14 => ?_)
  replace h := mv_letE h v14 ev14
  refine mv_lstore [(6, .long v14), (4, .long v12), (0, .ref 2), (1, .int x1), (2, .int x2), (3, .int x3)] dX8_scanRow_69 (by decide) rfl ?_
  obtain ⟨v15, ev15⟩ : ∃ z : Int32, z = x2 + 1 := ⟨_, rfl⟩
  replace h := mv_letE h v15 ev15
  refine mv_iinc v15 4 [(2, .int v15), (6, .long v14), (4, .long v12), (0, .ref 2), (1, .int x1), (3, .int x3)] dX8_scanRow_71 rfl (by rw [ev15]; rfl) (by decide) rfl ?_
  refine mv_goto 10 dX8_scanRow_74 (by decide) ?_
  refine mv_sub [3, 4, 0, 5, 2, 1] rfl ?_
  exact h
noncomputable def fX8_scanRow_116 (x2 : Int32) (x6 : Int64) (s0 : Int32) (s1 : Int32) (M : mv_M) : Option (Int32 × mv_M) :=
  mv_chk (mv_inb s1 1002) <|
  mv_let (mv_si M 40 s1.toNatClampNeg s0) fun M21 =>
  mv_chk (mv_inb (M21.1 2 2) 1002) <|
  mv_let (mv_sl M21 42 (M21.1 2 2).toNatClampNeg x6) fun M23 =>
  some (x2, M23)
set_option maxRecDepth 100000 in
set_option maxHeartbeats 4000000 in
theorem zX8_scanRow_116 {l : Launch} {d : Nat} {Q : Int32 → mv_M → Prop} (hd : 2 ≤ d) (x2 : Int32) (x6 : Int64) (s0 : Int32) (s1 : Int32) (M : mv_M) (h : mv_ok (fX8_scanRow_116 x2 x6 s0 s1 M) Q) : mv l mX8_scanRow d 0 116 [(0, .ref 2), (2, .int x2), (6, .long x6)] [.int s0, .int s1, .ref 40] M (mv_qI Q) := by
  unfold fX8_scanRow_116 at h
  obtain ⟨hi20, h⟩ := mv_chkE h
  refine mv_ist (by decide) rfl (mv_inE hi20) dX8_scanRow_116 (fun M21 eM21 => ?_)
  replace h := mv_letE h M21 eM21
  refine mv_aload_n 0 dX8_scanRow_117 rfl ?_
  refine mv_getR 42 fX8_29 (by decide) rfl rfl rfl dX8_scanRow_118 ?_
  refine mv_aload_n 0 dX8_scanRow_121 rfl ?_
  refine mv_getI fX8_19 (by decide) rfl rfl dX8_scanRow_122 ?_
  refine mv_lload 2 dX8_scanRow_125 rfl ?_
  obtain ⟨hi22, h⟩ := mv_chkE h
  refine mv_lst (by decide) rfl (mv_inE hi22) dX8_scanRow_127 (fun M23 eM23 => ?_)
  replace h := mv_letE h M23 eM23
  refine mv_goto 168 dX8_scanRow_128 (by decide) ?_
  refine mv_iload_n 1 dX8_scanRow_168 rfl ?_
  exact mv_iret rfl dX8_scanRow_169 ⟨_, rfl, h⟩
noncomputable def fX8_scanRow_115 (x2 : Int32) (x6 : Int64) (s0 : Int32) (M : mv_M) : Option (Int32 × mv_M) :=
  fX8_scanRow_116 x2 x6 1 s0 M
set_option maxRecDepth 100000 in
set_option maxHeartbeats 4000000 in
theorem zX8_scanRow_115 {l : Launch} {d : Nat} {Q : Int32 → mv_M → Prop} (hd : 2 ≤ d) (x2 : Int32) (x6 : Int64) (s0 : Int32) (M : mv_M) (h : mv_ok (fX8_scanRow_115 x2 x6 s0 M) Q) : mv l mX8_scanRow d 0 115 [(0, .ref 2), (2, .int x2), (6, .long x6)] [.int s0, .ref 40] M (mv_qI Q) := by
  unfold fX8_scanRow_115 at h
  refine mv_iconst 1 dX8_scanRow_115 (by decide) ?_
  refine mv_sub [0, 1, 2] rfl ?_
  exact zX8_scanRow_116 hd x2 x6 1 s0 M h
noncomputable def fX8_scanRow_156 (x2 : Int32) (x4 : Int64) (s0 : Int32) (s1 : Int32) (M : mv_M) : Option (Int32 × mv_M) :=
  mv_chk (mv_inb s1 1002) <|
  mv_let (mv_si M 40 s1.toNatClampNeg s0) fun M17 =>
  mv_chk (mv_inb (M17.1 2 2) 1002) <|
  mv_let (mv_sl M17 42 (M17.1 2 2).toNatClampNeg x4) fun M19 =>
  some (x2, M19)
set_option maxRecDepth 100000 in
set_option maxHeartbeats 4000000 in
theorem zX8_scanRow_156 {l : Launch} {d : Nat} {Q : Int32 → mv_M → Prop} (hd : 2 ≤ d) (x2 : Int32) (x4 : Int64) (s0 : Int32) (s1 : Int32) (M : mv_M) (h : mv_ok (fX8_scanRow_156 x2 x4 s0 s1 M) Q) : mv l mX8_scanRow d 0 156 [(0, .ref 2), (2, .int x2), (4, .long x4)] [.int s0, .int s1, .ref 40] M (mv_qI Q) := by
  unfold fX8_scanRow_156 at h
  obtain ⟨hi16, h⟩ := mv_chkE h
  refine mv_ist (by decide) rfl (mv_inE hi16) dX8_scanRow_156 (fun M17 eM17 => ?_)
  replace h := mv_letE h M17 eM17
  refine mv_aload_n 0 dX8_scanRow_157 rfl ?_
  refine mv_getR 42 fX8_29 (by decide) rfl rfl rfl dX8_scanRow_158 ?_
  refine mv_aload_n 0 dX8_scanRow_161 rfl ?_
  refine mv_getI fX8_19 (by decide) rfl rfl dX8_scanRow_162 ?_
  refine mv_lload 2 dX8_scanRow_165 rfl ?_
  obtain ⟨hi18, h⟩ := mv_chkE h
  refine mv_lst (by decide) rfl (mv_inE hi18) dX8_scanRow_167 (fun M19 eM19 => ?_)
  replace h := mv_letE h M19 eM19
  refine mv_iload_n 1 dX8_scanRow_168 rfl ?_
  exact mv_iret rfl dX8_scanRow_169 ⟨_, rfl, h⟩
noncomputable def fX8_scanRow_77 (x1 : Int32) (x2 : Int32) (x3 : Int32) (x4 : Int64) (x6 : Int64) (M : mv_M) : Option (Int32 × mv_M) :=
  mv_let (x2 - x1) fun v6 =>
  mv_bind (fX8_isDigit x1 M) fun r7 M8 =>
  if r7 = 0 then
    if 8 < v6 then
      fX8_scanRow_156 x2 x4 1 (M8.1 2 2) M8
    else
      mv_bind (fX8_wordOrName x4 M8) fun r9 M10 =>
      fX8_scanRow_156 x2 x4 r9 (M8.1 2 2) M10
  else
    if x3 = v6 then
      if 9 < v6 then
        fX8_scanRow_115 x2 x6 (M8.1 2 2) M8
      else
        fX8_scanRow_116 x2 x6 3 (M8.1 2 2) M8
    else
      fX8_scanRow_115 x2 x6 (M8.1 2 2) M8
set_option maxRecDepth 100000 in
set_option maxHeartbeats 4000000 in
theorem zX8_scanRow_77 {l : Launch} {d : Nat} {Q : Int32 → mv_M → Prop} (hd : 2 ≤ d) (x1 : Int32) (x2 : Int32) (x3 : Int32) (x4 : Int64) (x6 : Int64) (M : mv_M) (h : mv_ok (fX8_scanRow_77 x1 x2 x3 x4 x6 M) Q) : mv l mX8_scanRow d 0 77 [(0, .ref 2), (1, .int x1), (2, .int x2), (3, .int x3), (4, .long x4), (6, .long x6)] [] M (mv_qI Q) := by
  unfold fX8_scanRow_77 at h
  refine mv_iload_n 2 dX8_scanRow_77 rfl ?_
  refine mv_iload_n 1 dX8_scanRow_78 rfl ?_
  refine mv_isub dX8_scanRow_79 ?_
  refine mv_topi (fun v6 ev6 => ?_)
  replace h := mv_letE h v6 ev6
  refine mv_istore [(8, .int v6), (0, .ref 2), (1, .int x1), (2, .int x2), (3, .int x3), (4, .long x4), (6, .long x6)] dX8_scanRow_80 (by decide) rfl ?_
  refine mv_aload_n 1 dX8_scanRow_82 rfl ?_
  refine mv_iload_n 2 dX8_scanRow_83 rfl ?_
  refine mv_cvI (As := [.int x1]) (st := []) okX8_isDigit lX8_47 (by decide) rfl rfl rfl (Nat.le_of_ble_eq_true rfl) rfl (Nat.le_of_ble_eq_true rfl) dX8_scanRow_84 (by omega) rfl (zX8_isDigit (d := d - 1) (by omega) x1 M (mv_bindE h)) (fun r7 M8 h => ?_)
  refine mv_if_eq 131 dX8_scanRow_87 (by decide) (fun z => ?_) (fun z => ?_)
  · replace h := mv_ifT z h
    refine mv_aload_n 1 dX8_scanRow_131 rfl ?_
    refine mv_getR 40 fX8_22 (by decide) rfl rfl rfl dX8_scanRow_132 ?_
    refine mv_aload_n 1 dX8_scanRow_135 rfl ?_
    refine mv_getI fX8_19 (by decide) rfl rfl dX8_scanRow_136 ?_
    refine mv_iload 0 dX8_scanRow_139 rfl ?_
    refine mv_bipush 8 dX8_scanRow_141 (by decide) ?_
    refine mv_icmp_gt 155 dX8_scanRow_143 (by decide) (fun z => ?_) (fun z => ?_)
    · replace h := mv_ifT z h
      refine mv_iconst 1 dX8_scanRow_155 (by decide) ?_
      refine mv_sub [1, 3, 5] rfl ?_
      exact zX8_scanRow_156 hd x2 x4 1 (M8.1 2 2) M8 h
    · replace h := mv_ifF z h
      refine mv_aload_n 1 dX8_scanRow_146 rfl ?_
      refine mv_lload 5 dX8_scanRow_147 rfl ?_
      refine mv_cvI (As := [.long x4]) (st := [.int (M8.1 2 2), .ref 40]) okX8_wordOrName lX8_52 (by decide) rfl rfl rfl (Nat.le_of_ble_eq_true rfl) rfl (Nat.le_of_ble_eq_true rfl) dX8_scanRow_149 (by omega) rfl (zX8_wordOrName (d := d - 1) (by omega) x4 M8 (mv_bindE h)) (fun r9 M10 h => ?_)
      refine mv_goto 156 dX8_scanRow_152 (by decide) ?_
      refine mv_sub [1, 3, 5] rfl ?_
      exact zX8_scanRow_156 hd x2 x4 r9 (M8.1 2 2) M10 h
  · replace h := mv_ifF z h
    refine mv_aload_n 1 dX8_scanRow_90 rfl ?_
    refine mv_getR 40 fX8_22 (by decide) rfl rfl rfl dX8_scanRow_91 ?_
    refine mv_aload_n 1 dX8_scanRow_94 rfl ?_
    refine mv_getI fX8_19 (by decide) rfl rfl dX8_scanRow_95 ?_
    refine mv_iload_n 4 dX8_scanRow_98 rfl ?_
    refine mv_iload 0 dX8_scanRow_99 rfl ?_
    refine mv_icmp_ne 115 dX8_scanRow_101 (by decide) (fun z => ?_) (fun z => ?_)
    · replace h := mv_ifF z h
      refine mv_sub [1, 3, 6] rfl ?_
      exact zX8_scanRow_115 hd x2 x6 (M8.1 2 2) M8 h
    · replace h := mv_ifT z h
      refine mv_iload 0 dX8_scanRow_104 rfl ?_
      refine mv_bipush 9 dX8_scanRow_106 (by decide) ?_
      refine mv_icmp_gt 115 dX8_scanRow_108 (by decide) (fun z => ?_) (fun z => ?_)
      · replace h := mv_ifT z h
        refine mv_sub [1, 3, 6] rfl ?_
        exact zX8_scanRow_115 hd x2 x6 (M8.1 2 2) M8 h
      · replace h := mv_ifF z h
        refine mv_iconst 3 dX8_scanRow_111 (by decide) ?_
        refine mv_goto 116 dX8_scanRow_112 (by decide) ?_
        refine mv_sub [1, 3, 6] rfl ?_
        exact zX8_scanRow_116 hd x2 x6 3 (M8.1 2 2) M8 h
noncomputable def gX8_scanRow_10 (x1 : Int32) (x2 : Int32) (x3 : Int32) (x4 : Int64) (x6 : Int64) (M : mv_M) : Option (((Int32 × Int32 × Int32 × Int64 × Int64) ⊕ Int32) × mv_M) :=
  if (M.1 2 1) ≤ x2 then
    mv_inr (fX8_scanRow_77 x1 x2 x3 x4 x6 M)
  else
    mv_bind (fX8_isOfRow x2 M) fun r1 M2 =>
    if r1 = 0 then
      mv_inr (fX8_scanRow_77 x1 x2 x3 x4 x6 M2)
    else
      mv_bind (fX8_isDigit x2 M2) fun r3 M4 =>
      if r3 = 0 then
        fX8_scanRow_37 x1 x2 x3 x4 x6 M4
      else
        mv_let (x3 + 1) fun v5 =>
        fX8_scanRow_37 x1 x2 v5 x4 x6 M4
noncomputable def fX8_scanRow_10 (x1 : Int32) (x2 : Int32) (x3 : Int32) (x4 : Int64) (x6 : Int64) (M : mv_M) : Option (Int32 × mv_M) := mv_loop (fun (s : Int32 × Int32 × Int32 × Int64 × Int64) M => gX8_scanRow_10 s.1 s.2.1 s.2.2.1 s.2.2.2.1 s.2.2.2.2 M) (x1, x2, x3, x4, x6) M
set_option maxRecDepth 100000 in
set_option maxHeartbeats 4000000 in
theorem zX8_scanRow_10 {l : Launch} {d : Nat} {Q : Int32 → mv_M → Prop} (hd : 2 ≤ d) (x1 : Int32) (x2 : Int32) (x3 : Int32) (x4 : Int64) (x6 : Int64) (M : mv_M) (h : mv_ok (fX8_scanRow_10 x1 x2 x3 x4 x6 M) Q) : mv l mX8_scanRow d 0 10 [(0, .ref 2), (1, .int x1), (2, .int x2), (3, .int x3), (4, .long x4), (6, .long x6)] [] M (mv_qI Q) := by
  unfold fX8_scanRow_10 at h
  refine mv_loopE (A := (fun (s : Int32 × Int32 × Int32 × Int64 × Int64) M => mv l mX8_scanRow d 0 10 [(0, .ref 2), (1, .int s.1), (2, .int s.2.1), (3, .int s.2.2.1), (4, .long s.2.2.2.1), (6, .long s.2.2.2.2)] [] M (mv_qI Q))) ?_ (x1, x2, x3, x4, x6) M h
  · rintro ⟨x1, x2, x3, x4, x6⟩ M h
    try dsimp only at h
    show mv l mX8_scanRow d 0 10 [(0, .ref 2), (1, .int x1), (2, .int x2), (3, .int x3), (4, .long x4), (6, .long x6)] [] M (mv_qI Q)
    unfold gX8_scanRow_10 at h
    refine mv_iload_n 2 dX8_scanRow_10 rfl ?_
    refine mv_aload_n 0 dX8_scanRow_11 rfl ?_
    refine mv_getI fX8_15 (by decide) rfl rfl dX8_scanRow_12 ?_
    refine mv_icmp_ge 77 dX8_scanRow_15 (by decide) (fun z => ?_) (fun z => ?_)
    · replace h := mv_ifT z h
      refine mv_sub [0, 1, 2, 3, 4, 5] rfl ?_
      exact zX8_scanRow_77 hd x1 x2 x3 x4 x6 M (mv_inrE h)
    · replace h := mv_ifF z h
      refine mv_aload_n 0 dX8_scanRow_18 rfl ?_
      refine mv_iload_n 2 dX8_scanRow_19 rfl ?_
      refine mv_cvI (As := [.int x2]) (st := []) okX8_isOfRow lX8_37 (by decide) rfl rfl rfl (Nat.le_of_ble_eq_true rfl) rfl (Nat.le_of_ble_eq_true rfl) dX8_scanRow_20 (by omega) rfl (zX8_isOfRow (d := d - 1) (by omega) x2 M (mv_bindE h)) (fun r1 M2 h => ?_)
      refine mv_if_eq 77 dX8_scanRow_23 (by decide) (fun z => ?_) (fun z => ?_)
      · replace h := mv_ifT z h
        refine mv_sub [0, 1, 2, 3, 4, 5] rfl ?_
        exact zX8_scanRow_77 hd x1 x2 x3 x4 x6 M2 (mv_inrE h)
      · replace h := mv_ifF z h
        refine mv_aload_n 0 dX8_scanRow_26 rfl ?_
        refine mv_iload_n 2 dX8_scanRow_27 rfl ?_
        refine mv_cvI (As := [.int x2]) (st := []) okX8_isDigit lX8_47 (by decide) rfl rfl rfl (Nat.le_of_ble_eq_true rfl) rfl (Nat.le_of_ble_eq_true rfl) dX8_scanRow_28 (by omega) rfl (zX8_isDigit (d := d - 1) (by omega) x2 M2 (mv_bindE h)) (fun r3 M4 h => ?_)
        refine mv_if_eq 37 dX8_scanRow_31 (by decide) (fun z => ?_) (fun z => ?_)
        · replace h := mv_ifT z h
          refine mv_sub [0, 1, 2, 3, 4, 5] rfl ?_
          exact zX8_scanRow_37 hd x1 x2 x3 x4 x6 M4 h
        · replace h := mv_ifF z h
          obtain ⟨v5, ev5⟩ : ∃ z : Int32, z = x3 + 1 := ⟨_, rfl⟩
          replace h := mv_letE h v5 ev5
          refine mv_iinc v5 3 [(3, .int v5), (0, .ref 2), (1, .int x1), (2, .int x2), (4, .long x4), (6, .long x6)] dX8_scanRow_34 rfl (by rw [ev5]; rfl) (by decide) rfl ?_
          refine mv_sub [1, 2, 3, 0, 4, 5] rfl ?_
          exact zX8_scanRow_37 hd x1 x2 v5 x4 x6 M4 h
noncomputable def fX8_scanRow (a0 : Int32) (M : mv_M) : Option (Int32 × mv_M) :=
  fX8_scanRow_10 a0 a0 0 0 0 M
set_option maxRecDepth 100000 in
set_option maxHeartbeats 4000000 in
theorem zX8_scanRow {l : Launch} {d : Nat} {Q : Int32 → mv_M → Prop} (hd : 2 ≤ d) (a0 : Int32) (M : mv_M) (h : mv_ok (fX8_scanRow a0 M) Q) : mv l mX8_scanRow d 0 0 (lv_args 0 [.ref 2, .int a0]) [] M (mv_qI Q) := by
  unfold fX8_scanRow at h
  show mv l mX8_scanRow d 0 0 [(0, .ref 2), (1, .int a0)] [] M (mv_qI Q)
  refine mv_iload_n 1 dX8_scanRow_0 rfl ?_
  refine mv_istore_n [(2, .int a0), (0, .ref 2), (1, .int a0)] dX8_scanRow_1 (by decide) rfl ?_
  refine mv_iconst 0 dX8_scanRow_2 (by decide) ?_
  refine mv_istore_n [(3, .int 0), (2, .int a0), (0, .ref 2), (1, .int a0)] dX8_scanRow_3 (by decide) rfl ?_
  refine mv_lconst 0 dX8_scanRow_4 (by decide) ?_
  refine mv_lstore [(4, .long 0), (3, .int 0), (2, .int a0), (0, .ref 2), (1, .int a0)] dX8_scanRow_5 (by decide) rfl ?_
  refine mv_lconst 0 dX8_scanRow_7 (by decide) ?_
  refine mv_lstore [(6, .long 0), (4, .long 0), (3, .int 0), (2, .int a0), (0, .ref 2), (1, .int a0)] dX8_scanRow_8 (by decide) rfl ?_
  refine mv_sub [4, 5, 3, 2, 1, 0] rfl ?_
  exact zX8_scanRow_10 hd a0 a0 0 0 0 M h
theorem dX8_scanSign_0 : decode cX8_scanSign 0 = .ok (.aload_n 0, 1) := by decide +kernel
theorem dX8_scanSign_1 : decode cX8_scanSign 1 = .ok (.getfield 9, 3) := by decide +kernel
theorem dX8_scanSign_4 : decode cX8_scanSign 4 = .ok (.iload_n 1, 1) := by decide +kernel
theorem dX8_scanSign_5 : decode cX8_scanSign 5 = .ok (.baload, 1) := by decide +kernel
theorem dX8_scanSign_6 : decode cX8_scanSign 6 = .ok (.bipush 61, 2) := by decide +kernel
theorem dX8_scanSign_8 : decode cX8_scanSign 8 = .ok (.if_icmp .ne 40, 3) := by decide +kernel
theorem dX8_scanSign_11 : decode cX8_scanSign 11 = .ok (.iload_n 1, 1) := by decide +kernel
theorem dX8_scanSign_12 : decode cX8_scanSign 12 = .ok (.iconst 1, 1) := by decide +kernel
theorem dX8_scanSign_13 : decode cX8_scanSign 13 = .ok (.iadd, 1) := by decide +kernel
theorem dX8_scanSign_14 : decode cX8_scanSign 14 = .ok (.aload_n 0, 1) := by decide +kernel
theorem dX8_scanSign_15 : decode cX8_scanSign 15 = .ok (.getfield 15, 3) := by decide +kernel
theorem dX8_scanSign_18 : decode cX8_scanSign 18 = .ok (.if_icmp .ge 30, 3) := by decide +kernel
theorem dX8_scanSign_21 : decode cX8_scanSign 21 = .ok (.aload_n 0, 1) := by decide +kernel
theorem dX8_scanSign_22 : decode cX8_scanSign 22 = .ok (.getfield 9, 3) := by decide +kernel
theorem dX8_scanSign_25 : decode cX8_scanSign 25 = .ok (.iload_n 1, 1) := by decide +kernel
theorem dX8_scanSign_26 : decode cX8_scanSign 26 = .ok (.iconst 1, 1) := by decide +kernel
theorem dX8_scanSign_27 : decode cX8_scanSign 27 = .ok (.iadd, 1) := by decide +kernel
theorem dX8_scanSign_28 : decode cX8_scanSign 28 = .ok (.baload, 1) := by decide +kernel
theorem dX8_scanSign_29 : decode cX8_scanSign 29 = .ok (.bipush 61, 2) := by decide +kernel
theorem dX8_scanSign_31 : decode cX8_scanSign 31 = .ok (.if_icmp .ne 17, 3) := by decide +kernel
theorem dX8_scanSign_34 : decode cX8_scanSign 34 = .ok (.aload_n 0, 1) := by decide +kernel
theorem dX8_scanSign_35 : decode cX8_scanSign 35 = .ok (.getfield 22, 3) := by decide +kernel
theorem dX8_scanSign_38 : decode cX8_scanSign 38 = .ok (.aload_n 0, 1) := by decide +kernel
theorem dX8_scanSign_39 : decode cX8_scanSign 39 = .ok (.getfield 19, 3) := by decide +kernel
theorem dX8_scanSign_42 : decode cX8_scanSign 42 = .ok (.iconst 4, 1) := by decide +kernel
theorem dX8_scanSign_43 : decode cX8_scanSign 43 = .ok (.iastore, 1) := by decide +kernel
theorem dX8_scanSign_44 : decode cX8_scanSign 44 = .ok (.iload_n 1, 1) := by decide +kernel
theorem dX8_scanSign_45 : decode cX8_scanSign 45 = .ok (.iconst 2, 1) := by decide +kernel
theorem dX8_scanSign_46 : decode cX8_scanSign 46 = .ok (.iadd, 1) := by decide +kernel
theorem dX8_scanSign_47 : decode cX8_scanSign 47 = .ok (.ireturn, 1) := by decide +kernel
theorem dX8_scanSign_48 : decode cX8_scanSign 48 = .ok (.aload_n 0, 1) := by decide +kernel
theorem dX8_scanSign_49 : decode cX8_scanSign 49 = .ok (.getfield 9, 3) := by decide +kernel
theorem dX8_scanSign_52 : decode cX8_scanSign 52 = .ok (.iload_n 1, 1) := by decide +kernel
theorem dX8_scanSign_53 : decode cX8_scanSign 53 = .ok (.baload, 1) := by decide +kernel
theorem dX8_scanSign_54 : decode cX8_scanSign 54 = .ok (.tableswitch 120 40 61 #[102, 102, 102, 102, 102, 102, 120, 120, 120, 120, 120, 120, 120, 120, 120, 120, 120, 120, 102, 102, 102, 102], 102) := by decide +kernel
theorem dX8_scanSign_156 : decode cX8_scanSign 156 = .ok (.aload_n 0, 1) := by decide +kernel
theorem dX8_scanSign_157 : decode cX8_scanSign 157 = .ok (.getfield 22, 3) := by decide +kernel
theorem dX8_scanSign_160 : decode cX8_scanSign 160 = .ok (.aload_n 0, 1) := by decide +kernel
theorem dX8_scanSign_161 : decode cX8_scanSign 161 = .ok (.getfield 19, 3) := by decide +kernel
theorem dX8_scanSign_164 : decode cX8_scanSign 164 = .ok (.aload_n 0, 1) := by decide +kernel
theorem dX8_scanSign_165 : decode cX8_scanSign 165 = .ok (.getfield 9, 3) := by decide +kernel
theorem dX8_scanSign_168 : decode cX8_scanSign 168 = .ok (.iload_n 1, 1) := by decide +kernel
theorem dX8_scanSign_169 : decode cX8_scanSign 169 = .ok (.baload, 1) := by decide +kernel
theorem dX8_scanSign_170 : decode cX8_scanSign 170 = .ok (.iastore, 1) := by decide +kernel
theorem dX8_scanSign_171 : decode cX8_scanSign 171 = .ok (.goto 13, 3) := by decide +kernel
theorem dX8_scanSign_174 : decode cX8_scanSign 174 = .ok (.aload_n 0, 1) := by decide +kernel
theorem dX8_scanSign_175 : decode cX8_scanSign 175 = .ok (.getfield 22, 3) := by decide +kernel
theorem dX8_scanSign_178 : decode cX8_scanSign 178 = .ok (.aload_n 0, 1) := by decide +kernel
theorem dX8_scanSign_179 : decode cX8_scanSign 179 = .ok (.getfield 19, 3) := by decide +kernel
theorem dX8_scanSign_182 : decode cX8_scanSign 182 = .ok (.iconst 1, 1) := by decide +kernel
theorem dX8_scanSign_183 : decode cX8_scanSign 183 = .ok (.iastore, 1) := by decide +kernel
theorem dX8_scanSign_184 : decode cX8_scanSign 184 = .ok (.iload_n 1, 1) := by decide +kernel
theorem dX8_scanSign_185 : decode cX8_scanSign 185 = .ok (.iconst 1, 1) := by decide +kernel
theorem dX8_scanSign_186 : decode cX8_scanSign 186 = .ok (.iadd, 1) := by decide +kernel
theorem dX8_scanSign_187 : decode cX8_scanSign 187 = .ok (.ireturn, 1) := by decide +kernel
noncomputable def fX8_scanSign_184 (x1 : Int32) (M : mv_M) : Option (Int32 × mv_M) :=
  some (x1 + 1, M)
set_option maxRecDepth 100000 in
set_option maxHeartbeats 4000000 in
theorem zX8_scanSign_184 {l : Launch} {d : Nat} {Q : Int32 → mv_M → Prop} (hd : 0 ≤ d) (x1 : Int32) (M : mv_M) (h : mv_ok (fX8_scanSign_184 x1 M) Q) : mv l mX8_scanSign d 0 184 [(1, .int x1)] [] M (mv_qI Q) := by
  unfold fX8_scanSign_184 at h
  refine mv_iload_n 0 dX8_scanSign_184 rfl ?_
  refine mv_iconst 1 dX8_scanSign_185 (by decide) ?_
  refine mv_iadd dX8_scanSign_186 ?_
  exact mv_iret rfl dX8_scanSign_187 ⟨_, rfl, h⟩
noncomputable def fX8_scanSign_48 (x1 : Int32) (M : mv_M) : Option (Int32 × mv_M) :=
  mv_chk (mv_inb x1 4000) <|
  if (M.1 39 x1.toNatClampNeg) = 40 then
    mv_chk (mv_inb x1 4000) <|
    mv_chk (mv_inb (M.1 2 2) 1002) <|
    mv_let (mv_si M 40 (M.1 2 2).toNatClampNeg (M.1 39 x1.toNatClampNeg)) fun M9 =>
    fX8_scanSign_184 x1 M9
  else
    if (M.1 39 x1.toNatClampNeg) = 41 then
      mv_chk (mv_inb x1 4000) <|
      mv_chk (mv_inb (M.1 2 2) 1002) <|
      mv_let (mv_si M 40 (M.1 2 2).toNatClampNeg (M.1 39 x1.toNatClampNeg)) fun M13 =>
      fX8_scanSign_184 x1 M13
    else
      if (M.1 39 x1.toNatClampNeg) = 42 then
        mv_chk (mv_inb x1 4000) <|
        mv_chk (mv_inb (M.1 2 2) 1002) <|
        mv_let (mv_si M 40 (M.1 2 2).toNatClampNeg (M.1 39 x1.toNatClampNeg)) fun M17 =>
        fX8_scanSign_184 x1 M17
      else
        if (M.1 39 x1.toNatClampNeg) = 43 then
          mv_chk (mv_inb x1 4000) <|
          mv_chk (mv_inb (M.1 2 2) 1002) <|
          mv_let (mv_si M 40 (M.1 2 2).toNatClampNeg (M.1 39 x1.toNatClampNeg)) fun M21 =>
          fX8_scanSign_184 x1 M21
        else
          if (M.1 39 x1.toNatClampNeg) = 44 then
            mv_chk (mv_inb x1 4000) <|
            mv_chk (mv_inb (M.1 2 2) 1002) <|
            mv_let (mv_si M 40 (M.1 2 2).toNatClampNeg (M.1 39 x1.toNatClampNeg)) fun M25 =>
            fX8_scanSign_184 x1 M25
          else
            if (M.1 39 x1.toNatClampNeg) = 45 then
              mv_chk (mv_inb x1 4000) <|
              mv_chk (mv_inb (M.1 2 2) 1002) <|
              mv_let (mv_si M 40 (M.1 2 2).toNatClampNeg (M.1 39 x1.toNatClampNeg)) fun M29 =>
              fX8_scanSign_184 x1 M29
            else
              if (M.1 39 x1.toNatClampNeg) = 58 then
                mv_chk (mv_inb x1 4000) <|
                mv_chk (mv_inb (M.1 2 2) 1002) <|
                mv_let (mv_si M 40 (M.1 2 2).toNatClampNeg (M.1 39 x1.toNatClampNeg)) fun M33 =>
                fX8_scanSign_184 x1 M33
              else
                if (M.1 39 x1.toNatClampNeg) = 59 then
                  mv_chk (mv_inb x1 4000) <|
                  mv_chk (mv_inb (M.1 2 2) 1002) <|
                  mv_let (mv_si M 40 (M.1 2 2).toNatClampNeg (M.1 39 x1.toNatClampNeg)) fun M37 =>
                  fX8_scanSign_184 x1 M37
                else
                  if (M.1 39 x1.toNatClampNeg) = 60 then
                    mv_chk (mv_inb x1 4000) <|
                    mv_chk (mv_inb (M.1 2 2) 1002) <|
                    mv_let (mv_si M 40 (M.1 2 2).toNatClampNeg (M.1 39 x1.toNatClampNeg)) fun M41 =>
                    fX8_scanSign_184 x1 M41
                  else
                    if (M.1 39 x1.toNatClampNeg) = 61 then
                      mv_chk (mv_inb x1 4000) <|
                      mv_chk (mv_inb (M.1 2 2) 1002) <|
                      mv_let (mv_si M 40 (M.1 2 2).toNatClampNeg (M.1 39 x1.toNatClampNeg)) fun M45 =>
                      fX8_scanSign_184 x1 M45
                    else
                        mv_chk (mv_inb (M.1 2 2) 1002) <|
                        mv_let (mv_si M 40 (M.1 2 2).toNatClampNeg 1) fun M47 =>
                        fX8_scanSign_184 x1 M47
set_option maxRecDepth 100000 in
set_option maxHeartbeats 4000000 in
theorem zX8_scanSign_48 {l : Launch} {d : Nat} {Q : Int32 → mv_M → Prop} (hd : 0 ≤ d) (x1 : Int32) (M : mv_M) (h : mv_ok (fX8_scanSign_48 x1 M) Q) : mv l mX8_scanSign d 0 48 [(0, .ref 2), (1, .int x1)] [] M (mv_qI Q) := by
  unfold fX8_scanSign_48 at h
  refine mv_aload_n 0 dX8_scanSign_48 rfl ?_
  refine mv_getR 39 fX8_9 (by decide) rfl rfl rfl dX8_scanSign_49 ?_
  refine mv_iload_n 1 dX8_scanSign_52 rfl ?_
  obtain ⟨hi5, h⟩ := mv_chkE h
  refine mv_bld (by decide) rfl (mv_inE hi5) dX8_scanSign_53 ?_
  by_cases z6 : (M.1 39 x1.toNatClampNeg) = 40
  · replace h := mv_ifT z6 h
    refine mv_tableIn (off := 102) 156 dX8_scanSign_54 (by rw [z6]; decide) (by rw [z6]; decide) (by rw [z6]; rfl) (by decide) ?_
    refine mv_aload_n 0 dX8_scanSign_156 rfl ?_
    refine mv_getR 40 fX8_22 (by decide) rfl rfl rfl dX8_scanSign_157 ?_
    refine mv_aload_n 0 dX8_scanSign_160 rfl ?_
    refine mv_getI fX8_19 (by decide) rfl rfl dX8_scanSign_161 ?_
    refine mv_aload_n 0 dX8_scanSign_164 rfl ?_
    refine mv_getR 39 fX8_9 (by decide) rfl rfl rfl dX8_scanSign_165 ?_
    refine mv_iload_n 1 dX8_scanSign_168 rfl ?_
    obtain ⟨hi7, h⟩ := mv_chkE h
    refine mv_bld (by decide) rfl (mv_inE hi7) dX8_scanSign_169 ?_
    obtain ⟨hi8, h⟩ := mv_chkE h
    refine mv_ist (by decide) rfl (mv_inE hi8) dX8_scanSign_170 (fun M9 eM9 => ?_)
    replace h := mv_letE h M9 eM9
    refine mv_goto 184 dX8_scanSign_171 (by decide) ?_
    refine mv_sub [1] rfl ?_
    exact zX8_scanSign_184 hd x1 M9 h
  · replace h := mv_ifF z6 h
    by_cases z10 : (M.1 39 x1.toNatClampNeg) = 41
    · replace h := mv_ifT z10 h
      refine mv_tableIn (off := 102) 156 dX8_scanSign_54 (by rw [z10]; decide) (by rw [z10]; decide) (by rw [z10]; rfl) (by decide) ?_
      refine mv_aload_n 0 dX8_scanSign_156 rfl ?_
      refine mv_getR 40 fX8_22 (by decide) rfl rfl rfl dX8_scanSign_157 ?_
      refine mv_aload_n 0 dX8_scanSign_160 rfl ?_
      refine mv_getI fX8_19 (by decide) rfl rfl dX8_scanSign_161 ?_
      refine mv_aload_n 0 dX8_scanSign_164 rfl ?_
      refine mv_getR 39 fX8_9 (by decide) rfl rfl rfl dX8_scanSign_165 ?_
      refine mv_iload_n 1 dX8_scanSign_168 rfl ?_
      obtain ⟨hi11, h⟩ := mv_chkE h
      refine mv_bld (by decide) rfl (mv_inE hi11) dX8_scanSign_169 ?_
      obtain ⟨hi12, h⟩ := mv_chkE h
      refine mv_ist (by decide) rfl (mv_inE hi12) dX8_scanSign_170 (fun M13 eM13 => ?_)
      replace h := mv_letE h M13 eM13
      refine mv_goto 184 dX8_scanSign_171 (by decide) ?_
      refine mv_sub [1] rfl ?_
      exact zX8_scanSign_184 hd x1 M13 h
    · replace h := mv_ifF z10 h
      by_cases z14 : (M.1 39 x1.toNatClampNeg) = 42
      · replace h := mv_ifT z14 h
        refine mv_tableIn (off := 102) 156 dX8_scanSign_54 (by rw [z14]; decide) (by rw [z14]; decide) (by rw [z14]; rfl) (by decide) ?_
        refine mv_aload_n 0 dX8_scanSign_156 rfl ?_
        refine mv_getR 40 fX8_22 (by decide) rfl rfl rfl dX8_scanSign_157 ?_
        refine mv_aload_n 0 dX8_scanSign_160 rfl ?_
        refine mv_getI fX8_19 (by decide) rfl rfl dX8_scanSign_161 ?_
        refine mv_aload_n 0 dX8_scanSign_164 rfl ?_
        refine mv_getR 39 fX8_9 (by decide) rfl rfl rfl dX8_scanSign_165 ?_
        refine mv_iload_n 1 dX8_scanSign_168 rfl ?_
        obtain ⟨hi15, h⟩ := mv_chkE h
        refine mv_bld (by decide) rfl (mv_inE hi15) dX8_scanSign_169 ?_
        obtain ⟨hi16, h⟩ := mv_chkE h
        refine mv_ist (by decide) rfl (mv_inE hi16) dX8_scanSign_170 (fun M17 eM17 => ?_)
        replace h := mv_letE h M17 eM17
        refine mv_goto 184 dX8_scanSign_171 (by decide) ?_
        refine mv_sub [1] rfl ?_
        exact zX8_scanSign_184 hd x1 M17 h
      · replace h := mv_ifF z14 h
        by_cases z18 : (M.1 39 x1.toNatClampNeg) = 43
        · replace h := mv_ifT z18 h
          refine mv_tableIn (off := 102) 156 dX8_scanSign_54 (by rw [z18]; decide) (by rw [z18]; decide) (by rw [z18]; rfl) (by decide) ?_
          refine mv_aload_n 0 dX8_scanSign_156 rfl ?_
          refine mv_getR 40 fX8_22 (by decide) rfl rfl rfl dX8_scanSign_157 ?_
          refine mv_aload_n 0 dX8_scanSign_160 rfl ?_
          refine mv_getI fX8_19 (by decide) rfl rfl dX8_scanSign_161 ?_
          refine mv_aload_n 0 dX8_scanSign_164 rfl ?_
          refine mv_getR 39 fX8_9 (by decide) rfl rfl rfl dX8_scanSign_165 ?_
          refine mv_iload_n 1 dX8_scanSign_168 rfl ?_
          obtain ⟨hi19, h⟩ := mv_chkE h
          refine mv_bld (by decide) rfl (mv_inE hi19) dX8_scanSign_169 ?_
          obtain ⟨hi20, h⟩ := mv_chkE h
          refine mv_ist (by decide) rfl (mv_inE hi20) dX8_scanSign_170 (fun M21 eM21 => ?_)
          replace h := mv_letE h M21 eM21
          refine mv_goto 184 dX8_scanSign_171 (by decide) ?_
          refine mv_sub [1] rfl ?_
          exact zX8_scanSign_184 hd x1 M21 h
        · replace h := mv_ifF z18 h
          by_cases z22 : (M.1 39 x1.toNatClampNeg) = 44
          · replace h := mv_ifT z22 h
            refine mv_tableIn (off := 102) 156 dX8_scanSign_54 (by rw [z22]; decide) (by rw [z22]; decide) (by rw [z22]; rfl) (by decide) ?_
            refine mv_aload_n 0 dX8_scanSign_156 rfl ?_
            refine mv_getR 40 fX8_22 (by decide) rfl rfl rfl dX8_scanSign_157 ?_
            refine mv_aload_n 0 dX8_scanSign_160 rfl ?_
            refine mv_getI fX8_19 (by decide) rfl rfl dX8_scanSign_161 ?_
            refine mv_aload_n 0 dX8_scanSign_164 rfl ?_
            refine mv_getR 39 fX8_9 (by decide) rfl rfl rfl dX8_scanSign_165 ?_
            refine mv_iload_n 1 dX8_scanSign_168 rfl ?_
            obtain ⟨hi23, h⟩ := mv_chkE h
            refine mv_bld (by decide) rfl (mv_inE hi23) dX8_scanSign_169 ?_
            obtain ⟨hi24, h⟩ := mv_chkE h
            refine mv_ist (by decide) rfl (mv_inE hi24) dX8_scanSign_170 (fun M25 eM25 => ?_)
            replace h := mv_letE h M25 eM25
            refine mv_goto 184 dX8_scanSign_171 (by decide) ?_
            refine mv_sub [1] rfl ?_
            exact zX8_scanSign_184 hd x1 M25 h
          · replace h := mv_ifF z22 h
            by_cases z26 : (M.1 39 x1.toNatClampNeg) = 45
            · replace h := mv_ifT z26 h
              refine mv_tableIn (off := 102) 156 dX8_scanSign_54 (by rw [z26]; decide) (by rw [z26]; decide) (by rw [z26]; rfl) (by decide) ?_
              refine mv_aload_n 0 dX8_scanSign_156 rfl ?_
              refine mv_getR 40 fX8_22 (by decide) rfl rfl rfl dX8_scanSign_157 ?_
              refine mv_aload_n 0 dX8_scanSign_160 rfl ?_
              refine mv_getI fX8_19 (by decide) rfl rfl dX8_scanSign_161 ?_
              refine mv_aload_n 0 dX8_scanSign_164 rfl ?_
              refine mv_getR 39 fX8_9 (by decide) rfl rfl rfl dX8_scanSign_165 ?_
              refine mv_iload_n 1 dX8_scanSign_168 rfl ?_
              obtain ⟨hi27, h⟩ := mv_chkE h
              refine mv_bld (by decide) rfl (mv_inE hi27) dX8_scanSign_169 ?_
              obtain ⟨hi28, h⟩ := mv_chkE h
              refine mv_ist (by decide) rfl (mv_inE hi28) dX8_scanSign_170 (fun M29 eM29 => ?_)
              replace h := mv_letE h M29 eM29
              refine mv_goto 184 dX8_scanSign_171 (by decide) ?_
              refine mv_sub [1] rfl ?_
              exact zX8_scanSign_184 hd x1 M29 h
            · replace h := mv_ifF z26 h
              by_cases z30 : (M.1 39 x1.toNatClampNeg) = 58
              · replace h := mv_ifT z30 h
                refine mv_tableIn (off := 102) 156 dX8_scanSign_54 (by rw [z30]; decide) (by rw [z30]; decide) (by rw [z30]; rfl) (by decide) ?_
                refine mv_aload_n 0 dX8_scanSign_156 rfl ?_
                refine mv_getR 40 fX8_22 (by decide) rfl rfl rfl dX8_scanSign_157 ?_
                refine mv_aload_n 0 dX8_scanSign_160 rfl ?_
                refine mv_getI fX8_19 (by decide) rfl rfl dX8_scanSign_161 ?_
                refine mv_aload_n 0 dX8_scanSign_164 rfl ?_
                refine mv_getR 39 fX8_9 (by decide) rfl rfl rfl dX8_scanSign_165 ?_
                refine mv_iload_n 1 dX8_scanSign_168 rfl ?_
                obtain ⟨hi31, h⟩ := mv_chkE h
                refine mv_bld (by decide) rfl (mv_inE hi31) dX8_scanSign_169 ?_
                obtain ⟨hi32, h⟩ := mv_chkE h
                refine mv_ist (by decide) rfl (mv_inE hi32) dX8_scanSign_170 (fun M33 eM33 => ?_)
                replace h := mv_letE h M33 eM33
                refine mv_goto 184 dX8_scanSign_171 (by decide) ?_
                refine mv_sub [1] rfl ?_
                exact zX8_scanSign_184 hd x1 M33 h
              · replace h := mv_ifF z30 h
                by_cases z34 : (M.1 39 x1.toNatClampNeg) = 59
                · replace h := mv_ifT z34 h
                  refine mv_tableIn (off := 102) 156 dX8_scanSign_54 (by rw [z34]; decide) (by rw [z34]; decide) (by rw [z34]; rfl) (by decide) ?_
                  refine mv_aload_n 0 dX8_scanSign_156 rfl ?_
                  refine mv_getR 40 fX8_22 (by decide) rfl rfl rfl dX8_scanSign_157 ?_
                  refine mv_aload_n 0 dX8_scanSign_160 rfl ?_
                  refine mv_getI fX8_19 (by decide) rfl rfl dX8_scanSign_161 ?_
                  refine mv_aload_n 0 dX8_scanSign_164 rfl ?_
                  refine mv_getR 39 fX8_9 (by decide) rfl rfl rfl dX8_scanSign_165 ?_
                  refine mv_iload_n 1 dX8_scanSign_168 rfl ?_
                  obtain ⟨hi35, h⟩ := mv_chkE h
                  refine mv_bld (by decide) rfl (mv_inE hi35) dX8_scanSign_169 ?_
                  obtain ⟨hi36, h⟩ := mv_chkE h
                  refine mv_ist (by decide) rfl (mv_inE hi36) dX8_scanSign_170 (fun M37 eM37 => ?_)
                  replace h := mv_letE h M37 eM37
                  refine mv_goto 184 dX8_scanSign_171 (by decide) ?_
                  refine mv_sub [1] rfl ?_
                  exact zX8_scanSign_184 hd x1 M37 h
                · replace h := mv_ifF z34 h
                  by_cases z38 : (M.1 39 x1.toNatClampNeg) = 60
                  · replace h := mv_ifT z38 h
                    refine mv_tableIn (off := 102) 156 dX8_scanSign_54 (by rw [z38]; decide) (by rw [z38]; decide) (by rw [z38]; rfl) (by decide) ?_
                    refine mv_aload_n 0 dX8_scanSign_156 rfl ?_
                    refine mv_getR 40 fX8_22 (by decide) rfl rfl rfl dX8_scanSign_157 ?_
                    refine mv_aload_n 0 dX8_scanSign_160 rfl ?_
                    refine mv_getI fX8_19 (by decide) rfl rfl dX8_scanSign_161 ?_
                    refine mv_aload_n 0 dX8_scanSign_164 rfl ?_
                    refine mv_getR 39 fX8_9 (by decide) rfl rfl rfl dX8_scanSign_165 ?_
                    refine mv_iload_n 1 dX8_scanSign_168 rfl ?_
                    obtain ⟨hi39, h⟩ := mv_chkE h
                    refine mv_bld (by decide) rfl (mv_inE hi39) dX8_scanSign_169 ?_
                    obtain ⟨hi40, h⟩ := mv_chkE h
                    refine mv_ist (by decide) rfl (mv_inE hi40) dX8_scanSign_170 (fun M41 eM41 => ?_)
                    replace h := mv_letE h M41 eM41
                    refine mv_goto 184 dX8_scanSign_171 (by decide) ?_
                    refine mv_sub [1] rfl ?_
                    exact zX8_scanSign_184 hd x1 M41 h
                  · replace h := mv_ifF z38 h
                    by_cases z42 : (M.1 39 x1.toNatClampNeg) = 61
                    · replace h := mv_ifT z42 h
                      refine mv_tableIn (off := 102) 156 dX8_scanSign_54 (by rw [z42]; decide) (by rw [z42]; decide) (by rw [z42]; rfl) (by decide) ?_
                      refine mv_aload_n 0 dX8_scanSign_156 rfl ?_
                      refine mv_getR 40 fX8_22 (by decide) rfl rfl rfl dX8_scanSign_157 ?_
                      refine mv_aload_n 0 dX8_scanSign_160 rfl ?_
                      refine mv_getI fX8_19 (by decide) rfl rfl dX8_scanSign_161 ?_
                      refine mv_aload_n 0 dX8_scanSign_164 rfl ?_
                      refine mv_getR 39 fX8_9 (by decide) rfl rfl rfl dX8_scanSign_165 ?_
                      refine mv_iload_n 1 dX8_scanSign_168 rfl ?_
                      obtain ⟨hi43, h⟩ := mv_chkE h
                      refine mv_bld (by decide) rfl (mv_inE hi43) dX8_scanSign_169 ?_
                      obtain ⟨hi44, h⟩ := mv_chkE h
                      refine mv_ist (by decide) rfl (mv_inE hi44) dX8_scanSign_170 (fun M45 eM45 => ?_)
                      replace h := mv_letE h M45 eM45
                      refine mv_goto 184 dX8_scanSign_171 (by decide) ?_
                      refine mv_sub [1] rfl ?_
                      exact zX8_scanSign_184 hd x1 M45 h
                    · replace h := mv_ifF z42 h
                      have hdef : mv l mX8_scanSign d 0 174 [(0, .ref 2), (1, .int x1)] [] M (mv_qI Q) := by
                        refine mv_aload_n 0 dX8_scanSign_174 rfl ?_
                        refine mv_getR 40 fX8_22 (by decide) rfl rfl rfl dX8_scanSign_175 ?_
                        refine mv_aload_n 0 dX8_scanSign_178 rfl ?_
                        refine mv_getI fX8_19 (by decide) rfl rfl dX8_scanSign_179 ?_
                        refine mv_iconst 1 dX8_scanSign_182 (by decide) ?_
                        obtain ⟨hi46, h⟩ := mv_chkE h
                        refine mv_ist (by decide) rfl (mv_inE hi46) dX8_scanSign_183 (fun M47 eM47 => ?_)
                        replace h := mv_letE h M47 eM47
                        refine mv_sub [1] rfl ?_
                        exact zX8_scanSign_184 hd x1 M47 h
                      by_cases hr : ((M.1 39 x1.toNatClampNeg)).toInt < 40 ∨ 61 < ((M.1 39 x1.toNatClampNeg)).toInt
                      · exact mv_tableOut 174 dX8_scanSign_54 hr (by decide) hdef
                      · have hg : ((M.1 39 x1.toNatClampNeg)).toInt = 46 ∨ ((M.1 39 x1.toNatClampNeg)).toInt = 47 ∨ ((M.1 39 x1.toNatClampNeg)).toInt = 48 ∨ ((M.1 39 x1.toNatClampNeg)).toInt = 49 ∨ ((M.1 39 x1.toNatClampNeg)).toInt = 50 ∨ ((M.1 39 x1.toNatClampNeg)).toInt = 51 ∨ ((M.1 39 x1.toNatClampNeg)).toInt = 52 ∨ ((M.1 39 x1.toNatClampNeg)).toInt = 53 ∨ ((M.1 39 x1.toNatClampNeg)).toInt = 54 ∨ ((M.1 39 x1.toNatClampNeg)).toInt = 55 ∨ ((M.1 39 x1.toNatClampNeg)).toInt = 56 ∨ ((M.1 39 x1.toNatClampNeg)).toInt = 57 := by have q0 := mv_ne 40 (v := 40) (by decide) z6; have q1 := mv_ne 41 (v := 41) (by decide) z10; have q2 := mv_ne 42 (v := 42) (by decide) z14; have q3 := mv_ne 43 (v := 43) (by decide) z18; have q4 := mv_ne 44 (v := 44) (by decide) z22; have q5 := mv_ne 45 (v := 45) (by decide) z26; have q6 := mv_ne 58 (v := 58) (by decide) z30; have q7 := mv_ne 59 (v := 59) (by decide) z34; have q8 := mv_ne 60 (v := 60) (by decide) z38; have q9 := mv_ne 61 (v := 61) (by decide) z42; omega
                        exact mv_tableIn (off := 120) 174 dX8_scanSign_54 (by omega) (by omega) (by rcases hg with q | q | q | q | q | q | q | q | q | q | q | q <;> rw [q] <;> rfl) (by decide) hdef
noncomputable def fX8_scanSign (a0 : Int32) (M : mv_M) : Option (Int32 × mv_M) :=
  mv_chk (mv_inb a0 4000) <|
  if (M.1 39 a0.toNatClampNeg) = 61 then
    if (M.1 2 1) ≤ (a0 + 1) then
      fX8_scanSign_48 a0 M
    else
      mv_chk (mv_inb (a0 + 1) 4000) <|
      if (M.1 39 (a0 + 1).toNatClampNeg) = 61 then
        mv_chk (mv_inb (M.1 2 2) 1002) <|
        mv_let (mv_si M 40 (M.1 2 2).toNatClampNeg 4) fun M4 =>
        some (a0 + 2, M4)
      else
        fX8_scanSign_48 a0 M
  else
    fX8_scanSign_48 a0 M
set_option maxRecDepth 100000 in
set_option maxHeartbeats 4000000 in
theorem zX8_scanSign {l : Launch} {d : Nat} {Q : Int32 → mv_M → Prop} (hd : 0 ≤ d) (a0 : Int32) (M : mv_M) (h : mv_ok (fX8_scanSign a0 M) Q) : mv l mX8_scanSign d 0 0 (lv_args 0 [.ref 2, .int a0]) [] M (mv_qI Q) := by
  unfold fX8_scanSign at h
  show mv l mX8_scanSign d 0 0 [(0, .ref 2), (1, .int a0)] [] M (mv_qI Q)
  refine mv_aload_n 0 dX8_scanSign_0 rfl ?_
  refine mv_getR 39 fX8_9 (by decide) rfl rfl rfl dX8_scanSign_1 ?_
  refine mv_iload_n 1 dX8_scanSign_4 rfl ?_
  obtain ⟨hi1, h⟩ := mv_chkE h
  refine mv_bld (by decide) rfl (mv_inE hi1) dX8_scanSign_5 ?_
  refine mv_bipush 61 dX8_scanSign_6 (by decide) ?_
  refine mv_icmp_ne 48 dX8_scanSign_8 (by decide) (fun z => ?_) (fun z => ?_)
  · replace h := mv_ifF z h
    refine mv_sub [0, 1] rfl ?_
    exact zX8_scanSign_48 hd a0 M h
  · replace h := mv_ifT z h
    refine mv_iload_n 1 dX8_scanSign_11 rfl ?_
    refine mv_iconst 1 dX8_scanSign_12 (by decide) ?_
    refine mv_iadd dX8_scanSign_13 ?_
    refine mv_aload_n 0 dX8_scanSign_14 rfl ?_
    refine mv_getI fX8_15 (by decide) rfl rfl dX8_scanSign_15 ?_
    refine mv_icmp_ge 48 dX8_scanSign_18 (by decide) (fun z => ?_) (fun z => ?_)
    · replace h := mv_ifT z h
      refine mv_sub [0, 1] rfl ?_
      exact zX8_scanSign_48 hd a0 M h
    · replace h := mv_ifF z h
      refine mv_aload_n 0 dX8_scanSign_21 rfl ?_
      refine mv_getR 39 fX8_9 (by decide) rfl rfl rfl dX8_scanSign_22 ?_
      refine mv_iload_n 1 dX8_scanSign_25 rfl ?_
      refine mv_iconst 1 dX8_scanSign_26 (by decide) ?_
      refine mv_iadd dX8_scanSign_27 ?_
      obtain ⟨hi2, h⟩ := mv_chkE h
      refine mv_bld (by decide) rfl (mv_inE hi2) dX8_scanSign_28 ?_
      refine mv_bipush 61 dX8_scanSign_29 (by decide) ?_
      refine mv_icmp_ne 48 dX8_scanSign_31 (by decide) (fun z => ?_) (fun z => ?_)
      · replace h := mv_ifF z h
        refine mv_sub [0, 1] rfl ?_
        exact zX8_scanSign_48 hd a0 M h
      · replace h := mv_ifT z h
        refine mv_aload_n 0 dX8_scanSign_34 rfl ?_
        refine mv_getR 40 fX8_22 (by decide) rfl rfl rfl dX8_scanSign_35 ?_
        refine mv_aload_n 0 dX8_scanSign_38 rfl ?_
        refine mv_getI fX8_19 (by decide) rfl rfl dX8_scanSign_39 ?_
        refine mv_iconst 4 dX8_scanSign_42 (by decide) ?_
        obtain ⟨hi3, h⟩ := mv_chkE h
        refine mv_ist (by decide) rfl (mv_inE hi3) dX8_scanSign_43 (fun M4 eM4 => ?_)
        replace h := mv_letE h M4 eM4
        refine mv_iload_n 1 dX8_scanSign_44 rfl ?_
        refine mv_iconst 2 dX8_scanSign_45 (by decide) ?_
        refine mv_iadd dX8_scanSign_46 ?_
        exact mv_iret rfl dX8_scanSign_47 ⟨_, rfl, h⟩
theorem dX8_scan_0 : decode cX8_scan 0 = .ok (.aload_n 0, 1) := by decide +kernel
theorem dX8_scan_1 : decode cX8_scan 1 = .ok (.iconst 0, 1) := by decide +kernel
theorem dX8_scan_2 : decode cX8_scan 2 = .ok (.putfield 19, 3) := by decide +kernel
theorem dX8_scan_5 : decode cX8_scan 5 = .ok (.aload_n 0, 1) := by decide +kernel
theorem dX8_scan_6 : decode cX8_scan 6 = .ok (.iconst 0, 1) := by decide +kernel
theorem dX8_scan_7 : decode cX8_scan 7 = .ok (.invokevirtual 33, 3) := by decide +kernel
theorem dX8_scan_10 : decode cX8_scan 10 = .ok (.istore_n 1, 1) := by decide +kernel
theorem dX8_scan_11 : decode cX8_scan 11 = .ok (.iload_n 1, 1) := by decide +kernel
theorem dX8_scan_12 : decode cX8_scan 12 = .ok (.aload_n 0, 1) := by decide +kernel
theorem dX8_scan_13 : decode cX8_scan 13 = .ok (.getfield 15, 3) := by decide +kernel
theorem dX8_scan_16 : decode cX8_scan 16 = .ok (.if_icmp .ge 64, 3) := by decide +kernel
theorem dX8_scan_19 : decode cX8_scan 19 = .ok (.aload_n 0, 1) := by decide +kernel
theorem dX8_scan_20 : decode cX8_scan 20 = .ok (.getfield 19, 3) := by decide +kernel
theorem dX8_scan_23 : decode cX8_scan 23 = .ok (.sipush 1000, 3) := by decide +kernel
theorem dX8_scan_26 : decode cX8_scan 26 = .ok (.if_icmp .gt 54, 3) := by decide +kernel
theorem dX8_scan_29 : decode cX8_scan 29 = .ok (.aload_n 0, 1) := by decide +kernel
theorem dX8_scan_30 : decode cX8_scan 30 = .ok (.iload_n 1, 1) := by decide +kernel
theorem dX8_scan_31 : decode cX8_scan 31 = .ok (.invokevirtual 37, 3) := by decide +kernel
theorem dX8_scan_34 : decode cX8_scan 34 = .ok (.ifCond .eq 11, 3) := by decide +kernel
theorem dX8_scan_37 : decode cX8_scan 37 = .ok (.aload_n 0, 1) := by decide +kernel
theorem dX8_scan_38 : decode cX8_scan 38 = .ok (.iload_n 1, 1) := by decide +kernel
theorem dX8_scan_39 : decode cX8_scan 39 = .ok (.invokevirtual 41, 3) := by decide +kernel
theorem dX8_scan_42 : decode cX8_scan 42 = .ok (.goto 8, 3) := by decide +kernel
theorem dX8_scan_45 : decode cX8_scan 45 = .ok (.aload_n 0, 1) := by decide +kernel
theorem dX8_scan_46 : decode cX8_scan 46 = .ok (.iload_n 1, 1) := by decide +kernel
theorem dX8_scan_47 : decode cX8_scan 47 = .ok (.invokevirtual 44, 3) := by decide +kernel
theorem dX8_scan_50 : decode cX8_scan 50 = .ok (.istore_n 2, 1) := by decide +kernel
theorem dX8_scan_51 : decode cX8_scan 51 = .ok (.aload_n 0, 1) := by decide +kernel
theorem dX8_scan_52 : decode cX8_scan 52 = .ok (.getfield 26, 3) := by decide +kernel
theorem dX8_scan_55 : decode cX8_scan 55 = .ok (.aload_n 0, 1) := by decide +kernel
theorem dX8_scan_56 : decode cX8_scan 56 = .ok (.getfield 19, 3) := by decide +kernel
theorem dX8_scan_59 : decode cX8_scan 59 = .ok (.iload_n 1, 1) := by decide +kernel
theorem dX8_scan_60 : decode cX8_scan 60 = .ok (.iastore, 1) := by decide +kernel
theorem dX8_scan_61 : decode cX8_scan 61 = .ok (.aload_n 0, 1) := by decide +kernel
theorem dX8_scan_62 : decode cX8_scan 62 = .ok (.dup, 1) := by decide +kernel
theorem dX8_scan_63 : decode cX8_scan 63 = .ok (.getfield 19, 3) := by decide +kernel
theorem dX8_scan_66 : decode cX8_scan 66 = .ok (.iconst 1, 1) := by decide +kernel
theorem dX8_scan_67 : decode cX8_scan 67 = .ok (.iadd, 1) := by decide +kernel
theorem dX8_scan_68 : decode cX8_scan 68 = .ok (.putfield 19, 3) := by decide +kernel
theorem dX8_scan_71 : decode cX8_scan 71 = .ok (.aload_n 0, 1) := by decide +kernel
theorem dX8_scan_72 : decode cX8_scan 72 = .ok (.iload_n 2, 1) := by decide +kernel
theorem dX8_scan_73 : decode cX8_scan 73 = .ok (.invokevirtual 33, 3) := by decide +kernel
theorem dX8_scan_76 : decode cX8_scan 76 = .ok (.istore_n 1, 1) := by decide +kernel
theorem dX8_scan_77 : decode cX8_scan 77 = .ok (.goto (-66), 3) := by decide +kernel
theorem dX8_scan_80 : decode cX8_scan 80 = .ok (.aload_n 0, 1) := by decide +kernel
theorem dX8_scan_81 : decode cX8_scan 81 = .ok (.getfield 22, 3) := by decide +kernel
theorem dX8_scan_84 : decode cX8_scan 84 = .ok (.aload_n 0, 1) := by decide +kernel
theorem dX8_scan_85 : decode cX8_scan 85 = .ok (.getfield 19, 3) := by decide +kernel
theorem dX8_scan_88 : decode cX8_scan 88 = .ok (.iconst 0, 1) := by decide +kernel
theorem dX8_scan_89 : decode cX8_scan 89 = .ok (.iastore, 1) := by decide +kernel
theorem dX8_scan_90 : decode cX8_scan 90 = .ok (.aload_n 0, 1) := by decide +kernel
theorem dX8_scan_91 : decode cX8_scan 91 = .ok (.getfield 26, 3) := by decide +kernel
theorem dX8_scan_94 : decode cX8_scan 94 = .ok (.aload_n 0, 1) := by decide +kernel
theorem dX8_scan_95 : decode cX8_scan 95 = .ok (.getfield 19, 3) := by decide +kernel
theorem dX8_scan_98 : decode cX8_scan 98 = .ok (.aload_n 0, 1) := by decide +kernel
theorem dX8_scan_99 : decode cX8_scan 99 = .ok (.getfield 15, 3) := by decide +kernel
theorem dX8_scan_102 : decode cX8_scan 102 = .ok (.iastore, 1) := by decide +kernel
theorem dX8_scan_103 : decode cX8_scan 103 = .ok (.return_, 1) := by decide +kernel
noncomputable def fX8_scan_50 (x1 : Int32) (s0 : Int32) (M : mv_M) : Option (((Int32) ⊕ Unit) × mv_M) :=
  mv_chk (mv_inb (M.1 2 2) 1002) <|
  mv_let (mv_si M 41 (M.1 2 2).toNatClampNeg x1) fun M15 =>
  mv_let (mv_si M15 2 2 ((M15.1 2 2) + 1)) fun M16 =>
  mv_bind (fX8_pastBlanks s0 M16) fun r17 M18 =>
  some (.inl r17, M18)
set_option maxRecDepth 100000 in
set_option maxHeartbeats 4000000 in
theorem zX8_scan_50 {l : Launch} {d : Nat} {Q : Unit → mv_M → Prop} (hd : 3 ≤ d) (x1 : Int32) (s0 : Int32) (M : mv_M) (h : mv_ok (fX8_scan_50 x1 s0 M) (mv_pq (fun (s : Int32) M => mv l mX8_scan d 0 11 [(0, .ref 2), (1, .int s)] [] M (mv_qV Q)) Q)) : mv l mX8_scan d 0 50 [(0, .ref 2), (1, .int x1)] [.int s0] M (mv_qV Q) := by
  unfold fX8_scan_50 at h
  refine mv_istore_n [(2, .int s0), (0, .ref 2), (1, .int x1)] dX8_scan_50 (by decide) rfl ?_
  refine mv_aload_n 1 dX8_scan_51 rfl ?_
  refine mv_getR 41 fX8_26 (by decide) rfl rfl rfl dX8_scan_52 ?_
  refine mv_aload_n 1 dX8_scan_55 rfl ?_
  refine mv_getI fX8_19 (by decide) rfl rfl dX8_scan_56 ?_
  refine mv_iload_n 2 dX8_scan_59 rfl ?_
  obtain ⟨hi14, h⟩ := mv_chkE h
  refine mv_ist (by decide) rfl (mv_inE hi14) dX8_scan_60 (fun M15 eM15 => ?_)
  replace h := mv_letE h M15 eM15
  refine mv_aload_n 1 dX8_scan_61 rfl ?_
  refine mv_dup dX8_scan_62 rfl ?_
  refine mv_getI fX8_19 (by decide) rfl rfl dX8_scan_63 ?_
  refine mv_iconst 1 dX8_scan_66 (by decide) ?_
  refine mv_iadd dX8_scan_67 ?_
  refine mv_putI fX8_19 (by decide) rfl rfl dX8_scan_68 (fun M16 eM16 => ?_)
  replace h := mv_letE h M16 eM16
  refine mv_aload_n 1 dX8_scan_71 rfl ?_
  refine mv_iload_n 0 dX8_scan_72 rfl ?_
  refine mv_cvI (As := [.int s0]) (st := []) okX8_pastBlanks lX8_33 (by decide) rfl rfl rfl (Nat.le_of_ble_eq_true rfl) rfl (Nat.le_of_ble_eq_true rfl) dX8_scan_73 (by omega) rfl (zX8_pastBlanks (d := d - 1) (by omega) s0 M16 (mv_bindE h)) (fun r17 M18 h => ?_)
  refine mv_istore_n [(1, .int r17), (2, .int s0), (0, .ref 2)] dX8_scan_76 (by decide) rfl ?_
  refine mv_goto 11 dX8_scan_77 (by decide) ?_
  refine mv_sub [2, 0] rfl ?_
  exact h
noncomputable def fX8_scan_80 (M : mv_M) : Option (Unit × mv_M) :=
  mv_chk (mv_inb (M.1 2 2) 1002) <|
  mv_let (mv_si M 40 (M.1 2 2).toNatClampNeg 0) fun M11 =>
  mv_chk (mv_inb (M11.1 2 2) 1002) <|
  mv_let (mv_si M11 41 (M11.1 2 2).toNatClampNeg (M11.1 2 1)) fun M13 =>
  some ((), M13)
set_option maxRecDepth 100000 in
set_option maxHeartbeats 4000000 in
theorem zX8_scan_80 {l : Launch} {d : Nat} {Q : Unit → mv_M → Prop} (hd : 3 ≤ d) (M : mv_M) (h : mv_ok (fX8_scan_80 M) Q) : mv l mX8_scan d 0 80 [(0, .ref 2)] [] M (mv_qV Q) := by
  unfold fX8_scan_80 at h
  refine mv_aload_n 0 dX8_scan_80 rfl ?_
  refine mv_getR 40 fX8_22 (by decide) rfl rfl rfl dX8_scan_81 ?_
  refine mv_aload_n 0 dX8_scan_84 rfl ?_
  refine mv_getI fX8_19 (by decide) rfl rfl dX8_scan_85 ?_
  refine mv_iconst 0 dX8_scan_88 (by decide) ?_
  obtain ⟨hi10, h⟩ := mv_chkE h
  refine mv_ist (by decide) rfl (mv_inE hi10) dX8_scan_89 (fun M11 eM11 => ?_)
  replace h := mv_letE h M11 eM11
  refine mv_aload_n 0 dX8_scan_90 rfl ?_
  refine mv_getR 41 fX8_26 (by decide) rfl rfl rfl dX8_scan_91 ?_
  refine mv_aload_n 0 dX8_scan_94 rfl ?_
  refine mv_getI fX8_19 (by decide) rfl rfl dX8_scan_95 ?_
  refine mv_aload_n 0 dX8_scan_98 rfl ?_
  refine mv_getI fX8_15 (by decide) rfl rfl dX8_scan_99 ?_
  obtain ⟨hi12, h⟩ := mv_chkE h
  refine mv_ist (by decide) rfl (mv_inE hi12) dX8_scan_102 (fun M13 eM13 => ?_)
  replace h := mv_letE h M13 eM13
  exact mv_vret rfl dX8_scan_103 ⟨rfl, h⟩
noncomputable def gX8_scan_11 (x1 : Int32) (M : mv_M) : Option (((Int32) ⊕ Unit) × mv_M) :=
  if (M.1 2 1) ≤ x1 then
    mv_inr (fX8_scan_80 M)
  else
    if 1000 < (M.1 2 2) then
      mv_inr (fX8_scan_80 M)
    else
      mv_bind (fX8_isOfRow x1 M) fun r4 M5 =>
      if r4 = 0 then
        mv_bind (fX8_scanSign x1 M5) fun r6 M7 =>
        fX8_scan_50 x1 r6 M7
      else
        mv_bind (fX8_scanRow x1 M5) fun r8 M9 =>
        fX8_scan_50 x1 r8 M9
noncomputable def fX8_scan_11 (x1 : Int32) (M : mv_M) : Option (Unit × mv_M) := mv_loop (fun (s : Int32) M => gX8_scan_11 s M) x1 M
set_option maxRecDepth 100000 in
set_option maxHeartbeats 4000000 in
theorem zX8_scan_11 {l : Launch} {d : Nat} {Q : Unit → mv_M → Prop} (hd : 3 ≤ d) (x1 : Int32) (M : mv_M) (h : mv_ok (fX8_scan_11 x1 M) Q) : mv l mX8_scan d 0 11 [(0, .ref 2), (1, .int x1)] [] M (mv_qV Q) := by
  unfold fX8_scan_11 at h
  refine mv_loopE (A := (fun (s : Int32) M => mv l mX8_scan d 0 11 [(0, .ref 2), (1, .int s)] [] M (mv_qV Q))) ?_ x1 M h
  · intro x1 M h
    try dsimp only at h
    show mv l mX8_scan d 0 11 [(0, .ref 2), (1, .int x1)] [] M (mv_qV Q)
    unfold gX8_scan_11 at h
    refine mv_iload_n 1 dX8_scan_11 rfl ?_
    refine mv_aload_n 0 dX8_scan_12 rfl ?_
    refine mv_getI fX8_15 (by decide) rfl rfl dX8_scan_13 ?_
    refine mv_icmp_ge 80 dX8_scan_16 (by decide) (fun z => ?_) (fun z => ?_)
    · replace h := mv_ifT z h
      refine mv_sub [0] rfl ?_
      exact zX8_scan_80 hd M (mv_inrE h)
    · replace h := mv_ifF z h
      refine mv_aload_n 0 dX8_scan_19 rfl ?_
      refine mv_getI fX8_19 (by decide) rfl rfl dX8_scan_20 ?_
      refine mv_sipush 1000 dX8_scan_23 (by decide) ?_
      refine mv_icmp_gt 80 dX8_scan_26 (by decide) (fun z => ?_) (fun z => ?_)
      · replace h := mv_ifT z h
        refine mv_sub [0] rfl ?_
        exact zX8_scan_80 hd M (mv_inrE h)
      · replace h := mv_ifF z h
        refine mv_aload_n 0 dX8_scan_29 rfl ?_
        refine mv_iload_n 1 dX8_scan_30 rfl ?_
        refine mv_cvI (As := [.int x1]) (st := []) okX8_isOfRow lX8_37 (by decide) rfl rfl rfl (Nat.le_of_ble_eq_true rfl) rfl (Nat.le_of_ble_eq_true rfl) dX8_scan_31 (by omega) rfl (zX8_isOfRow (d := d - 1) (by omega) x1 M (mv_bindE h)) (fun r4 M5 h => ?_)
        refine mv_if_eq 45 dX8_scan_34 (by decide) (fun z => ?_) (fun z => ?_)
        · replace h := mv_ifT z h
          refine mv_aload_n 0 dX8_scan_45 rfl ?_
          refine mv_iload_n 1 dX8_scan_46 rfl ?_
          refine mv_cvI (As := [.int x1]) (st := []) okX8_scanSign lX8_44 (by decide) rfl rfl rfl (Nat.le_of_ble_eq_true rfl) rfl (Nat.le_of_ble_eq_true rfl) dX8_scan_47 (by omega) rfl (zX8_scanSign (d := d - 1) (by omega) x1 M5 (mv_bindE h)) (fun r6 M7 h => ?_)
          refine mv_sub [0, 1] rfl ?_
          exact zX8_scan_50 hd x1 r6 M7 h
        · replace h := mv_ifF z h
          refine mv_aload_n 0 dX8_scan_37 rfl ?_
          refine mv_iload_n 1 dX8_scan_38 rfl ?_
          refine mv_cvI (As := [.int x1]) (st := []) okX8_scanRow lX8_41 (by decide) rfl rfl rfl (Nat.le_of_ble_eq_true rfl) rfl (Nat.le_of_ble_eq_true rfl) dX8_scan_39 (by omega) rfl (zX8_scanRow (d := d - 1) (by omega) x1 M5 (mv_bindE h)) (fun r8 M9 h => ?_)
          refine mv_goto 50 dX8_scan_42 (by decide) ?_
          refine mv_sub [0, 1] rfl ?_
          exact zX8_scan_50 hd x1 r8 M9 h
noncomputable def fX8_scan (M : mv_M) : Option (Unit × mv_M) :=
  mv_let (mv_si M 2 2 0) fun M1 =>
  mv_bind (fX8_pastBlanks 0 M1) fun r2 M3 =>
  fX8_scan_11 r2 M3
set_option maxRecDepth 100000 in
set_option maxHeartbeats 4000000 in
theorem zX8_scan {l : Launch} {d : Nat} {Q : Unit → mv_M → Prop} (hd : 3 ≤ d) (M : mv_M) (h : mv_ok (fX8_scan M) Q) : mv l mX8_scan d 0 0 (lv_args 0 [.ref 2]) [] M (mv_qV Q) := by
  unfold fX8_scan at h
  show mv l mX8_scan d 0 0 [(0, .ref 2)] [] M (mv_qV Q)
  refine mv_aload_n 0 dX8_scan_0 rfl ?_
  refine mv_iconst 0 dX8_scan_1 (by decide) ?_
  refine mv_putI fX8_19 (by decide) rfl rfl dX8_scan_2 (fun M1 eM1 => ?_)
  replace h := mv_letE h M1 eM1
  refine mv_aload_n 0 dX8_scan_5 rfl ?_
  refine mv_iconst 0 dX8_scan_6 (by decide) ?_
  refine mv_cvI (As := [.int 0]) (st := []) okX8_pastBlanks lX8_33 (by decide) rfl rfl rfl (Nat.le_of_ble_eq_true rfl) rfl (Nat.le_of_ble_eq_true rfl) dX8_scan_7 (by omega) rfl (zX8_pastBlanks (d := d - 1) (by omega) 0 M1 (mv_bindE h)) (fun r2 M3 h => ?_)
  refine mv_istore_n [(1, .int r2), (0, .ref 2)] dX8_scan_10 (by decide) rfl ?_
  refine mv_sub [1, 0] rfl ?_
  exact zX8_scan_11 hd r2 M3 h
theorem dX8_textOf_0 : decode cX8_textOf 0 = .ok (.iload_n 1, 1) := by decide +kernel
theorem dX8_textOf_1 : decode cX8_textOf 1 = .ok (.ifCond .lt 11, 3) := by decide +kernel
theorem dX8_textOf_4 : decode cX8_textOf 4 = .ok (.iload_n 1, 1) := by decide +kernel
theorem dX8_textOf_5 : decode cX8_textOf 5 = .ok (.aload_n 0, 1) := by decide +kernel
theorem dX8_textOf_6 : decode cX8_textOf 6 = .ok (.getfield 19, 3) := by decide +kernel
theorem dX8_textOf_9 : decode cX8_textOf 9 = .ok (.if_icmp .lt 7, 3) := by decide +kernel
theorem dX8_textOf_12 : decode cX8_textOf 12 = .ok (.lconst 0, 1) := by decide +kernel
theorem dX8_textOf_13 : decode cX8_textOf 13 = .ok (.goto 9, 3) := by decide +kernel
theorem dX8_textOf_16 : decode cX8_textOf 16 = .ok (.aload_n 0, 1) := by decide +kernel
theorem dX8_textOf_17 : decode cX8_textOf 17 = .ok (.getfield 29, 3) := by decide +kernel
theorem dX8_textOf_20 : decode cX8_textOf 20 = .ok (.iload_n 1, 1) := by decide +kernel
theorem dX8_textOf_21 : decode cX8_textOf 21 = .ok (.laload, 1) := by decide +kernel
theorem dX8_textOf_22 : decode cX8_textOf 22 = .ok (.lreturn, 1) := by decide +kernel
noncomputable def fX8_textOf_12 (M : mv_M) : Option (Int64 × mv_M) :=
  some (0, M)
set_option maxRecDepth 100000 in
set_option maxHeartbeats 4000000 in
theorem zX8_textOf_12 {l : Launch} {d : Nat} {Q : Int64 → mv_M → Prop} (hd : 0 ≤ d) (M : mv_M) (h : mv_ok (fX8_textOf_12 M) Q) : mv l mX8_textOf d 0 12 [] [] M (mv_qL Q) := by
  unfold fX8_textOf_12 at h
  refine mv_lconst 0 dX8_textOf_12 (by decide) ?_
  refine mv_goto 22 dX8_textOf_13 (by decide) ?_
  exact mv_lret rfl dX8_textOf_22 ⟨_, rfl, h⟩
noncomputable def fX8_textOf (a0 : Int32) (M : mv_M) : Option (Int64 × mv_M) :=
  if a0 < 0 then
    fX8_textOf_12 M
  else
    if a0 < (M.1 2 2) then
      mv_chk (mv_inb a0 1002) <|
      some (M.2.1 42 a0.toNatClampNeg, M)
    else
      fX8_textOf_12 M
set_option maxRecDepth 100000 in
set_option maxHeartbeats 4000000 in
theorem zX8_textOf {l : Launch} {d : Nat} {Q : Int64 → mv_M → Prop} (hd : 0 ≤ d) (a0 : Int32) (M : mv_M) (h : mv_ok (fX8_textOf a0 M) Q) : mv l mX8_textOf d 0 0 (lv_args 0 [.ref 2, .int a0]) [] M (mv_qL Q) := by
  unfold fX8_textOf at h
  show mv l mX8_textOf d 0 0 [(0, .ref 2), (1, .int a0)] [] M (mv_qL Q)
  refine mv_iload_n 1 dX8_textOf_0 rfl ?_
  refine mv_if_lt 12 dX8_textOf_1 (by decide) (fun z => ?_) (fun z => ?_)
  · replace h := mv_ifT z h
    refine mv_sub [] rfl ?_
    exact zX8_textOf_12 hd M h
  · replace h := mv_ifF z h
    refine mv_iload_n 1 dX8_textOf_4 rfl ?_
    refine mv_aload_n 0 dX8_textOf_5 rfl ?_
    refine mv_getI fX8_19 (by decide) rfl rfl dX8_textOf_6 ?_
    refine mv_icmp_lt 16 dX8_textOf_9 (by decide) (fun z => ?_) (fun z => ?_)
    · replace h := mv_ifT z h
      refine mv_aload_n 0 dX8_textOf_16 rfl ?_
      refine mv_getR 42 fX8_29 (by decide) rfl rfl rfl dX8_textOf_17 ?_
      refine mv_iload_n 1 dX8_textOf_20 rfl ?_
      obtain ⟨hi1, h⟩ := mv_chkE h
      refine mv_lld (by decide) rfl (mv_inE hi1) dX8_textOf_21 ?_
      exact mv_lret rfl dX8_textOf_22 ⟨_, rfl, h⟩
    · replace h := mv_ifF z h
      refine mv_sub [] rfl ?_
      exact zX8_textOf_12 hd M h
theorem dX8_kindOf_0 : decode cX8_kindOf 0 = .ok (.iload_n 1, 1) := by decide +kernel
theorem dX8_kindOf_1 : decode cX8_kindOf 1 = .ok (.ifCond .lt 11, 3) := by decide +kernel
theorem dX8_kindOf_4 : decode cX8_kindOf 4 = .ok (.iload_n 1, 1) := by decide +kernel
theorem dX8_kindOf_5 : decode cX8_kindOf 5 = .ok (.aload_n 0, 1) := by decide +kernel
theorem dX8_kindOf_6 : decode cX8_kindOf 6 = .ok (.getfield 19, 3) := by decide +kernel
theorem dX8_kindOf_9 : decode cX8_kindOf 9 = .ok (.if_icmp .le 7, 3) := by decide +kernel
theorem dX8_kindOf_12 : decode cX8_kindOf 12 = .ok (.iconst 0, 1) := by decide +kernel
theorem dX8_kindOf_13 : decode cX8_kindOf 13 = .ok (.goto 9, 3) := by decide +kernel
theorem dX8_kindOf_16 : decode cX8_kindOf 16 = .ok (.aload_n 0, 1) := by decide +kernel
theorem dX8_kindOf_17 : decode cX8_kindOf 17 = .ok (.getfield 22, 3) := by decide +kernel
theorem dX8_kindOf_20 : decode cX8_kindOf 20 = .ok (.iload_n 1, 1) := by decide +kernel
theorem dX8_kindOf_21 : decode cX8_kindOf 21 = .ok (.iaload, 1) := by decide +kernel
theorem dX8_kindOf_22 : decode cX8_kindOf 22 = .ok (.ireturn, 1) := by decide +kernel
noncomputable def fX8_kindOf_12 (M : mv_M) : Option (Int32 × mv_M) :=
  some (0, M)
set_option maxRecDepth 100000 in
set_option maxHeartbeats 4000000 in
theorem zX8_kindOf_12 {l : Launch} {d : Nat} {Q : Int32 → mv_M → Prop} (hd : 0 ≤ d) (M : mv_M) (h : mv_ok (fX8_kindOf_12 M) Q) : mv l mX8_kindOf d 0 12 [] [] M (mv_qI Q) := by
  unfold fX8_kindOf_12 at h
  refine mv_iconst 0 dX8_kindOf_12 (by decide) ?_
  refine mv_goto 22 dX8_kindOf_13 (by decide) ?_
  exact mv_iret rfl dX8_kindOf_22 ⟨_, rfl, h⟩
noncomputable def fX8_kindOf (a0 : Int32) (M : mv_M) : Option (Int32 × mv_M) :=
  if a0 < 0 then
    fX8_kindOf_12 M
  else
    if a0 ≤ (M.1 2 2) then
      mv_chk (mv_inb a0 1002) <|
      some (M.1 40 a0.toNatClampNeg, M)
    else
      fX8_kindOf_12 M
set_option maxRecDepth 100000 in
set_option maxHeartbeats 4000000 in
theorem zX8_kindOf {l : Launch} {d : Nat} {Q : Int32 → mv_M → Prop} (hd : 0 ≤ d) (a0 : Int32) (M : mv_M) (h : mv_ok (fX8_kindOf a0 M) Q) : mv l mX8_kindOf d 0 0 (lv_args 0 [.ref 2, .int a0]) [] M (mv_qI Q) := by
  unfold fX8_kindOf at h
  show mv l mX8_kindOf d 0 0 [(0, .ref 2), (1, .int a0)] [] M (mv_qI Q)
  refine mv_iload_n 1 dX8_kindOf_0 rfl ?_
  refine mv_if_lt 12 dX8_kindOf_1 (by decide) (fun z => ?_) (fun z => ?_)
  · replace h := mv_ifT z h
    refine mv_sub [] rfl ?_
    exact zX8_kindOf_12 hd M h
  · replace h := mv_ifF z h
    refine mv_iload_n 1 dX8_kindOf_4 rfl ?_
    refine mv_aload_n 0 dX8_kindOf_5 rfl ?_
    refine mv_getI fX8_19 (by decide) rfl rfl dX8_kindOf_6 ?_
    refine mv_icmp_le 16 dX8_kindOf_9 (by decide) (fun z => ?_) (fun z => ?_)
    · replace h := mv_ifT z h
      refine mv_aload_n 0 dX8_kindOf_16 rfl ?_
      refine mv_getR 40 fX8_22 (by decide) rfl rfl rfl dX8_kindOf_17 ?_
      refine mv_iload_n 1 dX8_kindOf_20 rfl ?_
      obtain ⟨hi1, h⟩ := mv_chkE h
      refine mv_ild (by decide) rfl (mv_inE hi1) dX8_kindOf_21 ?_
      exact mv_iret rfl dX8_kindOf_22 ⟨_, rfl, h⟩
    · replace h := mv_ifF z h
      refine mv_sub [] rfl ?_
      exact zX8_kindOf_12 hd M h
theorem dX8_startOf_0 : decode cX8_startOf 0 = .ok (.iload_n 1, 1) := by decide +kernel
theorem dX8_startOf_1 : decode cX8_startOf 1 = .ok (.ifCond .lt 11, 3) := by decide +kernel
theorem dX8_startOf_4 : decode cX8_startOf 4 = .ok (.iload_n 1, 1) := by decide +kernel
theorem dX8_startOf_5 : decode cX8_startOf 5 = .ok (.aload_n 0, 1) := by decide +kernel
theorem dX8_startOf_6 : decode cX8_startOf 6 = .ok (.getfield 19, 3) := by decide +kernel
theorem dX8_startOf_9 : decode cX8_startOf 9 = .ok (.if_icmp .le 10, 3) := by decide +kernel
theorem dX8_startOf_12 : decode cX8_startOf 12 = .ok (.aload_n 0, 1) := by decide +kernel
theorem dX8_startOf_13 : decode cX8_startOf 13 = .ok (.getfield 15, 3) := by decide +kernel
theorem dX8_startOf_16 : decode cX8_startOf 16 = .ok (.goto 9, 3) := by decide +kernel
theorem dX8_startOf_19 : decode cX8_startOf 19 = .ok (.aload_n 0, 1) := by decide +kernel
theorem dX8_startOf_20 : decode cX8_startOf 20 = .ok (.getfield 26, 3) := by decide +kernel
theorem dX8_startOf_23 : decode cX8_startOf 23 = .ok (.iload_n 1, 1) := by decide +kernel
theorem dX8_startOf_24 : decode cX8_startOf 24 = .ok (.iaload, 1) := by decide +kernel
theorem dX8_startOf_25 : decode cX8_startOf 25 = .ok (.ireturn, 1) := by decide +kernel
noncomputable def fX8_startOf_12 (M : mv_M) : Option (Int32 × mv_M) :=
  some (M.1 2 1, M)
set_option maxRecDepth 100000 in
set_option maxHeartbeats 4000000 in
theorem zX8_startOf_12 {l : Launch} {d : Nat} {Q : Int32 → mv_M → Prop} (hd : 0 ≤ d) (M : mv_M) (h : mv_ok (fX8_startOf_12 M) Q) : mv l mX8_startOf d 0 12 [(0, .ref 2)] [] M (mv_qI Q) := by
  unfold fX8_startOf_12 at h
  refine mv_aload_n 0 dX8_startOf_12 rfl ?_
  refine mv_getI fX8_15 (by decide) rfl rfl dX8_startOf_13 ?_
  refine mv_goto 25 dX8_startOf_16 (by decide) ?_
  exact mv_iret rfl dX8_startOf_25 ⟨_, rfl, h⟩
noncomputable def fX8_startOf (a0 : Int32) (M : mv_M) : Option (Int32 × mv_M) :=
  if a0 < 0 then
    fX8_startOf_12 M
  else
    if a0 ≤ (M.1 2 2) then
      mv_chk (mv_inb a0 1002) <|
      some (M.1 41 a0.toNatClampNeg, M)
    else
      fX8_startOf_12 M
set_option maxRecDepth 100000 in
set_option maxHeartbeats 4000000 in
theorem zX8_startOf {l : Launch} {d : Nat} {Q : Int32 → mv_M → Prop} (hd : 0 ≤ d) (a0 : Int32) (M : mv_M) (h : mv_ok (fX8_startOf a0 M) Q) : mv l mX8_startOf d 0 0 (lv_args 0 [.ref 2, .int a0]) [] M (mv_qI Q) := by
  unfold fX8_startOf at h
  show mv l mX8_startOf d 0 0 [(0, .ref 2), (1, .int a0)] [] M (mv_qI Q)
  refine mv_iload_n 1 dX8_startOf_0 rfl ?_
  refine mv_if_lt 12 dX8_startOf_1 (by decide) (fun z => ?_) (fun z => ?_)
  · replace h := mv_ifT z h
    refine mv_sub [0] rfl ?_
    exact zX8_startOf_12 hd M h
  · replace h := mv_ifF z h
    refine mv_iload_n 1 dX8_startOf_4 rfl ?_
    refine mv_aload_n 0 dX8_startOf_5 rfl ?_
    refine mv_getI fX8_19 (by decide) rfl rfl dX8_startOf_6 ?_
    refine mv_icmp_le 19 dX8_startOf_9 (by decide) (fun z => ?_) (fun z => ?_)
    · replace h := mv_ifT z h
      refine mv_aload_n 0 dX8_startOf_19 rfl ?_
      refine mv_getR 41 fX8_26 (by decide) rfl rfl rfl dX8_startOf_20 ?_
      refine mv_iload_n 1 dX8_startOf_23 rfl ?_
      obtain ⟨hi1, h⟩ := mv_chkE h
      refine mv_ild (by decide) rfl (mv_inE hi1) dX8_startOf_24 ?_
      exact mv_iret rfl dX8_startOf_25 ⟨_, rfl, h⟩
    · replace h := mv_ifF z h
      refine mv_sub [0] rfl ?_
      exact zX8_startOf_12 hd M h
