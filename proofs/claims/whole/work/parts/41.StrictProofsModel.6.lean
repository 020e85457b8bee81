theorem dX11_has_0 : decode cX11_has 0 = .ok (.aload_n 0, 1) := by decide +kernel
theorem dX11_has_1 : decode cX11_has 1 = .ok (.getfield 100, 3) := by decide +kernel
theorem dX11_has_4 : decode cX11_has 4 = .ok (.bipush 26, 2) := by decide +kernel
theorem dX11_has_6 : decode cX11_has 6 = .ok (.iload_n 1, 1) := by decide +kernel
theorem dX11_has_7 : decode cX11_has 7 = .ok (.imul, 1) := by decide +kernel
theorem dX11_has_8 : decode cX11_has 8 = .ok (.iload_n 2, 1) := by decide +kernel
theorem dX11_has_9 : decode cX11_has 9 = .ok (.iadd, 1) := by decide +kernel
theorem dX11_has_10 : decode cX11_has 10 = .ok (.baload, 1) := by decide +kernel
theorem dX11_has_11 : decode cX11_has 11 = .ok (.ifCond .eq 12, 3) := by decide +kernel
theorem dX11_has_14 : decode cX11_has 14 = .ok (.aload_n 0, 1) := by decide +kernel
theorem dX11_has_15 : decode cX11_has 15 = .ok (.iload_n 1, 1) := by decide +kernel
theorem dX11_has_16 : decode cX11_has 16 = .ok (.iload_n 3, 1) := by decide +kernel
theorem dX11_has_17 : decode cX11_has 17 = .ok (.invokevirtual 384, 3) := by decide +kernel
theorem dX11_has_20 : decode cX11_has 20 = .ok (.goto 18, 3) := by decide +kernel
theorem dX11_has_23 : decode cX11_has 23 = .ok (.aload_n 0, 1) := by decide +kernel
theorem dX11_has_24 : decode cX11_has 24 = .ok (.getfield 97, 3) := by decide +kernel
theorem dX11_has_27 : decode cX11_has 27 = .ok (.iconst 4, 1) := by decide +kernel
theorem dX11_has_28 : decode cX11_has 28 = .ok (.bipush 26, 2) := by decide +kernel
theorem dX11_has_30 : decode cX11_has 30 = .ok (.iload_n 1, 1) := by decide +kernel
theorem dX11_has_31 : decode cX11_has 31 = .ok (.imul, 1) := by decide +kernel
theorem dX11_has_32 : decode cX11_has 32 = .ok (.iload_n 2, 1) := by decide +kernel
theorem dX11_has_33 : decode cX11_has 33 = .ok (.iadd, 1) := by decide +kernel
theorem dX11_has_34 : decode cX11_has 34 = .ok (.imul, 1) := by decide +kernel
theorem dX11_has_35 : decode cX11_has 35 = .ok (.iload_n 3, 1) := by decide +kernel
theorem dX11_has_36 : decode cX11_has 36 = .ok (.iadd, 1) := by decide +kernel
theorem dX11_has_37 : decode cX11_has 37 = .ok (.iaload, 1) := by decide +kernel
theorem dX11_has_38 : decode cX11_has 38 = .ok (.ireturn, 1) := by decide +kernel
noncomputable def fX11_has (a0 : Int32) (a1 : Int32) (a2 : Int32) (M : mv_M) : Option (Int32 × mv_M) :=
  mv_chk (mv_inb ((26 * a0) + a1) 312) <|
  if (M.1 91 ((26 * a0) + a1).toNatClampNeg) = 0 then
    mv_chk (mv_inb ((4 * ((26 * a0) + a1)) + a2) 1248) <|
    some (M.1 90 ((4 * ((26 * a0) + a1)) + a2).toNatClampNeg, M)
  else
    mv_bind (fX11_all a0 a2 M) fun r3 M4 =>
    some (r3, M4)
set_option maxRecDepth 100000 in
set_option maxHeartbeats 4000000 in
theorem zX11_has {l : Launch} {d : Nat} {Q : Int32 → mv_M → Prop} (hd : 2 ≤ d) (a0 : Int32) (a1 : Int32) (a2 : Int32) (M : mv_M) (h : mv_ok (fX11_has a0 a1 a2 M) Q) : mv l mX11_has d 0 0 (lv_args 0 [.ref 62, .int a0, .int a1, .int a2]) [] M (mv_qI Q) := by
  unfold fX11_has at h
  show mv l mX11_has d 0 0 [(0, .ref 62), (1, .int a0), (2, .int a1), (3, .int a2)] [] M (mv_qI Q)
  refine mv_aload_n 0 dX11_has_0 rfl ?_
  refine mv_getR 91 fX11_100 (by decide) rfl rfl rfl dX11_has_1 ?_
  refine mv_bipush 26 dX11_has_4 (by decide) ?_
  refine mv_iload_n 1 dX11_has_6 rfl ?_
  refine mv_imul dX11_has_7 ?_
  refine mv_iload_n 2 dX11_has_8 rfl ?_
  refine mv_iadd dX11_has_9 ?_
  obtain ⟨hi1, h⟩ := mv_chkE h
  refine mv_zld (by decide) rfl (mv_inE hi1) dX11_has_10 ?_
  refine mv_if_eq 23 dX11_has_11 (by decide) (fun z => ?_) (fun z => ?_)
  · replace h := mv_ifT z h
    refine mv_aload_n 0 dX11_has_23 rfl ?_
    refine mv_getR 90 fX11_97 (by decide) rfl rfl rfl dX11_has_24 ?_
    refine mv_iconst 4 dX11_has_27 (by decide) ?_
    refine mv_bipush 26 dX11_has_28 (by decide) ?_
    refine mv_iload_n 1 dX11_has_30 rfl ?_
    refine mv_imul dX11_has_31 ?_
    refine mv_iload_n 2 dX11_has_32 rfl ?_
    refine mv_iadd dX11_has_33 ?_
    refine mv_imul dX11_has_34 ?_
    refine mv_iload_n 3 dX11_has_35 rfl ?_
    refine mv_iadd dX11_has_36 ?_
    obtain ⟨hi2, h⟩ := mv_chkE h
    refine mv_ild (by decide) rfl (mv_inE hi2) dX11_has_37 ?_
    exact mv_iret rfl dX11_has_38 ⟨_, rfl, h⟩
  · replace h := mv_ifF z h
    refine mv_aload_n 0 dX11_has_14 rfl ?_
    refine mv_iload_n 1 dX11_has_15 rfl ?_
    refine mv_iload_n 3 dX11_has_16 rfl ?_
    refine mv_cvI (As := [.int a0, .int a2]) (st := []) okX11_all lX11_384 (by decide) rfl rfl rfl (Nat.le_of_ble_eq_true rfl) rfl (Nat.le_of_ble_eq_true rfl) dX11_has_17 (by omega) rfl (zX11_all (d := d - 1) (by omega) a0 a2 M (mv_bindE h)) (fun r3 M4 h => ?_)
    refine mv_goto 38 dX11_has_20 (by decide) ?_
    exact mv_iret rfl dX11_has_38 ⟨_, rfl, h⟩
theorem dX11_dead_0 : decode cX11_dead 0 = .ok (.aload_n 0, 1) := by decide +kernel
theorem dX11_dead_1 : decode cX11_dead 1 = .ok (.aload_n 0, 1) := by decide +kernel
theorem dX11_dead_2 : decode cX11_dead 2 = .ok (.getfield 354, 3) := by decide +kernel
theorem dX11_dead_5 : decode cX11_dead 5 = .ok (.ifCond .ne 7, 3) := by decide +kernel
theorem dX11_dead_8 : decode cX11_dead 8 = .ok (.iconst 1, 1) := by decide +kernel
theorem dX11_dead_9 : decode cX11_dead 9 = .ok (.goto 17, 3) := by decide +kernel
theorem dX11_dead_12 : decode cX11_dead 12 = .ok (.aload_n 0, 1) := by decide +kernel
theorem dX11_dead_13 : decode cX11_dead 13 = .ok (.iload_n 1, 1) := by decide +kernel
theorem dX11_dead_14 : decode cX11_dead 14 = .ok (.iload_n 2, 1) := by decide +kernel
theorem dX11_dead_15 : decode cX11_dead 15 = .ok (.invokevirtual 387, 3) := by decide +kernel
theorem dX11_dead_18 : decode cX11_dead 18 = .ok (.ifCond .ne 7, 3) := by decide +kernel
theorem dX11_dead_21 : decode cX11_dead 21 = .ok (.iconst 2, 1) := by decide +kernel
theorem dX11_dead_22 : decode cX11_dead 22 = .ok (.goto 4, 3) := by decide +kernel
theorem dX11_dead_25 : decode cX11_dead 25 = .ok (.iconst 0, 1) := by decide +kernel
theorem dX11_dead_26 : decode cX11_dead 26 = .ok (.putfield 148, 3) := by decide +kernel
theorem dX11_dead_29 : decode cX11_dead 29 = .ok (.aload_n 0, 1) := by decide +kernel
theorem dX11_dead_30 : decode cX11_dead 30 = .ok (.getfield 148, 3) := by decide +kernel
theorem dX11_dead_33 : decode cX11_dead 33 = .ok (.ifCond .ne 21, 3) := by decide +kernel
theorem dX11_dead_36 : decode cX11_dead 36 = .ok (.aload_n 0, 1) := by decide +kernel
theorem dX11_dead_37 : decode cX11_dead 37 = .ok (.getfield 100, 3) := by decide +kernel
theorem dX11_dead_40 : decode cX11_dead 40 = .ok (.bipush 26, 2) := by decide +kernel
theorem dX11_dead_42 : decode cX11_dead 42 = .ok (.iload_n 1, 1) := by decide +kernel
theorem dX11_dead_43 : decode cX11_dead 43 = .ok (.imul, 1) := by decide +kernel
theorem dX11_dead_44 : decode cX11_dead 44 = .ok (.iload_n 2, 1) := by decide +kernel
theorem dX11_dead_45 : decode cX11_dead 45 = .ok (.iadd, 1) := by decide +kernel
theorem dX11_dead_46 : decode cX11_dead 46 = .ok (.baload, 1) := by decide +kernel
theorem dX11_dead_47 : decode cX11_dead 47 = .ok (.ifCond .eq 7, 3) := by decide +kernel
theorem dX11_dead_50 : decode cX11_dead 50 = .ok (.iconst 1, 1) := by decide +kernel
theorem dX11_dead_51 : decode cX11_dead 51 = .ok (.goto 4, 3) := by decide +kernel
theorem dX11_dead_54 : decode cX11_dead 54 = .ok (.iconst 0, 1) := by decide +kernel
theorem dX11_dead_55 : decode cX11_dead 55 = .ok (.ireturn, 1) := by decide +kernel
noncomputable def fX11_dead_26 (x1 : Int32) (x2 : Int32) (s0 : Int32) (M : mv_M) : Option (Int32 × mv_M) :=
  mv_let (mv_si M 62 0 s0) fun M3 =>
  if (M3.1 62 0) = 0 then
    mv_chk (mv_inb ((26 * x1) + x2) 312) <|
    if (M3.1 91 ((26 * x1) + x2).toNatClampNeg) = 0 then
      some (0, M3)
    else
      some (1, M3)
  else
    some (0, M3)
set_option maxRecDepth 100000 in
set_option maxHeartbeats 4000000 in
theorem zX11_dead_26 {l : Launch} {d : Nat} {Q : Int32 → mv_M → Prop} (hd : 3 ≤ d) (x1 : Int32) (x2 : Int32) (s0 : Int32) (M : mv_M) (h : mv_ok (fX11_dead_26 x1 x2 s0 M) Q) : mv l mX11_dead d 0 26 [(0, .ref 62), (1, .int x1), (2, .int x2)] [.int s0, .ref 62] M (mv_qI Q) := by
  unfold fX11_dead_26 at h
  refine mv_putI fX11_148 (by decide) rfl rfl dX11_dead_26 (fun M3 eM3 => ?_)
  replace h := mv_letE h M3 eM3
  refine mv_aload_n 0 dX11_dead_29 rfl ?_
  refine mv_getI fX11_148 (by decide) rfl rfl dX11_dead_30 ?_
  refine mv_if_ne 54 dX11_dead_33 (by decide) (fun z => ?_) (fun z => ?_)
  · replace h := mv_ifF z h
    refine mv_iconst 0 dX11_dead_54 (by decide) ?_
    exact mv_zret (by decide) rfl dX11_dead_55 ⟨_, rfl, h⟩
  · replace h := mv_ifT z h
    refine mv_aload_n 0 dX11_dead_36 rfl ?_
    refine mv_getR 91 fX11_100 (by decide) rfl rfl rfl dX11_dead_37 ?_
    refine mv_bipush 26 dX11_dead_40 (by decide) ?_
    refine mv_iload_n 1 dX11_dead_42 rfl ?_
    refine mv_imul dX11_dead_43 ?_
    refine mv_iload_n 2 dX11_dead_44 rfl ?_
    refine mv_iadd dX11_dead_45 ?_
    obtain ⟨hi4, h⟩ := mv_chkE h
    refine mv_zld (by decide) rfl (mv_inE hi4) dX11_dead_46 ?_
    refine mv_if_eq 54 dX11_dead_47 (by decide) (fun z => ?_) (fun z => ?_)
    · replace h := mv_ifT z h
      refine mv_iconst 0 dX11_dead_54 (by decide) ?_
      exact mv_zret (by decide) rfl dX11_dead_55 ⟨_, rfl, h⟩
    · replace h := mv_ifF z h
      refine mv_iconst 1 dX11_dead_50 (by decide) ?_
      refine mv_goto 55 dX11_dead_51 (by decide) ?_
      exact mv_zret (by decide) rfl dX11_dead_55 ⟨_, rfl, h⟩
noncomputable def fX11_dead (a0 : Int32) (a1 : Int32) (M : mv_M) : Option (Int32 × mv_M) :=
  if (M.1 62 46) = 0 then
    fX11_dead_26 a0 a1 1 M
  else
    mv_bind (fX11_isRowThere a0 a1 M) fun r1 M2 =>
    if r1 = 0 then
      fX11_dead_26 a0 a1 2 M2
    else
      fX11_dead_26 a0 a1 0 M2
set_option maxRecDepth 100000 in
set_option maxHeartbeats 4000000 in
theorem zX11_dead {l : Launch} {d : Nat} {Q : Int32 → mv_M → Prop} (hd : 3 ≤ d) (a0 : Int32) (a1 : Int32) (M : mv_M) (h : mv_ok (fX11_dead a0 a1 M) Q) : mv l mX11_dead d 0 0 (lv_args 0 [.ref 62, .int a0, .int a1]) [] M (mv_qI Q) := by
  unfold fX11_dead at h
  show mv l mX11_dead d 0 0 [(0, .ref 62), (1, .int a0), (2, .int a1)] [] M (mv_qI Q)
  refine mv_aload_n 0 dX11_dead_0 rfl ?_
  refine mv_aload_n 0 dX11_dead_1 rfl ?_
  refine mv_getI fX11_354 (by decide) rfl rfl dX11_dead_2 ?_
  refine mv_if_ne 12 dX11_dead_5 (by decide) (fun z => ?_) (fun z => ?_)
  · replace h := mv_ifF z h
    refine mv_aload_n 0 dX11_dead_12 rfl ?_
    refine mv_iload_n 1 dX11_dead_13 rfl ?_
    refine mv_iload_n 2 dX11_dead_14 rfl ?_
    refine mv_cvI (As := [.int a0, .int a1]) (st := [.ref 62]) okX11_isRowThere lX11_387 (by decide) rfl rfl rfl (Nat.le_of_ble_eq_true rfl) rfl (Nat.le_of_ble_eq_true rfl) dX11_dead_15 (by omega) rfl (zX11_isRowThere (d := d - 1) (by omega) a0 a1 M (mv_bindE h)) (fun r1 M2 h => ?_)
    refine mv_if_ne 25 dX11_dead_18 (by decide) (fun z => ?_) (fun z => ?_)
    · replace h := mv_ifF z h
      refine mv_iconst 0 dX11_dead_25 (by decide) ?_
      refine mv_sub [0, 1, 2] rfl ?_
      exact zX11_dead_26 hd a0 a1 0 M2 h
    · replace h := mv_ifT z h
      refine mv_iconst 2 dX11_dead_21 (by decide) ?_
      refine mv_goto 26 dX11_dead_22 (by decide) ?_
      refine mv_sub [0, 1, 2] rfl ?_
      exact zX11_dead_26 hd a0 a1 2 M2 h
  · replace h := mv_ifT z h
    refine mv_iconst 1 dX11_dead_8 (by decide) ?_
    refine mv_goto 26 dX11_dead_9 (by decide) ?_
    refine mv_sub [0, 1, 2] rfl ?_
    exact zX11_dead_26 hd a0 a1 1 M h
theorem dX11_isParamOf_0 : decode cX11_isParamOf 0 = .ok (.aload_n 0, 1) := by decide +kernel
theorem dX11_isParamOf_1 : decode cX11_isParamOf 1 = .ok (.iload_n 1, 1) := by decide +kernel
theorem dX11_isParamOf_2 : decode cX11_isParamOf 2 = .ok (.invokevirtual 357, 3) := by decide +kernel
theorem dX11_isParamOf_5 : decode cX11_isParamOf 5 = .ok (.ifCond .eq 33, 3) := by decide +kernel
theorem dX11_isParamOf_8 : decode cX11_isParamOf 8 = .ok (.iload_n 2, 1) := by decide +kernel
theorem dX11_isParamOf_9 : decode cX11_isParamOf 9 = .ok (.i2l, 1) := by decide +kernel
theorem dX11_isParamOf_10 : decode cX11_isParamOf 10 = .ok (.lconst 0, 1) := by decide +kernel
theorem dX11_isParamOf_11 : decode cX11_isParamOf 11 = .ok (.aload_n 0, 1) := by decide +kernel
theorem dX11_isParamOf_12 : decode cX11_isParamOf 12 = .ok (.getfield 24, 3) := by decide +kernel
theorem dX11_isParamOf_15 : decode cX11_isParamOf 15 = .ok (.bipush 12, 2) := by decide +kernel
theorem dX11_isParamOf_17 : decode cX11_isParamOf 17 = .ok (.aload_n 0, 1) := by decide +kernel
theorem dX11_isParamOf_18 : decode cX11_isParamOf 18 = .ok (.getfield 345, 3) := by decide +kernel
theorem dX11_isParamOf_21 : decode cX11_isParamOf 21 = .ok (.imul, 1) := by decide +kernel
theorem dX11_isParamOf_22 : decode cX11_isParamOf 22 = .ok (.iload_n 1, 1) := by decide +kernel
theorem dX11_isParamOf_23 : decode cX11_isParamOf 23 = .ok (.iadd, 1) := by decide +kernel
theorem dX11_isParamOf_24 : decode cX11_isParamOf 24 = .ok (.iaload, 1) := by decide +kernel
theorem dX11_isParamOf_25 : decode cX11_isParamOf 25 = .ok (.iconst 1, 1) := by decide +kernel
theorem dX11_isParamOf_26 : decode cX11_isParamOf 26 = .ok (.isub, 1) := by decide +kernel
theorem dX11_isParamOf_27 : decode cX11_isParamOf 27 = .ok (.i2l, 1) := by decide +kernel
theorem dX11_isParamOf_28 : decode cX11_isParamOf 28 = .ok (.invokestatic 154, 3) := by decide +kernel
theorem dX11_isParamOf_31 : decode cX11_isParamOf 31 = .ok (.ifCond .eq 7, 3) := by decide +kernel
theorem dX11_isParamOf_34 : decode cX11_isParamOf 34 = .ok (.iconst 1, 1) := by decide +kernel
theorem dX11_isParamOf_35 : decode cX11_isParamOf 35 = .ok (.goto 4, 3) := by decide +kernel
theorem dX11_isParamOf_38 : decode cX11_isParamOf 38 = .ok (.iconst 0, 1) := by decide +kernel
theorem dX11_isParamOf_39 : decode cX11_isParamOf 39 = .ok (.ireturn, 1) := by decide +kernel
noncomputable def fX11_isParamOf (a0 : Int32) (a1 : Int32) (M : mv_M) : Option (Int32 × mv_M) :=
  mv_bind (fX11_isFn a0 M) fun r1 M2 =>
  if r1 = 0 then
    some (0, M2)
  else
    mv_chk (mv_inb ((12 * (M2.1 62 47)) + a0) 24) <|
    mv_bind (fX11_within (a1.toInt64) 0 (((M2.1 66 ((12 * (M2.1 62 47)) + a0).toNatClampNeg) - 1).toInt64) M2) fun r4 M5 =>
    if r4 = 0 then
      some (0, M5)
    else
      some (1, M5)
set_option maxRecDepth 100000 in
set_option maxHeartbeats 4000000 in
theorem zX11_isParamOf {l : Launch} {d : Nat} {Q : Int32 → mv_M → Prop} (hd : 2 ≤ d) (a0 : Int32) (a1 : Int32) (M : mv_M) (h : mv_ok (fX11_isParamOf a0 a1 M) Q) : mv l mX11_isParamOf d 0 0 (lv_args 0 [.ref 62, .int a0, .int a1]) [] M (mv_qI Q) := by
  unfold fX11_isParamOf at h
  show mv l mX11_isParamOf d 0 0 [(0, .ref 62), (1, .int a0), (2, .int a1)] [] M (mv_qI Q)
  refine mv_aload_n 0 dX11_isParamOf_0 rfl ?_
  refine mv_iload_n 1 dX11_isParamOf_1 rfl ?_
  refine mv_cvI (As := [.int a0]) (st := []) okX11_isFn lX11_357 (by decide) rfl rfl rfl (Nat.le_of_ble_eq_true rfl) rfl (Nat.le_of_ble_eq_true rfl) dX11_isParamOf_2 (by omega) rfl (zX11_isFn (d := d - 1) (by omega) a0 M (mv_bindE h)) (fun r1 M2 h => ?_)
  refine mv_if_eq 38 dX11_isParamOf_5 (by decide) (fun z => ?_) (fun z => ?_)
  · replace h := mv_ifT z h
    refine mv_iconst 0 dX11_isParamOf_38 (by decide) ?_
    exact mv_zret (by decide) rfl dX11_isParamOf_39 ⟨_, rfl, h⟩
  · replace h := mv_ifF z h
    refine mv_iload_n 2 dX11_isParamOf_8 rfl ?_
    refine mv_i2l dX11_isParamOf_9 ?_
    refine mv_lconst 0 dX11_isParamOf_10 (by decide) ?_
    refine mv_aload_n 0 dX11_isParamOf_11 rfl ?_
    refine mv_getR 66 fX11_24 (by decide) rfl rfl rfl dX11_isParamOf_12 ?_
    refine mv_bipush 12 dX11_isParamOf_15 (by decide) ?_
    refine mv_aload_n 0 dX11_isParamOf_17 rfl ?_
    refine mv_getI fX11_345 (by decide) rfl rfl dX11_isParamOf_18 ?_
    refine mv_imul dX11_isParamOf_21 ?_
    refine mv_iload_n 1 dX11_isParamOf_22 rfl ?_
    refine mv_iadd dX11_isParamOf_23 ?_
    obtain ⟨hi3, h⟩ := mv_chkE h
    refine mv_ild (by decide) rfl (mv_inE hi3) dX11_isParamOf_24 ?_
    refine mv_iconst 1 dX11_isParamOf_25 (by decide) ?_
    refine mv_isub dX11_isParamOf_26 ?_
    refine mv_i2l dX11_isParamOf_27 ?_
    refine mv_csI (As := [.long (a1.toInt64), .long 0, .long (((M2.1 66 ((12 * (M2.1 62 47)) + a0).toNatClampNeg) - 1).toInt64)]) (st := []) okX11_within lX11_154 rfl (Nat.le_of_ble_eq_true rfl) rfl (Nat.le_of_ble_eq_true rfl) dX11_isParamOf_28 (by omega) rfl (zX11_within (d := d - 1) (by omega) (a1.toInt64) 0 (((M2.1 66 ((12 * (M2.1 62 47)) + a0).toNatClampNeg) - 1).toInt64) M2 (mv_bindE h)) (fun r4 M5 h => ?_)
    refine mv_if_eq 38 dX11_isParamOf_31 (by decide) (fun z => ?_) (fun z => ?_)
    · replace h := mv_ifT z h
      refine mv_iconst 0 dX11_isParamOf_38 (by decide) ?_
      exact mv_zret (by decide) rfl dX11_isParamOf_39 ⟨_, rfl, h⟩
    · replace h := mv_ifF z h
      refine mv_iconst 1 dX11_isParamOf_34 (by decide) ?_
      refine mv_goto 39 dX11_isParamOf_35 (by decide) ?_
      exact mv_zret (by decide) rfl dX11_isParamOf_39 ⟨_, rfl, h⟩
theorem dX11_asks__0 : decode cX11_asks_ 0 = .ok (.aload_n 0, 1) := by decide +kernel
theorem dX11_asks__1 : decode cX11_asks_ 1 = .ok (.aload_n 0, 1) := by decide +kernel
theorem dX11_asks__2 : decode cX11_asks_ 2 = .ok (.getfield 354, 3) := by decide +kernel
theorem dX11_asks__5 : decode cX11_asks_ 5 = .ok (.ifCond .ne 7, 3) := by decide +kernel
theorem dX11_asks__8 : decode cX11_asks_ 8 = .ok (.iconst 1, 1) := by decide +kernel
theorem dX11_asks__9 : decode cX11_asks_ 9 = .ok (.goto 26, 3) := by decide +kernel
theorem dX11_asks__12 : decode cX11_asks_ 12 = .ok (.aload_n 0, 1) := by decide +kernel
theorem dX11_asks__13 : decode cX11_asks_ 13 = .ok (.iload_n 1, 1) := by decide +kernel
theorem dX11_asks__14 : decode cX11_asks_ 14 = .ok (.iload_n 2, 1) := by decide +kernel
theorem dX11_asks__15 : decode cX11_asks_ 15 = .ok (.invokevirtual 387, 3) := by decide +kernel
theorem dX11_asks__18 : decode cX11_asks_ 18 = .ok (.ifCond .eq 12, 3) := by decide +kernel
theorem dX11_asks__21 : decode cX11_asks_ 21 = .ok (.aload_n 0, 1) := by decide +kernel
theorem dX11_asks__22 : decode cX11_asks_ 22 = .ok (.iload_n 1, 1) := by decide +kernel
theorem dX11_asks__23 : decode cX11_asks_ 23 = .ok (.iload_n 3, 1) := by decide +kernel
theorem dX11_asks__24 : decode cX11_asks_ 24 = .ok (.invokevirtual 390, 3) := by decide +kernel
theorem dX11_asks__27 : decode cX11_asks_ 27 = .ok (.ifCond .ne 7, 3) := by decide +kernel
theorem dX11_asks__30 : decode cX11_asks_ 30 = .ok (.iconst 2, 1) := by decide +kernel
theorem dX11_asks__31 : decode cX11_asks_ 31 = .ok (.goto 4, 3) := by decide +kernel
theorem dX11_asks__34 : decode cX11_asks_ 34 = .ok (.iconst 0, 1) := by decide +kernel
theorem dX11_asks__35 : decode cX11_asks_ 35 = .ok (.putfield 148, 3) := by decide +kernel
theorem dX11_asks__38 : decode cX11_asks_ 38 = .ok (.aload_n 0, 1) := by decide +kernel
theorem dX11_asks__39 : decode cX11_asks_ 39 = .ok (.getfield 148, 3) := by decide +kernel
theorem dX11_asks__42 : decode cX11_asks_ 42 = .ok (.ifCond .le 7, 3) := by decide +kernel
theorem dX11_asks__45 : decode cX11_asks_ 45 = .ok (.iconst 0, 1) := by decide +kernel
theorem dX11_asks__46 : decode cX11_asks_ 46 = .ok (.goto 10, 3) := by decide +kernel
theorem dX11_asks__49 : decode cX11_asks_ 49 = .ok (.aload_n 0, 1) := by decide +kernel
theorem dX11_asks__50 : decode cX11_asks_ 50 = .ok (.iload_n 1, 1) := by decide +kernel
theorem dX11_asks__51 : decode cX11_asks_ 51 = .ok (.iload_n 2, 1) := by decide +kernel
theorem dX11_asks__52 : decode cX11_asks_ 52 = .ok (.iload_n 3, 1) := by decide +kernel
theorem dX11_asks__53 : decode cX11_asks_ 53 = .ok (.invokevirtual 393, 3) := by decide +kernel
theorem dX11_asks__56 : decode cX11_asks_ 56 = .ok (.ireturn, 1) := by decide +kernel
noncomputable def fX11_asks__35 (x1 : Int32) (x2 : Int32) (x3 : Int32) (s0 : Int32) (M : mv_M) : Option (Int32 × mv_M) :=
  mv_let (mv_si M 62 0 s0) fun M5 =>
  if (M5.1 62 0) ≤ 0 then
    mv_bind (fX11_has x1 x2 x3 M5) fun r6 M7 =>
    some (r6, M7)
  else
    some (0, M5)
set_option maxRecDepth 100000 in
set_option maxHeartbeats 4000000 in
theorem zX11_asks__35 {l : Launch} {d : Nat} {Q : Int32 → mv_M → Prop} (hd : 3 ≤ d) (x1 : Int32) (x2 : Int32) (x3 : Int32) (s0 : Int32) (M : mv_M) (h : mv_ok (fX11_asks__35 x1 x2 x3 s0 M) Q) : mv l mX11_asks_ d 0 35 [(0, .ref 62), (1, .int x1), (2, .int x2), (3, .int x3)] [.int s0, .ref 62] M (mv_qI Q) := by
  unfold fX11_asks__35 at h
  refine mv_putI fX11_148 (by decide) rfl rfl dX11_asks__35 (fun M5 eM5 => ?_)
  replace h := mv_letE h M5 eM5
  refine mv_aload_n 0 dX11_asks__38 rfl ?_
  refine mv_getI fX11_148 (by decide) rfl rfl dX11_asks__39 ?_
  refine mv_if_le 49 dX11_asks__42 (by decide) (fun z => ?_) (fun z => ?_)
  · replace h := mv_ifT z h
    refine mv_aload_n 0 dX11_asks__49 rfl ?_
    refine mv_iload_n 1 dX11_asks__50 rfl ?_
    refine mv_iload_n 2 dX11_asks__51 rfl ?_
    refine mv_iload_n 3 dX11_asks__52 rfl ?_
    refine mv_cvI (As := [.int x1, .int x2, .int x3]) (st := []) okX11_has lX11_393 (by decide) rfl rfl rfl (Nat.le_of_ble_eq_true rfl) rfl (Nat.le_of_ble_eq_true rfl) dX11_asks__53 (by omega) rfl (zX11_has (d := d - 1) (by omega) x1 x2 x3 M5 (mv_bindE h)) (fun r6 M7 h => ?_)
    exact mv_iret rfl dX11_asks__56 ⟨_, rfl, h⟩
  · replace h := mv_ifF z h
    refine mv_iconst 0 dX11_asks__45 (by decide) ?_
    refine mv_goto 56 dX11_asks__46 (by decide) ?_
    exact mv_iret rfl dX11_asks__56 ⟨_, rfl, h⟩
noncomputable def fX11_asks__30 (x1 : Int32) (x2 : Int32) (x3 : Int32) (M : mv_M) : Option (Int32 × mv_M) :=
  fX11_asks__35 x1 x2 x3 2 M
set_option maxRecDepth 100000 in
set_option maxHeartbeats 4000000 in
theorem zX11_asks__30 {l : Launch} {d : Nat} {Q : Int32 → mv_M → Prop} (hd : 3 ≤ d) (x1 : Int32) (x2 : Int32) (x3 : Int32) (M : mv_M) (h : mv_ok (fX11_asks__30 x1 x2 x3 M) Q) : mv l mX11_asks_ d 0 30 [(0, .ref 62), (1, .int x1), (2, .int x2), (3, .int x3)] [.ref 62] M (mv_qI Q) := by
  unfold fX11_asks__30 at h
  refine mv_iconst 2 dX11_asks__30 (by decide) ?_
  refine mv_goto 35 dX11_asks__31 (by decide) ?_
  refine mv_sub [0, 1, 2, 3] rfl ?_
  exact zX11_asks__35 hd x1 x2 x3 2 M h
noncomputable def fX11_asks_ (a0 : Int32) (a1 : Int32) (a2 : Int32) (M : mv_M) : Option (Int32 × mv_M) :=
  if (M.1 62 46) = 0 then
    fX11_asks__35 a0 a1 a2 1 M
  else
    mv_bind (fX11_isRowThere a0 a1 M) fun r1 M2 =>
    if r1 = 0 then
      fX11_asks__30 a0 a1 a2 M2
    else
      mv_bind (fX11_isParamOf a0 a2 M2) fun r3 M4 =>
      if r3 = 0 then
        fX11_asks__30 a0 a1 a2 M4
      else
        fX11_asks__35 a0 a1 a2 0 M4
set_option maxRecDepth 100000 in
set_option maxHeartbeats 4000000 in
theorem zX11_asks_ {l : Launch} {d : Nat} {Q : Int32 → mv_M → Prop} (hd : 3 ≤ d) (a0 : Int32) (a1 : Int32) (a2 : Int32) (M : mv_M) (h : mv_ok (fX11_asks_ a0 a1 a2 M) Q) : mv l mX11_asks_ d 0 0 (lv_args 0 [.ref 62, .int a0, .int a1, .int a2]) [] M (mv_qI Q) := by
  unfold fX11_asks_ at h
  show mv l mX11_asks_ d 0 0 [(0, .ref 62), (1, .int a0), (2, .int a1), (3, .int a2)] [] M (mv_qI Q)
  refine mv_aload_n 0 dX11_asks__0 rfl ?_
  refine mv_aload_n 0 dX11_asks__1 rfl ?_
  refine mv_getI fX11_354 (by decide) rfl rfl dX11_asks__2 ?_
  refine mv_if_ne 12 dX11_asks__5 (by decide) (fun z => ?_) (fun z => ?_)
  · replace h := mv_ifF z h
    refine mv_aload_n 0 dX11_asks__12 rfl ?_
    refine mv_iload_n 1 dX11_asks__13 rfl ?_
    refine mv_iload_n 2 dX11_asks__14 rfl ?_
    refine mv_cvI (As := [.int a0, .int a1]) (st := [.ref 62]) okX11_isRowThere lX11_387 (by decide) rfl rfl rfl (Nat.le_of_ble_eq_true rfl) rfl (Nat.le_of_ble_eq_true rfl) dX11_asks__15 (by omega) rfl (zX11_isRowThere (d := d - 1) (by omega) a0 a1 M (mv_bindE h)) (fun r1 M2 h => ?_)
    refine mv_if_eq 30 dX11_asks__18 (by decide) (fun z => ?_) (fun z => ?_)
    · replace h := mv_ifT z h
      refine mv_sub [0, 1, 2, 3] rfl ?_
      exact zX11_asks__30 hd a0 a1 a2 M2 h
    · replace h := mv_ifF z h
      refine mv_aload_n 0 dX11_asks__21 rfl ?_
      refine mv_iload_n 1 dX11_asks__22 rfl ?_
      refine mv_iload_n 3 dX11_asks__23 rfl ?_
      refine mv_cvI (As := [.int a0, .int a2]) (st := [.ref 62]) okX11_isParamOf lX11_390 (by decide) rfl rfl rfl (Nat.le_of_ble_eq_true rfl) rfl (Nat.le_of_ble_eq_true rfl) dX11_asks__24 (by omega) rfl (zX11_isParamOf (d := d - 1) (by omega) a0 a2 M2 (mv_bindE h)) (fun r3 M4 h => ?_)
      refine mv_if_ne 34 dX11_asks__27 (by decide) (fun z => ?_) (fun z => ?_)
      · replace h := mv_ifF z h
        refine mv_iconst 0 dX11_asks__34 (by decide) ?_
        refine mv_sub [0, 1, 2, 3] rfl ?_
        exact zX11_asks__35 hd a0 a1 a2 0 M4 h
      · replace h := mv_ifT z h
        refine mv_sub [0, 1, 2, 3] rfl ?_
        exact zX11_asks__30 hd a0 a1 a2 M4 h
  · replace h := mv_ifT z h
    refine mv_iconst 1 dX11_asks__8 (by decide) ?_
    refine mv_goto 35 dX11_asks__9 (by decide) ?_
    refine mv_sub [0, 1, 2, 3] rfl ?_
    exact zX11_asks__35 hd a0 a1 a2 1 M h
theorem dX11_strict_0 : decode cX11_strict 0 = .ok (.aload_n 0, 1) := by decide +kernel
theorem dX11_strict_1 : decode cX11_strict 1 = .ok (.aload_n 0, 1) := by decide +kernel
theorem dX11_strict_2 : decode cX11_strict 2 = .ok (.getfield 354, 3) := by decide +kernel
theorem dX11_strict_5 : decode cX11_strict 5 = .ok (.ifCond .ne 7, 3) := by decide +kernel
theorem dX11_strict_8 : decode cX11_strict 8 = .ok (.iconst 1, 1) := by decide +kernel
theorem dX11_strict_9 : decode cX11_strict 9 = .ok (.goto 17, 3) := by decide +kernel
theorem dX11_strict_12 : decode cX11_strict 12 = .ok (.aload_n 0, 1) := by decide +kernel
theorem dX11_strict_13 : decode cX11_strict 13 = .ok (.iload_n 1, 1) := by decide +kernel
theorem dX11_strict_14 : decode cX11_strict 14 = .ok (.iload_n 2, 1) := by decide +kernel
theorem dX11_strict_15 : decode cX11_strict 15 = .ok (.invokevirtual 390, 3) := by decide +kernel
theorem dX11_strict_18 : decode cX11_strict 18 = .ok (.ifCond .ne 7, 3) := by decide +kernel
theorem dX11_strict_21 : decode cX11_strict 21 = .ok (.iconst 2, 1) := by decide +kernel
theorem dX11_strict_22 : decode cX11_strict 22 = .ok (.goto 4, 3) := by decide +kernel
theorem dX11_strict_25 : decode cX11_strict 25 = .ok (.iconst 0, 1) := by decide +kernel
theorem dX11_strict_26 : decode cX11_strict 26 = .ok (.putfield 148, 3) := by decide +kernel
theorem dX11_strict_29 : decode cX11_strict 29 = .ok (.aload_n 0, 1) := by decide +kernel
theorem dX11_strict_30 : decode cX11_strict 30 = .ok (.getfield 148, 3) := by decide +kernel
theorem dX11_strict_33 : decode cX11_strict 33 = .ok (.ifCond .ne 17, 3) := by decide +kernel
theorem dX11_strict_36 : decode cX11_strict 36 = .ok (.aload_n 0, 1) := by decide +kernel
theorem dX11_strict_37 : decode cX11_strict 37 = .ok (.iload_n 1, 1) := by decide +kernel
theorem dX11_strict_38 : decode cX11_strict 38 = .ok (.iconst 1, 1) := by decide +kernel
theorem dX11_strict_39 : decode cX11_strict 39 = .ok (.iload_n 2, 1) := by decide +kernel
theorem dX11_strict_40 : decode cX11_strict 40 = .ok (.invokevirtual 393, 3) := by decide +kernel
theorem dX11_strict_43 : decode cX11_strict 43 = .ok (.ifCond .le 7, 3) := by decide +kernel
theorem dX11_strict_46 : decode cX11_strict 46 = .ok (.iconst 1, 1) := by decide +kernel
theorem dX11_strict_47 : decode cX11_strict 47 = .ok (.goto 4, 3) := by decide +kernel
theorem dX11_strict_50 : decode cX11_strict 50 = .ok (.iconst 0, 1) := by decide +kernel
theorem dX11_strict_51 : decode cX11_strict 51 = .ok (.ireturn, 1) := by decide +kernel
noncomputable def fX11_strict_26 (x1 : Int32) (x2 : Int32) (s0 : Int32) (M : mv_M) : Option (Int32 × mv_M) :=
  mv_let (mv_si M 62 0 s0) fun M3 =>
  if (M3.1 62 0) = 0 then
    mv_bind (fX11_has x1 1 x2 M3) fun r4 M5 =>
    if r4 ≤ 0 then
      some (0, M5)
    else
      some (1, M5)
  else
    some (0, M3)
set_option maxRecDepth 100000 in
set_option maxHeartbeats 4000000 in
theorem zX11_strict_26 {l : Launch} {d : Nat} {Q : Int32 → mv_M → Prop} (hd : 3 ≤ d) (x1 : Int32) (x2 : Int32) (s0 : Int32) (M : mv_M) (h : mv_ok (fX11_strict_26 x1 x2 s0 M) Q) : mv l mX11_strict d 0 26 [(0, .ref 62), (1, .int x1), (2, .int x2)] [.int s0, .ref 62] M (mv_qI Q) := by
  unfold fX11_strict_26 at h
  refine mv_putI fX11_148 (by decide) rfl rfl dX11_strict_26 (fun M3 eM3 => ?_)
  replace h := mv_letE h M3 eM3
  refine mv_aload_n 0 dX11_strict_29 rfl ?_
  refine mv_getI fX11_148 (by decide) rfl rfl dX11_strict_30 ?_
  refine mv_if_ne 50 dX11_strict_33 (by decide) (fun z => ?_) (fun z => ?_)
  · replace h := mv_ifF z h
    refine mv_iconst 0 dX11_strict_50 (by decide) ?_
    exact mv_zret (by decide) rfl dX11_strict_51 ⟨_, rfl, h⟩
  · replace h := mv_ifT z h
    refine mv_aload_n 0 dX11_strict_36 rfl ?_
    refine mv_iload_n 1 dX11_strict_37 rfl ?_
    refine mv_iconst 1 dX11_strict_38 (by decide) ?_
    refine mv_iload_n 2 dX11_strict_39 rfl ?_
    refine mv_cvI (As := [.int x1, .int 1, .int x2]) (st := []) okX11_has lX11_393 (by decide) rfl rfl rfl (Nat.le_of_ble_eq_true rfl) rfl (Nat.le_of_ble_eq_true rfl) dX11_strict_40 (by omega) rfl (zX11_has (d := d - 1) (by omega) x1 1 x2 M3 (mv_bindE h)) (fun r4 M5 h => ?_)
    refine mv_if_le 50 dX11_strict_43 (by decide) (fun z => ?_) (fun z => ?_)
    · replace h := mv_ifT z h
      refine mv_iconst 0 dX11_strict_50 (by decide) ?_
      exact mv_zret (by decide) rfl dX11_strict_51 ⟨_, rfl, h⟩
    · replace h := mv_ifF z h
      refine mv_iconst 1 dX11_strict_46 (by decide) ?_
      refine mv_goto 51 dX11_strict_47 (by decide) ?_
      exact mv_zret (by decide) rfl dX11_strict_51 ⟨_, rfl, h⟩
noncomputable def fX11_strict (a0 : Int32) (a1 : Int32) (M : mv_M) : Option (Int32 × mv_M) :=
  if (M.1 62 46) = 0 then
    fX11_strict_26 a0 a1 1 M
  else
    mv_bind (fX11_isParamOf a0 a1 M) fun r1 M2 =>
    if r1 = 0 then
      fX11_strict_26 a0 a1 2 M2
    else
      fX11_strict_26 a0 a1 0 M2
set_option maxRecDepth 100000 in
set_option maxHeartbeats 4000000 in
theorem zX11_strict {l : Launch} {d : Nat} {Q : Int32 → mv_M → Prop} (hd : 3 ≤ d) (a0 : Int32) (a1 : Int32) (M : mv_M) (h : mv_ok (fX11_strict a0 a1 M) Q) : mv l mX11_strict d 0 0 (lv_args 0 [.ref 62, .int a0, .int a1]) [] M (mv_qI Q) := by
  unfold fX11_strict at h
  show mv l mX11_strict d 0 0 [(0, .ref 62), (1, .int a0), (2, .int a1)] [] M (mv_qI Q)
  refine mv_aload_n 0 dX11_strict_0 rfl ?_
  refine mv_aload_n 0 dX11_strict_1 rfl ?_
  refine mv_getI fX11_354 (by decide) rfl rfl dX11_strict_2 ?_
  refine mv_if_ne 12 dX11_strict_5 (by decide) (fun z => ?_) (fun z => ?_)
  · replace h := mv_ifF z h
    refine mv_aload_n 0 dX11_strict_12 rfl ?_
    refine mv_iload_n 1 dX11_strict_13 rfl ?_
    refine mv_iload_n 2 dX11_strict_14 rfl ?_
    refine mv_cvI (As := [.int a0, .int a1]) (st := [.ref 62]) okX11_isParamOf lX11_390 (by decide) rfl rfl rfl (Nat.le_of_ble_eq_true rfl) rfl (Nat.le_of_ble_eq_true rfl) dX11_strict_15 (by omega) rfl (zX11_isParamOf (d := d - 1) (by omega) a0 a1 M (mv_bindE h)) (fun r1 M2 h => ?_)
    refine mv_if_ne 25 dX11_strict_18 (by decide) (fun z => ?_) (fun z => ?_)
    · replace h := mv_ifF z h
      refine mv_iconst 0 dX11_strict_25 (by decide) ?_
      refine mv_sub [0, 1, 2] rfl ?_
      exact zX11_strict_26 hd a0 a1 0 M2 h
    · replace h := mv_ifT z h
      refine mv_iconst 2 dX11_strict_21 (by decide) ?_
      refine mv_goto 26 dX11_strict_22 (by decide) ?_
      refine mv_sub [0, 1, 2] rfl ?_
      exact zX11_strict_26 hd a0 a1 2 M2 h
  · replace h := mv_ifT z h
    refine mv_iconst 1 dX11_strict_8 (by decide) ?_
    refine mv_goto 26 dX11_strict_9 (by decide) ?_
    refine mv_sub [0, 1, 2] rfl ?_
    exact zX11_strict_26 hd a0 a1 1 M h
theorem dX11_plant_0 : decode cX11_plant 0 = .ok (.aload_n 0, 1) := by decide +kernel
theorem dX11_plant_1 : decode cX11_plant 1 = .ok (.aload_n 0, 1) := by decide +kernel
theorem dX11_plant_2 : decode cX11_plant 2 = .ok (.getfield 354, 3) := by decide +kernel
theorem dX11_plant_5 : decode cX11_plant 5 = .ok (.ifCond .ne 7, 3) := by decide +kernel
theorem dX11_plant_8 : decode cX11_plant 8 = .ok (.iconst 1, 1) := by decide +kernel
theorem dX11_plant_9 : decode cX11_plant 9 = .ok (.goto 47, 3) := by decide +kernel
theorem dX11_plant_12 : decode cX11_plant 12 = .ok (.aload_n 0, 1) := by decide +kernel
theorem dX11_plant_13 : decode cX11_plant 13 = .ok (.iload_n 1, 1) := by decide +kernel
theorem dX11_plant_14 : decode cX11_plant 14 = .ok (.iload_n 2, 1) := by decide +kernel
theorem dX11_plant_15 : decode cX11_plant 15 = .ok (.invokevirtual 387, 3) := by decide +kernel
theorem dX11_plant_18 : decode cX11_plant 18 = .ok (.ifCond .eq 12, 3) := by decide +kernel
theorem dX11_plant_21 : decode cX11_plant 21 = .ok (.aload_n 0, 1) := by decide +kernel
theorem dX11_plant_22 : decode cX11_plant 22 = .ok (.iload_n 1, 1) := by decide +kernel
theorem dX11_plant_23 : decode cX11_plant 23 = .ok (.iload_n 3, 1) := by decide +kernel
theorem dX11_plant_24 : decode cX11_plant 24 = .ok (.invokevirtual 390, 3) := by decide +kernel
theorem dX11_plant_27 : decode cX11_plant 27 = .ok (.ifCond .ne 7, 3) := by decide +kernel
theorem dX11_plant_30 : decode cX11_plant 30 = .ok (.iconst 2, 1) := by decide +kernel
theorem dX11_plant_31 : decode cX11_plant 31 = .ok (.goto 25, 3) := by decide +kernel
theorem dX11_plant_34 : decode cX11_plant 34 = .ok (.iload 4, 2) := by decide +kernel
theorem dX11_plant_36 : decode cX11_plant 36 = .ok (.i2l, 1) := by decide +kernel
theorem dX11_plant_37 : decode cX11_plant 37 = .ok (.lconst 0, 1) := by decide +kernel
theorem dX11_plant_38 : decode cX11_plant 38 = .ok (.aload_n 0, 1) := by decide +kernel
theorem dX11_plant_39 : decode cX11_plant 39 = .ok (.iload_n 1, 1) := by decide +kernel
theorem dX11_plant_40 : decode cX11_plant 40 = .ok (.iload_n 3, 1) := by decide +kernel
theorem dX11_plant_41 : decode cX11_plant 41 = .ok (.invokevirtual 384, 3) := by decide +kernel
theorem dX11_plant_44 : decode cX11_plant 44 = .ok (.i2l, 1) := by decide +kernel
theorem dX11_plant_45 : decode cX11_plant 45 = .ok (.invokestatic 154, 3) := by decide +kernel
theorem dX11_plant_48 : decode cX11_plant 48 = .ok (.ifCond .ne 7, 3) := by decide +kernel
theorem dX11_plant_51 : decode cX11_plant 51 = .ok (.iconst 3, 1) := by decide +kernel
theorem dX11_plant_52 : decode cX11_plant 52 = .ok (.goto 4, 3) := by decide +kernel
theorem dX11_plant_55 : decode cX11_plant 55 = .ok (.iconst 0, 1) := by decide +kernel
theorem dX11_plant_56 : decode cX11_plant 56 = .ok (.putfield 148, 3) := by decide +kernel
theorem dX11_plant_59 : decode cX11_plant 59 = .ok (.aload_n 0, 1) := by decide +kernel
theorem dX11_plant_60 : decode cX11_plant 60 = .ok (.getfield 148, 3) := by decide +kernel
theorem dX11_plant_63 : decode cX11_plant 63 = .ok (.ifCond .le 5, 3) := by decide +kernel
theorem dX11_plant_66 : decode cX11_plant 66 = .ok (.iconst 0, 1) := by decide +kernel
theorem dX11_plant_67 : decode cX11_plant 67 = .ok (.ireturn, 1) := by decide +kernel
theorem dX11_plant_68 : decode cX11_plant 68 = .ok (.bipush 26, 2) := by decide +kernel
theorem dX11_plant_70 : decode cX11_plant 70 = .ok (.iload_n 1, 1) := by decide +kernel
theorem dX11_plant_71 : decode cX11_plant 71 = .ok (.imul, 1) := by decide +kernel
theorem dX11_plant_72 : decode cX11_plant 72 = .ok (.iload_n 2, 1) := by decide +kernel
theorem dX11_plant_73 : decode cX11_plant 73 = .ok (.iadd, 1) := by decide +kernel
theorem dX11_plant_74 : decode cX11_plant 74 = .ok (.istore 5, 2) := by decide +kernel
theorem dX11_plant_76 : decode cX11_plant 76 = .ok (.aload_n 0, 1) := by decide +kernel
theorem dX11_plant_77 : decode cX11_plant 77 = .ok (.iload_n 1, 1) := by decide +kernel
theorem dX11_plant_78 : decode cX11_plant 78 = .ok (.iload_n 2, 1) := by decide +kernel
theorem dX11_plant_79 : decode cX11_plant 79 = .ok (.iload_n 3, 1) := by decide +kernel
theorem dX11_plant_80 : decode cX11_plant 80 = .ok (.invokevirtual 393, 3) := by decide +kernel
theorem dX11_plant_83 : decode cX11_plant 83 = .ok (.istore 6, 2) := by decide +kernel
theorem dX11_plant_85 : decode cX11_plant 85 = .ok (.iconst 0, 1) := by decide +kernel
theorem dX11_plant_86 : decode cX11_plant 86 = .ok (.istore 7, 2) := by decide +kernel
theorem dX11_plant_88 : decode cX11_plant 88 = .ok (.iload 7, 2) := by decide +kernel
theorem dX11_plant_90 : decode cX11_plant 90 = .ok (.aload_n 0, 1) := by decide +kernel
theorem dX11_plant_91 : decode cX11_plant 91 = .ok (.getfield 24, 3) := by decide +kernel
theorem dX11_plant_94 : decode cX11_plant 94 = .ok (.bipush 12, 2) := by decide +kernel
theorem dX11_plant_96 : decode cX11_plant 96 = .ok (.aload_n 0, 1) := by decide +kernel
theorem dX11_plant_97 : decode cX11_plant 97 = .ok (.getfield 345, 3) := by decide +kernel
theorem dX11_plant_100 : decode cX11_plant 100 = .ok (.imul, 1) := by decide +kernel
theorem dX11_plant_101 : decode cX11_plant 101 = .ok (.iload_n 1, 1) := by decide +kernel
theorem dX11_plant_102 : decode cX11_plant 102 = .ok (.iadd, 1) := by decide +kernel
theorem dX11_plant_103 : decode cX11_plant 103 = .ok (.iaload, 1) := by decide +kernel
theorem dX11_plant_104 : decode cX11_plant 104 = .ok (.if_icmp .ge 29, 3) := by decide +kernel
theorem dX11_plant_107 : decode cX11_plant 107 = .ok (.aload_n 0, 1) := by decide +kernel
theorem dX11_plant_108 : decode cX11_plant 108 = .ok (.getfield 97, 3) := by decide +kernel
theorem dX11_plant_111 : decode cX11_plant 111 = .ok (.iconst 4, 1) := by decide +kernel
theorem dX11_plant_112 : decode cX11_plant 112 = .ok (.iload 5, 2) := by decide +kernel
theorem dX11_plant_114 : decode cX11_plant 114 = .ok (.imul, 1) := by decide +kernel
theorem dX11_plant_115 : decode cX11_plant 115 = .ok (.iload 7, 2) := by decide +kernel
theorem dX11_plant_117 : decode cX11_plant 117 = .ok (.iadd, 1) := by decide +kernel
theorem dX11_plant_118 : decode cX11_plant 118 = .ok (.aload_n 0, 1) := by decide +kernel
theorem dX11_plant_119 : decode cX11_plant 119 = .ok (.iload_n 1, 1) := by decide +kernel
theorem dX11_plant_120 : decode cX11_plant 120 = .ok (.iload_n 2, 1) := by decide +kernel
theorem dX11_plant_121 : decode cX11_plant 121 = .ok (.iload 7, 2) := by decide +kernel
theorem dX11_plant_123 : decode cX11_plant 123 = .ok (.invokevirtual 393, 3) := by decide +kernel
theorem dX11_plant_126 : decode cX11_plant 126 = .ok (.iastore, 1) := by decide +kernel
theorem dX11_plant_127 : decode cX11_plant 127 = .ok (.iinc 7 1, 3) := by decide +kernel
theorem dX11_plant_130 : decode cX11_plant 130 = .ok (.goto (-42), 3) := by decide +kernel
theorem dX11_plant_133 : decode cX11_plant 133 = .ok (.aload_n 0, 1) := by decide +kernel
theorem dX11_plant_134 : decode cX11_plant 134 = .ok (.getfield 100, 3) := by decide +kernel
theorem dX11_plant_137 : decode cX11_plant 137 = .ok (.iload 5, 2) := by decide +kernel
theorem dX11_plant_139 : decode cX11_plant 139 = .ok (.iconst 0, 1) := by decide +kernel
theorem dX11_plant_140 : decode cX11_plant 140 = .ok (.bastore, 1) := by decide +kernel
theorem dX11_plant_141 : decode cX11_plant 141 = .ok (.aload_n 0, 1) := by decide +kernel
theorem dX11_plant_142 : decode cX11_plant 142 = .ok (.getfield 97, 3) := by decide +kernel
theorem dX11_plant_145 : decode cX11_plant 145 = .ok (.iconst 4, 1) := by decide +kernel
theorem dX11_plant_146 : decode cX11_plant 146 = .ok (.iload 5, 2) := by decide +kernel
theorem dX11_plant_148 : decode cX11_plant 148 = .ok (.imul, 1) := by decide +kernel
theorem dX11_plant_149 : decode cX11_plant 149 = .ok (.iload_n 3, 1) := by decide +kernel
theorem dX11_plant_150 : decode cX11_plant 150 = .ok (.iadd, 1) := by decide +kernel
theorem dX11_plant_151 : decode cX11_plant 151 = .ok (.iload 4, 2) := by decide +kernel
theorem dX11_plant_153 : decode cX11_plant 153 = .ok (.iastore, 1) := by decide +kernel
theorem dX11_plant_154 : decode cX11_plant 154 = .ok (.iload 6, 2) := by decide +kernel
theorem dX11_plant_156 : decode cX11_plant 156 = .ok (.ireturn, 1) := by decide +kernel
noncomputable def gX11_plant_88 (x1 : Int32) (x2 : Int32) (x3 : Int32) (x4 : Int32) (x5 : Int32) (x6 : Int32) (x7 : Int32) (M : mv_M) : Option (((Int32 × Int32 × Int32 × Int32 × Int32 × Int32 × Int32) ⊕ Int32) × mv_M) :=
  mv_chk (mv_inb ((12 * (M.1 62 47)) + x1) 24) <|
  if (M.1 66 ((12 * (M.1 62 47)) + x1).toNatClampNeg) ≤ x7 then
    mv_chk (mv_inb x5 312) <|
    mv_let (mv_si M 91 x5.toNatClampNeg (vp_nar .boolean 0)) fun M15 =>
    mv_chk (mv_inb ((4 * x5) + x3) 1248) <|
    mv_let (mv_si M15 90 ((4 * x5) + x3).toNatClampNeg x4) fun M17 =>
    some (.inr (x6), M17)
  else
    mv_bind (fX11_has x1 x2 x7 M) fun r18 M19 =>
    mv_chk (mv_inb ((4 * x5) + x7) 1248) <|
    mv_let (mv_si M19 90 ((4 * x5) + x7).toNatClampNeg r18) fun M21 =>
    mv_let (x7 + 1) fun v22 =>
    some (.inl (x1, x2, x3, x4, x5, x6, v22), M21)
noncomputable def fX11_plant_88 (x1 : Int32) (x2 : Int32) (x3 : Int32) (x4 : Int32) (x5 : Int32) (x6 : Int32) (x7 : Int32) (M : mv_M) : Option (Int32 × mv_M) := mv_loop (fun (s : Int32 × Int32 × Int32 × Int32 × Int32 × Int32 × Int32) M => gX11_plant_88 s.1 s.2.1 s.2.2.1 s.2.2.2.1 s.2.2.2.2.1 s.2.2.2.2.2.1 s.2.2.2.2.2.2 M) (x1, x2, x3, x4, x5, x6, x7) M
set_option maxRecDepth 100000 in
set_option maxHeartbeats 4000000 in
theorem zX11_plant_88 {l : Launch} {d : Nat} {Q : Int32 → mv_M → Prop} (hd : 3 ≤ d) (x1 : Int32) (x2 : Int32) (x3 : Int32) (x4 : Int32) (x5 : Int32) (x6 : Int32) (x7 : Int32) (M : mv_M) (h : mv_ok (fX11_plant_88 x1 x2 x3 x4 x5 x6 x7 M) Q) : mv l mX11_plant d 0 88 [(0, .ref 62), (1, .int x1), (2, .int x2), (3, .int x3), (4, .int x4), (5, .int x5), (6, .int x6), (7, .int x7)] [] M (mv_qI Q) := by
  unfold fX11_plant_88 at h
  refine mv_loopE (A := (fun (s : Int32 × Int32 × Int32 × Int32 × Int32 × Int32 × Int32) M => mv l mX11_plant d 0 88 [(0, .ref 62), (1, .int s.1), (2, .int s.2.1), (3, .int s.2.2.1), (4, .int s.2.2.2.1), (5, .int s.2.2.2.2.1), (6, .int s.2.2.2.2.2.1), (7, .int s.2.2.2.2.2.2)] [] M (mv_qI Q))) ?_ (x1, x2, x3, x4, x5, x6, x7) M h
  · rintro ⟨x1, x2, x3, x4, x5, x6, x7⟩ M h
    try dsimp only at h
    show mv l mX11_plant d 0 88 [(0, .ref 62), (1, .int x1), (2, .int x2), (3, .int x3), (4, .int x4), (5, .int x5), (6, .int x6), (7, .int x7)] [] M (mv_qI Q)
    unfold gX11_plant_88 at h
    refine mv_iload 7 dX11_plant_88 rfl ?_
    refine mv_aload_n 0 dX11_plant_90 rfl ?_
    refine mv_getR 66 fX11_24 (by decide) rfl rfl rfl dX11_plant_91 ?_
    refine mv_bipush 12 dX11_plant_94 (by decide) ?_
    refine mv_aload_n 0 dX11_plant_96 rfl ?_
    refine mv_getI fX11_345 (by decide) rfl rfl dX11_plant_97 ?_
    refine mv_imul dX11_plant_100 ?_
    refine mv_iload_n 1 dX11_plant_101 rfl ?_
    refine mv_iadd dX11_plant_102 ?_
    obtain ⟨hi13, h⟩ := mv_chkE h
    refine mv_ild (by decide) rfl (mv_inE hi13) dX11_plant_103 ?_
    refine mv_icmp_ge 133 dX11_plant_104 (by decide) (fun z => ?_) (fun z => ?_)
    · replace h := mv_ifT z h
      refine mv_aload_n 0 dX11_plant_133 rfl ?_
      refine mv_getR 91 fX11_100 (by decide) rfl rfl rfl dX11_plant_134 ?_
      refine mv_iload 5 dX11_plant_137 rfl ?_
      refine mv_iconst 0 dX11_plant_139 (by decide) ?_
      obtain ⟨hi14, h⟩ := mv_chkE h
      refine mv_zst (by decide) rfl (mv_inE hi14) dX11_plant_140 (fun M15 eM15 => ?_)
      replace h := mv_letE h M15 eM15
      refine mv_aload_n 0 dX11_plant_141 rfl ?_
      refine mv_getR 90 fX11_97 (by decide) rfl rfl rfl dX11_plant_142 ?_
      refine mv_iconst 4 dX11_plant_145 (by decide) ?_
      refine mv_iload 5 dX11_plant_146 rfl ?_
      refine mv_imul dX11_plant_148 ?_
      refine mv_iload_n 3 dX11_plant_149 rfl ?_
      refine mv_iadd dX11_plant_150 ?_
      refine mv_iload 4 dX11_plant_151 rfl ?_
      obtain ⟨hi16, h⟩ := mv_chkE h
      refine mv_ist (by decide) rfl (mv_inE hi16) dX11_plant_153 (fun M17 eM17 => ?_)
      replace h := mv_letE h M17 eM17
      refine mv_iload 6 dX11_plant_154 rfl ?_
      exact mv_iret rfl dX11_plant_156 ⟨_, rfl, h⟩
    · replace h := mv_ifF z h
      refine mv_aload_n 0 dX11_plant_107 rfl ?_
      refine mv_getR 90 fX11_97 (by decide) rfl rfl rfl dX11_plant_108 ?_
      refine mv_iconst 4 dX11_plant_111 (by decide) ?_
      refine mv_iload 5 dX11_plant_112 rfl ?_
      refine mv_imul dX11_plant_114 ?_
      refine mv_iload 7 dX11_plant_115 rfl ?_
      refine mv_iadd dX11_plant_117 ?_
      refine mv_aload_n 0 dX11_plant_118 rfl ?_
      refine mv_iload_n 1 dX11_plant_119 rfl ?_
      refine mv_iload_n 2 dX11_plant_120 rfl ?_
      refine mv_iload 7 dX11_plant_121 rfl ?_
      refine mv_cvI (As := [.int x1, .int x2, .int x7]) (st := [.int ((4 * x5) + x7), .ref 90]) okX11_has lX11_393 (by decide) rfl rfl rfl (Nat.le_of_ble_eq_true rfl) rfl (Nat.le_of_ble_eq_true rfl) dX11_plant_123 (by omega) rfl (zX11_has (d := d - 1) (by omega) x1 x2 x7 M (mv_bindE h)) (fun r18 M19 h => ?_)
      obtain ⟨hi20, h⟩ := mv_chkE h
      refine mv_ist (by decide) rfl (mv_inE hi20) dX11_plant_126 (fun M21 eM21 => ?_)
      replace h := mv_letE h M21 eM21
      obtain ⟨v22, ev22⟩ : ∃ z : Int32, z = x7 + 1 := ⟨_, rfl⟩
      replace h := mv_letE h v22 ev22
      refine mv_iinc v22 7 [(7, .int v22), (0, .ref 62), (1, .int x1), (2, .int x2), (3, .int x3), (4, .int x4), (5, .int x5), (6, .int x6)] dX11_plant_127 rfl (by rw [ev22]; rfl) (by decide) rfl ?_
      refine mv_goto 88 dX11_plant_130 (by decide) ?_
      refine mv_sub [1, 2, 3, 4, 5, 6, 7, 0] rfl ?_
      exact h
noncomputable def fX11_plant_56 (x1 : Int32) (x2 : Int32) (x3 : Int32) (x4 : Int32) (s0 : Int32) (M : mv_M) : Option (Int32 × mv_M) :=
  mv_let (mv_si M 62 0 s0) fun M9 =>
  if (M9.1 62 0) ≤ 0 then
    mv_let ((26 * x1) + x2) fun v10 =>
    mv_bind (fX11_has x1 x2 x3 M9) fun r11 M12 =>
    fX11_plant_88 x1 x2 x3 x4 v10 r11 0 M12
  else
    some (0, M9)
set_option maxRecDepth 100000 in
set_option maxHeartbeats 4000000 in
theorem zX11_plant_56 {l : Launch} {d : Nat} {Q : Int32 → mv_M → Prop} (hd : 3 ≤ d) (x1 : Int32) (x2 : Int32) (x3 : Int32) (x4 : Int32) (s0 : Int32) (M : mv_M) (h : mv_ok (fX11_plant_56 x1 x2 x3 x4 s0 M) Q) : mv l mX11_plant d 0 56 [(0, .ref 62), (1, .int x1), (2, .int x2), (3, .int x3), (4, .int x4)] [.int s0, .ref 62] M (mv_qI Q) := by
  unfold fX11_plant_56 at h
  refine mv_putI fX11_148 (by decide) rfl rfl dX11_plant_56 (fun M9 eM9 => ?_)
  replace h := mv_letE h M9 eM9
  refine mv_aload_n 0 dX11_plant_59 rfl ?_
  refine mv_getI fX11_148 (by decide) rfl rfl dX11_plant_60 ?_
  refine mv_if_le 68 dX11_plant_63 (by decide) (fun z => ?_) (fun z => ?_)
  · replace h := mv_ifT z h
    refine mv_bipush 26 dX11_plant_68 (by decide) ?_
    refine mv_iload_n 1 dX11_plant_70 rfl ?_
    refine mv_imul dX11_plant_71 ?_
    refine mv_iload_n 2 dX11_plant_72 rfl ?_
    refine mv_iadd dX11_plant_73 ?_
    refine mv_topi (fun v10 ev10 => ?_)
    replace h := mv_letE h v10 ev10
    refine mv_istore [(5, .int v10), (0, .ref 62), (1, .int x1), (2, .int x2), (3, .int x3), (4, .int x4)] dX11_plant_74 (by decide) rfl ?_
    refine mv_aload_n 1 dX11_plant_76 rfl ?_
    refine mv_iload_n 2 dX11_plant_77 rfl ?_
    refine mv_iload_n 3 dX11_plant_78 rfl ?_
    refine mv_iload_n 4 dX11_plant_79 rfl ?_
    refine mv_cvI (As := [.int x1, .int x2, .int x3]) (st := []) okX11_has lX11_393 (by decide) rfl rfl rfl (Nat.le_of_ble_eq_true rfl) rfl (Nat.le_of_ble_eq_true rfl) dX11_plant_80 (by omega) rfl (zX11_has (d := d - 1) (by omega) x1 x2 x3 M9 (mv_bindE h)) (fun r11 M12 h => ?_)
    refine mv_istore [(6, .int r11), (5, .int v10), (0, .ref 62), (1, .int x1), (2, .int x2), (3, .int x3), (4, .int x4)] dX11_plant_83 (by decide) rfl ?_
    refine mv_iconst 0 dX11_plant_85 (by decide) ?_
    refine mv_istore [(7, .int 0), (6, .int r11), (5, .int v10), (0, .ref 62), (1, .int x1), (2, .int x2), (3, .int x3), (4, .int x4)] dX11_plant_86 (by decide) rfl ?_
    refine mv_sub [3, 4, 5, 6, 7, 2, 1, 0] rfl ?_
    exact zX11_plant_88 hd x1 x2 x3 x4 v10 r11 0 M12 h
  · replace h := mv_ifF z h
    refine mv_iconst 0 dX11_plant_66 (by decide) ?_
    exact mv_iret rfl dX11_plant_67 ⟨_, rfl, h⟩
noncomputable def fX11_plant_30 (x1 : Int32) (x2 : Int32) (x3 : Int32) (x4 : Int32) (M : mv_M) : Option (Int32 × mv_M) :=
  fX11_plant_56 x1 x2 x3 x4 2 M
set_option maxRecDepth 100000 in
set_option maxHeartbeats 4000000 in
theorem zX11_plant_30 {l : Launch} {d : Nat} {Q : Int32 → mv_M → Prop} (hd : 3 ≤ d) (x1 : Int32) (x2 : Int32) (x3 : Int32) (x4 : Int32) (M : mv_M) (h : mv_ok (fX11_plant_30 x1 x2 x3 x4 M) Q) : mv l mX11_plant d 0 30 [(0, .ref 62), (1, .int x1), (2, .int x2), (3, .int x3), (4, .int x4)] [.ref 62] M (mv_qI Q) := by
  unfold fX11_plant_30 at h
  refine mv_iconst 2 dX11_plant_30 (by decide) ?_
  refine mv_goto 56 dX11_plant_31 (by decide) ?_
  refine mv_sub [0, 1, 2, 3, 4] rfl ?_
  exact zX11_plant_56 hd x1 x2 x3 x4 2 M h
noncomputable def fX11_plant (a0 : Int32) (a1 : Int32) (a2 : Int32) (a3 : Int32) (M : mv_M) : Option (Int32 × mv_M) :=
  if (M.1 62 46) = 0 then
    fX11_plant_56 a0 a1 a2 a3 1 M
  else
    mv_bind (fX11_isRowThere a0 a1 M) fun r1 M2 =>
    if r1 = 0 then
      fX11_plant_30 a0 a1 a2 a3 M2
    else
      mv_bind (fX11_isParamOf a0 a2 M2) fun r3 M4 =>
      if r3 = 0 then
        fX11_plant_30 a0 a1 a2 a3 M4
      else
        mv_bind (fX11_all a0 a2 M4) fun r5 M6 =>
        mv_bind (fX11_within (a3.toInt64) 0 (r5.toInt64) M6) fun r7 M8 =>
        if r7 = 0 then
          fX11_plant_56 a0 a1 a2 a3 3 M8
        else
          fX11_plant_56 a0 a1 a2 a3 0 M8
set_option maxRecDepth 100000 in
set_option maxHeartbeats 4000000 in
theorem zX11_plant {l : Launch} {d : Nat} {Q : Int32 → mv_M → Prop} (hd : 3 ≤ d) (a0 : Int32) (a1 : Int32) (a2 : Int32) (a3 : Int32) (M : mv_M) (h : mv_ok (fX11_plant a0 a1 a2 a3 M) Q) : mv l mX11_plant d 0 0 (lv_args 0 [.ref 62, .int a0, .int a1, .int a2, .int a3]) [] M (mv_qI Q) := by
  unfold fX11_plant at h
  show mv l mX11_plant d 0 0 [(0, .ref 62), (1, .int a0), (2, .int a1), (3, .int a2), (4, .int a3)] [] M (mv_qI Q)
  refine mv_aload_n 0 dX11_plant_0 rfl ?_
  refine mv_aload_n 0 dX11_plant_1 rfl ?_
  refine mv_getI fX11_354 (by decide) rfl rfl dX11_plant_2 ?_
  refine mv_if_ne 12 dX11_plant_5 (by decide) (fun z => ?_) (fun z => ?_)
  · replace h := mv_ifF z h
    refine mv_aload_n 0 dX11_plant_12 rfl ?_
    refine mv_iload_n 1 dX11_plant_13 rfl ?_
    refine mv_iload_n 2 dX11_plant_14 rfl ?_
    refine mv_cvI (As := [.int a0, .int a1]) (st := [.ref 62]) okX11_isRowThere lX11_387 (by decide) rfl rfl rfl (Nat.le_of_ble_eq_true rfl) rfl (Nat.le_of_ble_eq_true rfl) dX11_plant_15 (by omega) rfl (zX11_isRowThere (d := d - 1) (by omega) a0 a1 M (mv_bindE h)) (fun r1 M2 h => ?_)
    refine mv_if_eq 30 dX11_plant_18 (by decide) (fun z => ?_) (fun z => ?_)
    · replace h := mv_ifT z h
      refine mv_sub [0, 1, 2, 3, 4] rfl ?_
      exact zX11_plant_30 hd a0 a1 a2 a3 M2 h
    · replace h := mv_ifF z h
      refine mv_aload_n 0 dX11_plant_21 rfl ?_
      refine mv_iload_n 1 dX11_plant_22 rfl ?_
      refine mv_iload_n 3 dX11_plant_23 rfl ?_
      refine mv_cvI (As := [.int a0, .int a2]) (st := [.ref 62]) okX11_isParamOf lX11_390 (by decide) rfl rfl rfl (Nat.le_of_ble_eq_true rfl) rfl (Nat.le_of_ble_eq_true rfl) dX11_plant_24 (by omega) rfl (zX11_isParamOf (d := d - 1) (by omega) a0 a2 M2 (mv_bindE h)) (fun r3 M4 h => ?_)
      refine mv_if_ne 34 dX11_plant_27 (by decide) (fun z => ?_) (fun z => ?_)
      · replace h := mv_ifF z h
        refine mv_iload 4 dX11_plant_34 rfl ?_
        refine mv_i2l dX11_plant_36 ?_
        refine mv_lconst 0 dX11_plant_37 (by decide) ?_
        refine mv_aload_n 0 dX11_plant_38 rfl ?_
        refine mv_iload_n 1 dX11_plant_39 rfl ?_
        refine mv_iload_n 3 dX11_plant_40 rfl ?_
        refine mv_cvI (As := [.int a0, .int a2]) (st := [.long 0, .long (a3.toInt64), .ref 62]) okX11_all lX11_384 (by decide) rfl rfl rfl (Nat.le_of_ble_eq_true rfl) rfl (Nat.le_of_ble_eq_true rfl) dX11_plant_41 (by omega) rfl (zX11_all (d := d - 1) (by omega) a0 a2 M4 (mv_bindE h)) (fun r5 M6 h => ?_)
        refine mv_i2l dX11_plant_44 ?_
        refine mv_csI (As := [.long (a3.toInt64), .long 0, .long (r5.toInt64)]) (st := [.ref 62]) okX11_within lX11_154 rfl (Nat.le_of_ble_eq_true rfl) rfl (Nat.le_of_ble_eq_true rfl) dX11_plant_45 (by omega) rfl (zX11_within (d := d - 1) (by omega) (a3.toInt64) 0 (r5.toInt64) M6 (mv_bindE h)) (fun r7 M8 h => ?_)
        refine mv_if_ne 55 dX11_plant_48 (by decide) (fun z => ?_) (fun z => ?_)
        · replace h := mv_ifF z h
          refine mv_iconst 0 dX11_plant_55 (by decide) ?_
          refine mv_sub [0, 1, 2, 3, 4] rfl ?_
          exact zX11_plant_56 hd a0 a1 a2 a3 0 M8 h
        · replace h := mv_ifT z h
          refine mv_iconst 3 dX11_plant_51 (by decide) ?_
          refine mv_goto 56 dX11_plant_52 (by decide) ?_
          refine mv_sub [0, 1, 2, 3, 4] rfl ?_
          exact zX11_plant_56 hd a0 a1 a2 a3 3 M8 h
      · replace h := mv_ifT z h
        refine mv_sub [0, 1, 2, 3, 4] rfl ?_
        exact zX11_plant_30 hd a0 a1 a2 a3 M4 h
  · replace h := mv_ifT z h
    refine mv_iconst 1 dX11_plant_8 (by decide) ?_
    refine mv_goto 56 dX11_plant_9 (by decide) ?_
    refine mv_sub [0, 1, 2, 3, 4] rfl ?_
    exact zX11_plant_56 hd a0 a1 a2 a3 1 M h
theorem dX11_tellsTooMuch_0 : decode cX11_tellsTooMuch 0 = .ok (.aload_n 0, 1) := by decide +kernel
theorem dX11_tellsTooMuch_1 : decode cX11_tellsTooMuch 1 = .ok (.bipush 12, 2) := by decide +kernel
theorem dX11_tellsTooMuch_3 : decode cX11_tellsTooMuch 3 = .ok (.aload_n 0, 1) := by decide +kernel
theorem dX11_tellsTooMuch_4 : decode cX11_tellsTooMuch 4 = .ok (.getfield 345, 3) := by decide +kernel
theorem dX11_tellsTooMuch_7 : decode cX11_tellsTooMuch 7 = .ok (.imul, 1) := by decide +kernel
theorem dX11_tellsTooMuch_8 : decode cX11_tellsTooMuch 8 = .ok (.iload_n 1, 1) := by decide +kernel
theorem dX11_tellsTooMuch_9 : decode cX11_tellsTooMuch 9 = .ok (.iadd, 1) := by decide +kernel
theorem dX11_tellsTooMuch_10 : decode cX11_tellsTooMuch 10 = .ok (.putfield 239, 3) := by decide +kernel
theorem dX11_tellsTooMuch_13 : decode cX11_tellsTooMuch 13 = .ok (.aload_n 0, 1) := by decide +kernel
theorem dX11_tellsTooMuch_14 : decode cX11_tellsTooMuch 14 = .ok (.aload_n 0, 1) := by decide +kernel
theorem dX11_tellsTooMuch_15 : decode cX11_tellsTooMuch 15 = .ok (.getfield 30, 3) := by decide +kernel
theorem dX11_tellsTooMuch_18 : decode cX11_tellsTooMuch 18 = .ok (.aload_n 0, 1) := by decide +kernel
theorem dX11_tellsTooMuch_19 : decode cX11_tellsTooMuch 19 = .ok (.getfield 239, 3) := by decide +kernel
theorem dX11_tellsTooMuch_22 : decode cX11_tellsTooMuch 22 = .ok (.iaload, 1) := by decide +kernel
theorem dX11_tellsTooMuch_23 : decode cX11_tellsTooMuch 23 = .ok (.iload_n 2, 1) := by decide +kernel
theorem dX11_tellsTooMuch_24 : decode cX11_tellsTooMuch 24 = .ok (.invokevirtual 377, 3) := by decide +kernel
theorem dX11_tellsTooMuch_27 : decode cX11_tellsTooMuch 27 = .ok (.istore_n 3, 1) := by decide +kernel
theorem dX11_tellsTooMuch_28 : decode cX11_tellsTooMuch 28 = .ok (.aload_n 0, 1) := by decide +kernel
theorem dX11_tellsTooMuch_29 : decode cX11_tellsTooMuch 29 = .ok (.getfield 100, 3) := by decide +kernel
theorem dX11_tellsTooMuch_32 : decode cX11_tellsTooMuch 32 = .ok (.bipush 26, 2) := by decide +kernel
theorem dX11_tellsTooMuch_34 : decode cX11_tellsTooMuch 34 = .ok (.iload_n 1, 1) := by decide +kernel
theorem dX11_tellsTooMuch_35 : decode cX11_tellsTooMuch 35 = .ok (.imul, 1) := by decide +kernel
theorem dX11_tellsTooMuch_36 : decode cX11_tellsTooMuch 36 = .ok (.iload_n 2, 1) := by decide +kernel
theorem dX11_tellsTooMuch_37 : decode cX11_tellsTooMuch 37 = .ok (.iadd, 1) := by decide +kernel
theorem dX11_tellsTooMuch_38 : decode cX11_tellsTooMuch 38 = .ok (.baload, 1) := by decide +kernel
theorem dX11_tellsTooMuch_39 : decode cX11_tellsTooMuch 39 = .ok (.ifCond .eq 13, 3) := by decide +kernel
theorem dX11_tellsTooMuch_42 : decode cX11_tellsTooMuch 42 = .ok (.iload_n 3, 1) := by decide +kernel
theorem dX11_tellsTooMuch_43 : decode cX11_tellsTooMuch 43 = .ok (.ifCond .ne 7, 3) := by decide +kernel
theorem dX11_tellsTooMuch_46 : decode cX11_tellsTooMuch 46 = .ok (.iconst 1, 1) := by decide +kernel
theorem dX11_tellsTooMuch_47 : decode cX11_tellsTooMuch 47 = .ok (.goto 4, 3) := by decide +kernel
theorem dX11_tellsTooMuch_50 : decode cX11_tellsTooMuch 50 = .ok (.iconst 0, 1) := by decide +kernel
theorem dX11_tellsTooMuch_51 : decode cX11_tellsTooMuch 51 = .ok (.ireturn, 1) := by decide +kernel
theorem dX11_tellsTooMuch_52 : decode cX11_tellsTooMuch 52 = .ok (.iconst 0, 1) := by decide +kernel
theorem dX11_tellsTooMuch_53 : decode cX11_tellsTooMuch 53 = .ok (.istore 4, 2) := by decide +kernel
theorem dX11_tellsTooMuch_55 : decode cX11_tellsTooMuch 55 = .ok (.iconst 0, 1) := by decide +kernel
theorem dX11_tellsTooMuch_56 : decode cX11_tellsTooMuch 56 = .ok (.istore 5, 2) := by decide +kernel
theorem dX11_tellsTooMuch_58 : decode cX11_tellsTooMuch 58 = .ok (.iload 5, 2) := by decide +kernel
theorem dX11_tellsTooMuch_60 : decode cX11_tellsTooMuch 60 = .ok (.aload_n 0, 1) := by decide +kernel
theorem dX11_tellsTooMuch_61 : decode cX11_tellsTooMuch 61 = .ok (.getfield 24, 3) := by decide +kernel
theorem dX11_tellsTooMuch_64 : decode cX11_tellsTooMuch 64 = .ok (.aload_n 0, 1) := by decide +kernel
theorem dX11_tellsTooMuch_65 : decode cX11_tellsTooMuch 65 = .ok (.getfield 239, 3) := by decide +kernel
theorem dX11_tellsTooMuch_68 : decode cX11_tellsTooMuch 68 = .ok (.iaload, 1) := by decide +kernel
theorem dX11_tellsTooMuch_69 : decode cX11_tellsTooMuch 69 = .ok (.if_icmp .ge 78, 3) := by decide +kernel
theorem dX11_tellsTooMuch_72 : decode cX11_tellsTooMuch 72 = .ok (.aload_n 0, 1) := by decide +kernel
theorem dX11_tellsTooMuch_73 : decode cX11_tellsTooMuch 73 = .ok (.iload_n 1, 1) := by decide +kernel
theorem dX11_tellsTooMuch_74 : decode cX11_tellsTooMuch 74 = .ok (.iload_n 2, 1) := by decide +kernel
theorem dX11_tellsTooMuch_75 : decode cX11_tellsTooMuch 75 = .ok (.iload 5, 2) := by decide +kernel
theorem dX11_tellsTooMuch_77 : decode cX11_tellsTooMuch 77 = .ok (.invokevirtual 393, 3) := by decide +kernel
theorem dX11_tellsTooMuch_80 : decode cX11_tellsTooMuch 80 = .ok (.istore 6, 2) := by decide +kernel
theorem dX11_tellsTooMuch_82 : decode cX11_tellsTooMuch 82 = .ok (.iload 4, 2) := by decide +kernel
theorem dX11_tellsTooMuch_84 : decode cX11_tellsTooMuch 84 = .ok (.ifCond .ne 50, 3) := by decide +kernel
theorem dX11_tellsTooMuch_87 : decode cX11_tellsTooMuch 87 = .ok (.aload_n 0, 1) := by decide +kernel
theorem dX11_tellsTooMuch_88 : decode cX11_tellsTooMuch 88 = .ok (.getfield 36, 3) := by decide +kernel
theorem dX11_tellsTooMuch_91 : decode cX11_tellsTooMuch 91 = .ok (.bipush 16, 2) := by decide +kernel
theorem dX11_tellsTooMuch_93 : decode cX11_tellsTooMuch 93 = .ok (.aload_n 0, 1) := by decide +kernel
theorem dX11_tellsTooMuch_94 : decode cX11_tellsTooMuch 94 = .ok (.getfield 239, 3) := by decide +kernel
theorem dX11_tellsTooMuch_97 : decode cX11_tellsTooMuch 97 = .ok (.imul, 1) := by decide +kernel
theorem dX11_tellsTooMuch_98 : decode cX11_tellsTooMuch 98 = .ok (.iload 5, 2) := by decide +kernel
theorem dX11_tellsTooMuch_100 : decode cX11_tellsTooMuch 100 = .ok (.iadd, 1) := by decide +kernel
theorem dX11_tellsTooMuch_101 : decode cX11_tellsTooMuch 101 = .ok (.iaload, 1) := by decide +kernel
theorem dX11_tellsTooMuch_102 : decode cX11_tellsTooMuch 102 = .ok (.iload 6, 2) := by decide +kernel
theorem dX11_tellsTooMuch_104 : decode cX11_tellsTooMuch 104 = .ok (.iload_n 3, 1) := by decide +kernel
theorem dX11_tellsTooMuch_105 : decode cX11_tellsTooMuch 105 = .ok (.ifCond .eq 13, 3) := by decide +kernel
theorem dX11_tellsTooMuch_108 : decode cX11_tellsTooMuch 108 = .ok (.aload_n 0, 1) := by decide +kernel
theorem dX11_tellsTooMuch_109 : decode cX11_tellsTooMuch 109 = .ok (.iload_n 1, 1) := by decide +kernel
theorem dX11_tellsTooMuch_110 : decode cX11_tellsTooMuch 110 = .ok (.iload 5, 2) := by decide +kernel
theorem dX11_tellsTooMuch_112 : decode cX11_tellsTooMuch 112 = .ok (.invokevirtual 384, 3) := by decide +kernel
theorem dX11_tellsTooMuch_115 : decode cX11_tellsTooMuch 115 = .ok (.goto 10, 3) := by decide +kernel
theorem dX11_tellsTooMuch_118 : decode cX11_tellsTooMuch 118 = .ok (.aload_n 0, 1) := by decide +kernel
theorem dX11_tellsTooMuch_119 : decode cX11_tellsTooMuch 119 = .ok (.getfield 90, 3) := by decide +kernel
theorem dX11_tellsTooMuch_122 : decode cX11_tellsTooMuch 122 = .ok (.iload 5, 2) := by decide +kernel
theorem dX11_tellsTooMuch_124 : decode cX11_tellsTooMuch 124 = .ok (.iaload, 1) := by decide +kernel
theorem dX11_tellsTooMuch_125 : decode cX11_tellsTooMuch 125 = .ok (.iconst 0, 1) := by decide +kernel
theorem dX11_tellsTooMuch_126 : decode cX11_tellsTooMuch 126 = .ok (.invokestatic 360, 3) := by decide +kernel
theorem dX11_tellsTooMuch_129 : decode cX11_tellsTooMuch 129 = .ok (.iload 6, 2) := by decide +kernel
theorem dX11_tellsTooMuch_131 : decode cX11_tellsTooMuch 131 = .ok (.if_icmp .eq 7, 3) := by decide +kernel
theorem dX11_tellsTooMuch_134 : decode cX11_tellsTooMuch 134 = .ok (.iconst 1, 1) := by decide +kernel
theorem dX11_tellsTooMuch_135 : decode cX11_tellsTooMuch 135 = .ok (.goto 4, 3) := by decide +kernel
theorem dX11_tellsTooMuch_138 : decode cX11_tellsTooMuch 138 = .ok (.iconst 0, 1) := by decide +kernel
theorem dX11_tellsTooMuch_139 : decode cX11_tellsTooMuch 139 = .ok (.istore 4, 2) := by decide +kernel
theorem dX11_tellsTooMuch_141 : decode cX11_tellsTooMuch 141 = .ok (.iinc 5 1, 3) := by decide +kernel
theorem dX11_tellsTooMuch_144 : decode cX11_tellsTooMuch 144 = .ok (.goto (-86), 3) := by decide +kernel
theorem dX11_tellsTooMuch_147 : decode cX11_tellsTooMuch 147 = .ok (.iload 4, 2) := by decide +kernel
theorem dX11_tellsTooMuch_149 : decode cX11_tellsTooMuch 149 = .ok (.ireturn, 1) := by decide +kernel
noncomputable def fX11_tellsTooMuch_139 (x1 : Int32) (x2 : Int32) (x3 : Int32) (x5 : Int32) (s0 : Int32) (M : mv_M) : Option (((Int32 × Int32 × Int32 × Int32 × Int32) ⊕ Int32) × mv_M) :=
  mv_let (x5 + 1) fun v16 =>
  some (.inl (x1, x2, x3, s0, v16), M)
set_option maxRecDepth 100000 in
set_option maxHeartbeats 4000000 in
theorem zX11_tellsTooMuch_139 {l : Launch} {d : Nat} {Q : Int32 → mv_M → Prop} (hd : 5 ≤ d) (x1 : Int32) (x2 : Int32) (x3 : Int32) (x5 : Int32) (s0 : Int32) (M : mv_M) (h : mv_ok (fX11_tellsTooMuch_139 x1 x2 x3 x5 s0 M) (mv_pq (fun (s : Int32 × Int32 × Int32 × Int32 × Int32) M => mv l mX11_tellsTooMuch d 0 58 [(0, .ref 62), (1, .int s.1), (2, .int s.2.1), (3, .int s.2.2.1), (4, .int s.2.2.2.1), (5, .int s.2.2.2.2)] [] M (mv_qI Q)) Q)) : mv l mX11_tellsTooMuch d 0 139 [(0, .ref 62), (1, .int x1), (2, .int x2), (3, .int x3), (5, .int x5)] [.int s0] M (mv_qI Q) := by
  unfold fX11_tellsTooMuch_139 at h
  refine mv_istore [(4, .int s0), (0, .ref 62), (1, .int x1), (2, .int x2), (3, .int x3), (5, .int x5)] dX11_tellsTooMuch_139 (by decide) rfl ?_
  obtain ⟨v16, ev16⟩ : ∃ z : Int32, z = x5 + 1 := ⟨_, rfl⟩
  replace h := mv_letE h v16 ev16
  refine mv_iinc v16 5 [(5, .int v16), (4, .int s0), (0, .ref 62), (1, .int x1), (2, .int x2), (3, .int x3)] dX11_tellsTooMuch_141 rfl (by rw [ev16]; rfl) (by decide) rfl ?_
  refine mv_goto 58 dX11_tellsTooMuch_144 (by decide) ?_
  refine mv_sub [2, 3, 4, 5, 1, 0] rfl ?_
  exact h
noncomputable def fX11_tellsTooMuch_134 (x1 : Int32) (x2 : Int32) (x3 : Int32) (x5 : Int32) (M : mv_M) : Option (((Int32 × Int32 × Int32 × Int32 × Int32) ⊕ Int32) × mv_M) :=
  fX11_tellsTooMuch_139 x1 x2 x3 x5 1 M
set_option maxRecDepth 100000 in
set_option maxHeartbeats 4000000 in
theorem zX11_tellsTooMuch_134 {l : Launch} {d : Nat} {Q : Int32 → mv_M → Prop} (hd : 5 ≤ d) (x1 : Int32) (x2 : Int32) (x3 : Int32) (x5 : Int32) (M : mv_M) (h : mv_ok (fX11_tellsTooMuch_134 x1 x2 x3 x5 M) (mv_pq (fun (s : Int32 × Int32 × Int32 × Int32 × Int32) M => mv l mX11_tellsTooMuch d 0 58 [(0, .ref 62), (1, .int s.1), (2, .int s.2.1), (3, .int s.2.2.1), (4, .int s.2.2.2.1), (5, .int s.2.2.2.2)] [] M (mv_qI Q)) Q)) : mv l mX11_tellsTooMuch d 0 134 [(0, .ref 62), (1, .int x1), (2, .int x2), (3, .int x3), (5, .int x5)] [] M (mv_qI Q) := by
  unfold fX11_tellsTooMuch_134 at h
  refine mv_iconst 1 dX11_tellsTooMuch_134 (by decide) ?_
  refine mv_goto 139 dX11_tellsTooMuch_135 (by decide) ?_
  refine mv_sub [0, 1, 2, 3, 4] rfl ?_
  exact zX11_tellsTooMuch_139 hd x1 x2 x3 x5 1 M h
noncomputable def fX11_tellsTooMuch_125 (x1 : Int32) (x2 : Int32) (x3 : Int32) (x5 : Int32) (x6 : Int32) (s0 : Int32) (s1 : Int32) (s2 : Int32) (M : mv_M) : Option (((Int32 × Int32 × Int32 × Int32 × Int32) ⊕ Int32) × mv_M) :=
  mv_bind (fX11_joined s2 s1 s0 0 M) fun r14 M15 =>
  if r14 = x6 then
    fX11_tellsTooMuch_139 x1 x2 x3 x5 0 M15
  else
    fX11_tellsTooMuch_134 x1 x2 x3 x5 M15
set_option maxRecDepth 100000 in
set_option maxHeartbeats 4000000 in
theorem zX11_tellsTooMuch_125 {l : Launch} {d : Nat} {Q : Int32 → mv_M → Prop} (hd : 5 ≤ d) (x1 : Int32) (x2 : Int32) (x3 : Int32) (x5 : Int32) (x6 : Int32) (s0 : Int32) (s1 : Int32) (s2 : Int32) (M : mv_M) (h : mv_ok (fX11_tellsTooMuch_125 x1 x2 x3 x5 x6 s0 s1 s2 M) (mv_pq (fun (s : Int32 × Int32 × Int32 × Int32 × Int32) M => mv l mX11_tellsTooMuch d 0 58 [(0, .ref 62), (1, .int s.1), (2, .int s.2.1), (3, .int s.2.2.1), (4, .int s.2.2.2.1), (5, .int s.2.2.2.2)] [] M (mv_qI Q)) Q)) : mv l mX11_tellsTooMuch d 0 125 [(0, .ref 62), (1, .int x1), (2, .int x2), (3, .int x3), (5, .int x5), (6, .int x6)] [.int s0, .int s1, .int s2] M (mv_qI Q) := by
  unfold fX11_tellsTooMuch_125 at h
  refine mv_iconst 0 dX11_tellsTooMuch_125 (by decide) ?_
  refine mv_csI (As := [.int s2, .int s1, .int s0, .int 0]) (st := []) okX11_joined lX11_360 rfl (Nat.le_of_ble_eq_true rfl) rfl (Nat.le_of_ble_eq_true rfl) dX11_tellsTooMuch_126 (by omega) rfl (zX11_joined (d := d - 1) (by omega) s2 s1 s0 0 M (mv_bindE h)) (fun r14 M15 h => ?_)
  refine mv_iload 5 dX11_tellsTooMuch_129 rfl ?_
  refine mv_icmp_eq 138 dX11_tellsTooMuch_131 (by decide) (fun z => ?_) (fun z => ?_)
  · replace h := mv_ifT z h
    refine mv_iconst 0 dX11_tellsTooMuch_138 (by decide) ?_
    refine mv_sub [0, 1, 2, 3, 4] rfl ?_
    exact zX11_tellsTooMuch_139 hd x1 x2 x3 x5 0 M15 h
  · replace h := mv_ifF z h
    refine mv_sub [0, 1, 2, 3, 4] rfl ?_
    exact zX11_tellsTooMuch_134 hd x1 x2 x3 x5 M15 h
noncomputable def gX11_tellsTooMuch_58 (x1 : Int32) (x2 : Int32) (x3 : Int32) (x4 : Int32) (x5 : Int32) (M : mv_M) : Option (((Int32 × Int32 × Int32 × Int32 × Int32) ⊕ Int32) × mv_M) :=
  mv_chk (mv_inb (M.1 62 33) 24) <|
  if (M.1 66 (M.1 62 33).toNatClampNeg) ≤ x5 then
    mv_chk (mv_bt x4) <|
    some (.inr (x4), M)
  else
    mv_bind (fX11_has x1 x2 x5 M) fun r8 M9 =>
    if x4 = 0 then
      mv_chk (mv_inb ((16 * (M9.1 62 33)) + x5) 384) <|
      if x3 = 0 then
        mv_chk (mv_inb x5 8000) <|
        fX11_tellsTooMuch_125 x1 x2 x3 x5 r8 (M9.1 88 x5.toNatClampNeg) r8 (M9.1 70 ((16 * (M9.1 62 33)) + x5).toNatClampNeg) M9
      else
        mv_bind (fX11_all x1 x5 M9) fun r12 M13 =>
        fX11_tellsTooMuch_125 x1 x2 x3 x5 r8 r12 r8 (M9.1 70 ((16 * (M9.1 62 33)) + x5).toNatClampNeg) M13
    else
      fX11_tellsTooMuch_134 x1 x2 x3 x5 M9
noncomputable def fX11_tellsTooMuch_58 (x1 : Int32) (x2 : Int32) (x3 : Int32) (x4 : Int32) (x5 : Int32) (M : mv_M) : Option (Int32 × mv_M) := mv_loop (fun (s : Int32 × Int32 × Int32 × Int32 × Int32) M => gX11_tellsTooMuch_58 s.1 s.2.1 s.2.2.1 s.2.2.2.1 s.2.2.2.2 M) (x1, x2, x3, x4, x5) M
set_option maxRecDepth 100000 in
set_option maxHeartbeats 4000000 in
theorem zX11_tellsTooMuch_58 {l : Launch} {d : Nat} {Q : Int32 → mv_M → Prop} (hd : 5 ≤ d) (x1 : Int32) (x2 : Int32) (x3 : Int32) (x4 : Int32) (x5 : Int32) (M : mv_M) (h : mv_ok (fX11_tellsTooMuch_58 x1 x2 x3 x4 x5 M) Q) : mv l mX11_tellsTooMuch d 0 58 [(0, .ref 62), (1, .int x1), (2, .int x2), (3, .int x3), (4, .int x4), (5, .int x5)] [] M (mv_qI Q) := by
  unfold fX11_tellsTooMuch_58 at h
  refine mv_loopE (A := (fun (s : Int32 × Int32 × Int32 × Int32 × Int32) M => mv l mX11_tellsTooMuch d 0 58 [(0, .ref 62), (1, .int s.1), (2, .int s.2.1), (3, .int s.2.2.1), (4, .int s.2.2.2.1), (5, .int s.2.2.2.2)] [] M (mv_qI Q))) ?_ (x1, x2, x3, x4, x5) M h
  · rintro ⟨x1, x2, x3, x4, x5⟩ M h
    try dsimp only at h
    show mv l mX11_tellsTooMuch d 0 58 [(0, .ref 62), (1, .int x1), (2, .int x2), (3, .int x3), (4, .int x4), (5, .int x5)] [] M (mv_qI Q)
    unfold gX11_tellsTooMuch_58 at h
    refine mv_iload 5 dX11_tellsTooMuch_58 rfl ?_
    refine mv_aload_n 0 dX11_tellsTooMuch_60 rfl ?_
    refine mv_getR 66 fX11_24 (by decide) rfl rfl rfl dX11_tellsTooMuch_61 ?_
    refine mv_aload_n 0 dX11_tellsTooMuch_64 rfl ?_
    refine mv_getI fX11_239 (by decide) rfl rfl dX11_tellsTooMuch_65 ?_
    obtain ⟨hi6, h⟩ := mv_chkE h
    refine mv_ild (by decide) rfl (mv_inE hi6) dX11_tellsTooMuch_68 ?_
    refine mv_icmp_ge 147 dX11_tellsTooMuch_69 (by decide) (fun z => ?_) (fun z => ?_)
    · replace h := mv_ifT z h
      refine mv_iload 4 dX11_tellsTooMuch_147 rfl ?_
      obtain ⟨hz7, h⟩ := mv_chkE h
      exact mv_zret (mv_btE hz7) rfl dX11_tellsTooMuch_149 ⟨_, rfl, h⟩
    · replace h := mv_ifF z h
      refine mv_aload_n 0 dX11_tellsTooMuch_72 rfl ?_
      refine mv_iload_n 1 dX11_tellsTooMuch_73 rfl ?_
      refine mv_iload_n 2 dX11_tellsTooMuch_74 rfl ?_
      refine mv_iload 5 dX11_tellsTooMuch_75 rfl ?_
      refine mv_cvI (As := [.int x1, .int x2, .int x5]) (st := []) okX11_has lX11_393 (by decide) rfl rfl rfl (Nat.le_of_ble_eq_true rfl) rfl (Nat.le_of_ble_eq_true rfl) dX11_tellsTooMuch_77 (by omega) rfl (zX11_has (d := d - 1) (by omega) x1 x2 x5 M (mv_bindE h)) (fun r8 M9 h => ?_)
      refine mv_istore [(6, .int r8), (0, .ref 62), (1, .int x1), (2, .int x2), (3, .int x3), (4, .int x4), (5, .int x5)] dX11_tellsTooMuch_80 (by decide) rfl ?_
      refine mv_iload 5 dX11_tellsTooMuch_82 rfl ?_
      refine mv_if_ne 134 dX11_tellsTooMuch_84 (by decide) (fun z => ?_) (fun z => ?_)
      · replace h := mv_ifF z h
        refine mv_sub [1, 2, 3, 4, 6] rfl ?_
        exact zX11_tellsTooMuch_134 hd x1 x2 x3 x5 M9 h
      · replace h := mv_ifT z h
        refine mv_aload_n 1 dX11_tellsTooMuch_87 rfl ?_
        refine mv_getR 70 fX11_36 (by decide) rfl rfl rfl dX11_tellsTooMuch_88 ?_
        refine mv_bipush 16 dX11_tellsTooMuch_91 (by decide) ?_
        refine mv_aload_n 1 dX11_tellsTooMuch_93 rfl ?_
        refine mv_getI fX11_239 (by decide) rfl rfl dX11_tellsTooMuch_94 ?_
        refine mv_imul dX11_tellsTooMuch_97 ?_
        refine mv_iload 6 dX11_tellsTooMuch_98 rfl ?_
        refine mv_iadd dX11_tellsTooMuch_100 ?_
        obtain ⟨hi10, h⟩ := mv_chkE h
        refine mv_ild (by decide) rfl (mv_inE hi10) dX11_tellsTooMuch_101 ?_
        refine mv_iload 0 dX11_tellsTooMuch_102 rfl ?_
        refine mv_iload_n 4 dX11_tellsTooMuch_104 rfl ?_
        refine mv_if_eq 118 dX11_tellsTooMuch_105 (by decide) (fun z => ?_) (fun z => ?_)
        · replace h := mv_ifT z h
          refine mv_aload_n 1 dX11_tellsTooMuch_118 rfl ?_
          refine mv_getR 88 fX11_90 (by decide) rfl rfl rfl dX11_tellsTooMuch_119 ?_
          refine mv_iload 6 dX11_tellsTooMuch_122 rfl ?_
          obtain ⟨hi11, h⟩ := mv_chkE h
          refine mv_ild (by decide) rfl (mv_inE hi11) dX11_tellsTooMuch_124 ?_
          refine mv_sub [1, 2, 3, 4, 6, 0] rfl ?_
          exact zX11_tellsTooMuch_125 hd x1 x2 x3 x5 r8 (M9.1 88 x5.toNatClampNeg) r8 (M9.1 70 ((16 * (M9.1 62 33)) + x5).toNatClampNeg) M9 h
        · replace h := mv_ifF z h
          refine mv_aload_n 1 dX11_tellsTooMuch_108 rfl ?_
          refine mv_iload_n 2 dX11_tellsTooMuch_109 rfl ?_
          refine mv_iload 6 dX11_tellsTooMuch_110 rfl ?_
          refine mv_cvI (As := [.int x1, .int x5]) (st := [.int r8, .int (M9.1 70 ((16 * (M9.1 62 33)) + x5).toNatClampNeg)]) okX11_all lX11_384 (by decide) rfl rfl rfl (Nat.le_of_ble_eq_true rfl) rfl (Nat.le_of_ble_eq_true rfl) dX11_tellsTooMuch_112 (by omega) rfl (zX11_all (d := d - 1) (by omega) x1 x5 M9 (mv_bindE h)) (fun r12 M13 h => ?_)
          refine mv_goto 125 dX11_tellsTooMuch_115 (by decide) ?_
          refine mv_sub [1, 2, 3, 4, 6, 0] rfl ?_
          exact zX11_tellsTooMuch_125 hd x1 x2 x3 x5 r8 r12 r8 (M9.1 70 ((16 * (M9.1 62 33)) + x5).toNatClampNeg) M13 h
noncomputable def fX11_tellsTooMuch (a0 : Int32) (a1 : Int32) (M : mv_M) : Option (Int32 × mv_M) :=
  mv_let (mv_si M 62 33 ((12 * (M.1 62 47)) + a0)) fun M1 =>
  mv_chk (mv_inb (M1.1 62 33) 24) <|
  mv_bind (fX11_asks (M1.1 68 (M1.1 62 33).toNatClampNeg) a1 M1) fun r3 M4 =>
  mv_chk (mv_inb ((26 * a0) + a1) 312) <|
  if (M4.1 91 ((26 * a0) + a1).toNatClampNeg) = 0 then
    fX11_tellsTooMuch_58 a0 a1 r3 0 0 M4
  else
    if r3 = 0 then
      some (1, M4)
    else
      some (0, M4)
set_option maxRecDepth 100000 in
set_option maxHeartbeats 4000000 in
theorem zX11_tellsTooMuch {l : Launch} {d : Nat} {Q : Int32 → mv_M → Prop} (hd : 5 ≤ d) (a0 : Int32) (a1 : Int32) (M : mv_M) (h : mv_ok (fX11_tellsTooMuch a0 a1 M) Q) : mv l mX11_tellsTooMuch d 0 0 (lv_args 0 [.ref 62, .int a0, .int a1]) [] M (mv_qI Q) := by
  unfold fX11_tellsTooMuch at h
  show mv l mX11_tellsTooMuch d 0 0 [(0, .ref 62), (1, .int a0), (2, .int a1)] [] M (mv_qI Q)
  refine mv_aload_n 0 dX11_tellsTooMuch_0 rfl ?_
  refine mv_bipush 12 dX11_tellsTooMuch_1 (by decide) ?_
  refine mv_aload_n 0 dX11_tellsTooMuch_3 rfl ?_
  refine mv_getI fX11_345 (by decide) rfl rfl dX11_tellsTooMuch_4 ?_
  refine mv_imul dX11_tellsTooMuch_7 ?_
  refine mv_iload_n 1 dX11_tellsTooMuch_8 rfl ?_
  refine mv_iadd dX11_tellsTooMuch_9 ?_
  refine mv_putI fX11_239 (by decide) rfl rfl dX11_tellsTooMuch_10 (fun M1 eM1 => ?_)
  replace h := mv_letE h M1 eM1
  refine mv_aload_n 0 dX11_tellsTooMuch_13 rfl ?_
  refine mv_aload_n 0 dX11_tellsTooMuch_14 rfl ?_
  refine mv_getR 68 fX11_30 (by decide) rfl rfl rfl dX11_tellsTooMuch_15 ?_
  refine mv_aload_n 0 dX11_tellsTooMuch_18 rfl ?_
  refine mv_getI fX11_239 (by decide) rfl rfl dX11_tellsTooMuch_19 ?_
  obtain ⟨hi2, h⟩ := mv_chkE h
  refine mv_ild (by decide) rfl (mv_inE hi2) dX11_tellsTooMuch_22 ?_
  refine mv_iload_n 2 dX11_tellsTooMuch_23 rfl ?_
  refine mv_cvI (As := [.int (M1.1 68 (M1.1 62 33).toNatClampNeg), .int a1]) (st := []) okX11_asks lX11_377 (by decide) rfl rfl rfl (Nat.le_of_ble_eq_true rfl) rfl (Nat.le_of_ble_eq_true rfl) dX11_tellsTooMuch_24 (by omega) rfl (zX11_asks (d := d - 1) (by omega) (M1.1 68 (M1.1 62 33).toNatClampNeg) a1 M1 (mv_bindE h)) (fun r3 M4 h => ?_)
  refine mv_istore_n [(3, .int r3), (0, .ref 62), (1, .int a0), (2, .int a1)] dX11_tellsTooMuch_27 (by decide) rfl ?_
  refine mv_aload_n 1 dX11_tellsTooMuch_28 rfl ?_
  refine mv_getR 91 fX11_100 (by decide) rfl rfl rfl dX11_tellsTooMuch_29 ?_
  refine mv_bipush 26 dX11_tellsTooMuch_32 (by decide) ?_
  refine mv_iload_n 2 dX11_tellsTooMuch_34 rfl ?_
  refine mv_imul dX11_tellsTooMuch_35 ?_
  refine mv_iload_n 3 dX11_tellsTooMuch_36 rfl ?_
  refine mv_iadd dX11_tellsTooMuch_37 ?_
  obtain ⟨hi5, h⟩ := mv_chkE h
  refine mv_zld (by decide) rfl (mv_inE hi5) dX11_tellsTooMuch_38 ?_
  refine mv_if_eq 52 dX11_tellsTooMuch_39 (by decide) (fun z => ?_) (fun z => ?_)
  · replace h := mv_ifT z h
    refine mv_iconst 0 dX11_tellsTooMuch_52 (by decide) ?_
    refine mv_istore [(4, .int 0), (3, .int r3), (0, .ref 62), (1, .int a0), (2, .int a1)] dX11_tellsTooMuch_53 (by decide) rfl ?_
    refine mv_iconst 0 dX11_tellsTooMuch_55 (by decide) ?_
    refine mv_istore [(5, .int 0), (4, .int 0), (3, .int r3), (0, .ref 62), (1, .int a0), (2, .int a1)] dX11_tellsTooMuch_56 (by decide) rfl ?_
    refine mv_sub [3, 4, 5, 2, 1, 0] rfl ?_
    exact zX11_tellsTooMuch_58 hd a0 a1 r3 0 0 M4 h
  · replace h := mv_ifF z h
    refine mv_iload_n 0 dX11_tellsTooMuch_42 rfl ?_
    refine mv_if_ne 50 dX11_tellsTooMuch_43 (by decide) (fun z => ?_) (fun z => ?_)
    · replace h := mv_ifF z h
      refine mv_iconst 0 dX11_tellsTooMuch_50 (by decide) ?_
      exact mv_zret (by decide) rfl dX11_tellsTooMuch_51 ⟨_, rfl, h⟩
    · replace h := mv_ifT z h
      refine mv_iconst 1 dX11_tellsTooMuch_46 (by decide) ?_
      refine mv_goto 51 dX11_tellsTooMuch_47 (by decide) ?_
      exact mv_zret (by decide) rfl dX11_tellsTooMuch_51 ⟨_, rfl, h⟩
theorem dX11_check_0 : decode cX11_check 0 = .ok (.aload_n 0, 1) := by decide +kernel
theorem dX11_check_1 : decode cX11_check 1 = .ok (.aload_n 0, 1) := by decide +kernel
theorem dX11_check_2 : decode cX11_check 2 = .ok (.getfield 354, 3) := by decide +kernel
theorem dX11_check_5 : decode cX11_check 5 = .ok (.ifCond .eq 7, 3) := by decide +kernel
theorem dX11_check_8 : decode cX11_check 8 = .ok (.iconst 0, 1) := by decide +kernel
theorem dX11_check_9 : decode cX11_check 9 = .ok (.goto 4, 3) := by decide +kernel
theorem dX11_check_12 : decode cX11_check 12 = .ok (.iconst 1, 1) := by decide +kernel
theorem dX11_check_13 : decode cX11_check 13 = .ok (.putfield 148, 3) := by decide +kernel
theorem dX11_check_16 : decode cX11_check 16 = .ok (.aload_n 0, 1) := by decide +kernel
theorem dX11_check_17 : decode cX11_check 17 = .ok (.getfield 148, 3) := by decide +kernel
theorem dX11_check_20 : decode cX11_check 20 = .ok (.ifCond .le 5, 3) := by decide +kernel
theorem dX11_check_23 : decode cX11_check 23 = .ok (.iconst 0, 1) := by decide +kernel
theorem dX11_check_24 : decode cX11_check 24 = .ok (.ireturn, 1) := by decide +kernel
theorem dX11_check_25 : decode cX11_check 25 = .ok (.iconst 0, 1) := by decide +kernel
theorem dX11_check_26 : decode cX11_check 26 = .ok (.istore_n 1, 1) := by decide +kernel
theorem dX11_check_27 : decode cX11_check 27 = .ok (.iload_n 1, 1) := by decide +kernel
theorem dX11_check_28 : decode cX11_check 28 = .ok (.aload_n 0, 1) := by decide +kernel
theorem dX11_check_29 : decode cX11_check 29 = .ok (.getfield 63, 3) := by decide +kernel
theorem dX11_check_32 : decode cX11_check 32 = .ok (.aload_n 0, 1) := by decide +kernel
theorem dX11_check_33 : decode cX11_check 33 = .ok (.getfield 345, 3) := by decide +kernel
theorem dX11_check_36 : decode cX11_check 36 = .ok (.iaload, 1) := by decide +kernel
theorem dX11_check_37 : decode cX11_check 37 = .ok (.if_icmp .ge 54, 3) := by decide +kernel
theorem dX11_check_40 : decode cX11_check 40 = .ok (.iconst 1, 1) := by decide +kernel
theorem dX11_check_41 : decode cX11_check 41 = .ok (.istore_n 2, 1) := by decide +kernel
theorem dX11_check_42 : decode cX11_check 42 = .ok (.iload_n 2, 1) := by decide +kernel
theorem dX11_check_43 : decode cX11_check 43 = .ok (.aload_n 0, 1) := by decide +kernel
theorem dX11_check_44 : decode cX11_check 44 = .ok (.getfield 21, 3) := by decide +kernel
theorem dX11_check_47 : decode cX11_check 47 = .ok (.bipush 12, 2) := by decide +kernel
theorem dX11_check_49 : decode cX11_check 49 = .ok (.aload_n 0, 1) := by decide +kernel
theorem dX11_check_50 : decode cX11_check 50 = .ok (.getfield 345, 3) := by decide +kernel
theorem dX11_check_53 : decode cX11_check 53 = .ok (.imul, 1) := by decide +kernel
theorem dX11_check_54 : decode cX11_check 54 = .ok (.iload_n 1, 1) := by decide +kernel
theorem dX11_check_55 : decode cX11_check 55 = .ok (.iadd, 1) := by decide +kernel
theorem dX11_check_56 : decode cX11_check 56 = .ok (.iaload, 1) := by decide +kernel
theorem dX11_check_57 : decode cX11_check 57 = .ok (.invokestatic 166, 3) := by decide +kernel
theorem dX11_check_60 : decode cX11_check 60 = .ok (.if_icmp .ge 25, 3) := by decide +kernel
theorem dX11_check_63 : decode cX11_check 63 = .ok (.aload_n 0, 1) := by decide +kernel
theorem dX11_check_64 : decode cX11_check 64 = .ok (.iload_n 1, 1) := by decide +kernel
theorem dX11_check_65 : decode cX11_check 65 = .ok (.iload_n 2, 1) := by decide +kernel
theorem dX11_check_66 : decode cX11_check 66 = .ok (.invokevirtual 397, 3) := by decide +kernel
theorem dX11_check_69 : decode cX11_check 69 = .ok (.ifCond .eq 10, 3) := by decide +kernel
theorem dX11_check_72 : decode cX11_check 72 = .ok (.bipush 32, 2) := by decide +kernel
theorem dX11_check_74 : decode cX11_check 74 = .ok (.iload_n 1, 1) := by decide +kernel
theorem dX11_check_75 : decode cX11_check 75 = .ok (.imul, 1) := by decide +kernel
theorem dX11_check_76 : decode cX11_check 76 = .ok (.iload_n 2, 1) := by decide +kernel
theorem dX11_check_77 : decode cX11_check 77 = .ok (.iadd, 1) := by decide +kernel
theorem dX11_check_78 : decode cX11_check 78 = .ok (.ireturn, 1) := by decide +kernel
theorem dX11_check_79 : decode cX11_check 79 = .ok (.iinc 2 1, 3) := by decide +kernel
theorem dX11_check_82 : decode cX11_check 82 = .ok (.goto (-40), 3) := by decide +kernel
theorem dX11_check_85 : decode cX11_check 85 = .ok (.iinc 1 1, 3) := by decide +kernel
theorem dX11_check_88 : decode cX11_check 88 = .ok (.goto (-61), 3) := by decide +kernel
theorem dX11_check_91 : decode cX11_check 91 = .ok (.iconst (-1), 1) := by decide +kernel
theorem dX11_check_92 : decode cX11_check 92 = .ok (.ireturn, 1) := by decide +kernel
noncomputable def gX11_check_42 (x1 : Int32) (x2 : Int32) (M : mv_M) : Option (((Int32 × Int32) ⊕ ((Int32) ⊕ Int32)) × mv_M) :=
  mv_chk (mv_inb ((12 * (M.1 62 47)) + x1) 24) <|
  mv_bind (fX11_demands (M.1 65 ((12 * (M.1 62 47)) + x1).toNatClampNeg) M) fun r4 M5 =>
  if r4 ≤ x2 then
    mv_let (x1 + 1) fun v6 =>
    some (.inr (.inl v6), M5)
  else
    mv_bind (fX11_tellsTooMuch x1 x2 M5) fun r7 M8 =>
    if r7 = 0 then
      mv_let (x2 + 1) fun v9 =>
      some (.inl (x1, v9), M8)
    else
      some (.inr (.inr ((32 * x1) + x2)), M8)
noncomputable def fX11_check_42 (x1 : Int32) (x2 : Int32) (M : mv_M) : Option (((Int32) ⊕ Int32) × mv_M) := mv_loop (fun (s : Int32 × Int32) M => gX11_check_42 s.1 s.2 M) (x1, x2) M
set_option maxRecDepth 100000 in
set_option maxHeartbeats 4000000 in
theorem zX11_check_42 {l : Launch} {d : Nat} {Q : Int32 → mv_M → Prop} (hd : 6 ≤ d) (x1 : Int32) (x2 : Int32) (M : mv_M) (h : mv_ok (fX11_check_42 x1 x2 M) (mv_pq (fun (s : Int32) M => mv l mX11_check d 0 27 [(0, .ref 62), (1, .int s)] [] M (mv_qI Q)) Q)) : mv l mX11_check d 0 42 [(0, .ref 62), (1, .int x1), (2, .int x2)] [] M (mv_qI Q) := by
  unfold fX11_check_42 at h
  refine mv_loopE (A := (fun (s : Int32 × Int32) M => mv l mX11_check d 0 42 [(0, .ref 62), (1, .int s.1), (2, .int s.2)] [] M (mv_qI Q))) ?_ (x1, x2) M h
  · rintro ⟨x1, x2⟩ M h
    try dsimp only at h
    show mv l mX11_check d 0 42 [(0, .ref 62), (1, .int x1), (2, .int x2)] [] M (mv_qI Q)
    unfold gX11_check_42 at h
    refine mv_iload_n 2 dX11_check_42 rfl ?_
    refine mv_aload_n 0 dX11_check_43 rfl ?_
    refine mv_getR 65 fX11_21 (by decide) rfl rfl rfl dX11_check_44 ?_
    refine mv_bipush 12 dX11_check_47 (by decide) ?_
    refine mv_aload_n 0 dX11_check_49 rfl ?_
    refine mv_getI fX11_345 (by decide) rfl rfl dX11_check_50 ?_
    refine mv_imul dX11_check_53 ?_
    refine mv_iload_n 1 dX11_check_54 rfl ?_
    refine mv_iadd dX11_check_55 ?_
    obtain ⟨hi3, h⟩ := mv_chkE h
    refine mv_ild (by decide) rfl (mv_inE hi3) dX11_check_56 ?_
    refine mv_csI (As := [.int (M.1 65 ((12 * (M.1 62 47)) + x1).toNatClampNeg)]) (st := [.int x2]) okX11_demands lX11_166 rfl (Nat.le_of_ble_eq_true rfl) rfl (Nat.le_of_ble_eq_true rfl) dX11_check_57 (by omega) rfl (zX11_demands (d := d - 1) (by omega) (M.1 65 ((12 * (M.1 62 47)) + x1).toNatClampNeg) M (mv_bindE h)) (fun r4 M5 h => ?_)
    refine mv_icmp_ge 85 dX11_check_60 (by decide) (fun z => ?_) (fun z => ?_)
    · replace h := mv_ifT z h
      obtain ⟨v6, ev6⟩ : ∃ z : Int32, z = x1 + 1 := ⟨_, rfl⟩
      replace h := mv_letE h v6 ev6
      refine mv_iinc v6 1 [(1, .int v6), (0, .ref 62), (2, .int x2)] dX11_check_85 rfl (by rw [ev6]; rfl) (by decide) rfl ?_
      refine mv_goto 27 dX11_check_88 (by decide) ?_
      refine mv_sub [1, 0] rfl ?_
      exact h
    · replace h := mv_ifF z h
      refine mv_aload_n 0 dX11_check_63 rfl ?_
      refine mv_iload_n 1 dX11_check_64 rfl ?_
      refine mv_iload_n 2 dX11_check_65 rfl ?_
      refine mv_cvI (As := [.int x1, .int x2]) (st := []) okX11_tellsTooMuch lX11_397 (by decide) rfl rfl rfl (Nat.le_of_ble_eq_true rfl) rfl (Nat.le_of_ble_eq_true rfl) dX11_check_66 (by omega) rfl (zX11_tellsTooMuch (d := d - 1) (by omega) x1 x2 M5 (mv_bindE h)) (fun r7 M8 h => ?_)
      refine mv_if_eq 79 dX11_check_69 (by decide) (fun z => ?_) (fun z => ?_)
      · replace h := mv_ifT z h
        obtain ⟨v9, ev9⟩ : ∃ z : Int32, z = x2 + 1 := ⟨_, rfl⟩
        replace h := mv_letE h v9 ev9
        refine mv_iinc v9 2 [(2, .int v9), (0, .ref 62), (1, .int x1)] dX11_check_79 rfl (by rw [ev9]; rfl) (by decide) rfl ?_
        refine mv_goto 42 dX11_check_82 (by decide) ?_
        refine mv_sub [1, 2, 0] rfl ?_
        exact h
      · replace h := mv_ifF z h
        refine mv_bipush 32 dX11_check_72 (by decide) ?_
        refine mv_iload_n 1 dX11_check_74 rfl ?_
        refine mv_imul dX11_check_75 ?_
        refine mv_iload_n 2 dX11_check_76 rfl ?_
        refine mv_iadd dX11_check_77 ?_
        exact mv_iret rfl dX11_check_78 ⟨_, rfl, h⟩
noncomputable def gX11_check_27 (x1 : Int32) (M : mv_M) : Option (((Int32) ⊕ Int32) × mv_M) :=
  mv_chk (mv_inb (M.1 62 47) 2) <|
  if (M.1 79 (M.1 62 47).toNatClampNeg) ≤ x1 then
    some (.inr ((-1)), M)
  else
    fX11_check_42 x1 1 M
noncomputable def fX11_check_27 (x1 : Int32) (M : mv_M) : Option (Int32 × mv_M) := mv_loop (fun (s : Int32) M => gX11_check_27 s M) x1 M
set_option maxRecDepth 100000 in
set_option maxHeartbeats 4000000 in
theorem zX11_check_27 {l : Launch} {d : Nat} {Q : Int32 → mv_M → Prop} (hd : 6 ≤ d) (x1 : Int32) (M : mv_M) (h : mv_ok (fX11_check_27 x1 M) Q) : mv l mX11_check d 0 27 [(0, .ref 62), (1, .int x1)] [] M (mv_qI Q) := by
  unfold fX11_check_27 at h
  refine mv_loopE (A := (fun (s : Int32) M => mv l mX11_check d 0 27 [(0, .ref 62), (1, .int s)] [] M (mv_qI Q))) ?_ x1 M h
  · intro x1 M h
    try dsimp only at h
    show mv l mX11_check d 0 27 [(0, .ref 62), (1, .int x1)] [] M (mv_qI Q)
    unfold gX11_check_27 at h
    refine mv_iload_n 1 dX11_check_27 rfl ?_
    refine mv_aload_n 0 dX11_check_28 rfl ?_
    refine mv_getR 79 fX11_63 (by decide) rfl rfl rfl dX11_check_29 ?_
    refine mv_aload_n 0 dX11_check_32 rfl ?_
    refine mv_getI fX11_345 (by decide) rfl rfl dX11_check_33 ?_
    obtain ⟨hi2, h⟩ := mv_chkE h
    refine mv_ild (by decide) rfl (mv_inE hi2) dX11_check_36 ?_
    refine mv_icmp_ge 91 dX11_check_37 (by decide) (fun z => ?_) (fun z => ?_)
    · replace h := mv_ifT z h
      refine mv_iconst (-1) dX11_check_91 (by decide) ?_
      exact mv_iret rfl dX11_check_92 ⟨_, rfl, h⟩
    · replace h := mv_ifF z h
      refine mv_iconst 1 dX11_check_40 (by decide) ?_
      refine mv_istore_n [(2, .int 1), (0, .ref 62), (1, .int x1)] dX11_check_41 (by decide) rfl ?_
      refine mv_sub [1, 2, 0] rfl ?_
      exact zX11_check_42 hd x1 1 M h
noncomputable def fX11_check_13 (s0 : Int32) (M : mv_M) : Option (Int32 × mv_M) :=
  mv_let (mv_si M 62 0 s0) fun M1 =>
  if (M1.1 62 0) ≤ 0 then
    fX11_check_27 0 M1
  else
    some (0, M1)
set_option maxRecDepth 100000 in
set_option maxHeartbeats 4000000 in
theorem zX11_check_13 {l : Launch} {d : Nat} {Q : Int32 → mv_M → Prop} (hd : 6 ≤ d) (s0 : Int32) (M : mv_M) (h : mv_ok (fX11_check_13 s0 M) Q) : mv l mX11_check d 0 13 [(0, .ref 62)] [.int s0, .ref 62] M (mv_qI Q) := by
  unfold fX11_check_13 at h
  refine mv_putI fX11_148 (by decide) rfl rfl dX11_check_13 (fun M1 eM1 => ?_)
  replace h := mv_letE h M1 eM1
  refine mv_aload_n 0 dX11_check_16 rfl ?_
  refine mv_getI fX11_148 (by decide) rfl rfl dX11_check_17 ?_
  refine mv_if_le 25 dX11_check_20 (by decide) (fun z => ?_) (fun z => ?_)
  · replace h := mv_ifT z h
    refine mv_iconst 0 dX11_check_25 (by decide) ?_
    refine mv_istore_n [(1, .int 0), (0, .ref 62)] dX11_check_26 (by decide) rfl ?_
    refine mv_sub [1, 0] rfl ?_
    exact zX11_check_27 hd 0 M1 h
  · replace h := mv_ifF z h
    refine mv_iconst 0 dX11_check_23 (by decide) ?_
    exact mv_iret rfl dX11_check_24 ⟨_, rfl, h⟩
noncomputable def fX11_check (M : mv_M) : Option (Int32 × mv_M) :=
  if (M.1 62 46) = 0 then
    fX11_check_13 1 M
  else
    fX11_check_13 0 M
set_option maxRecDepth 100000 in
set_option maxHeartbeats 4000000 in
theorem zX11_check {l : Launch} {d : Nat} {Q : Int32 → mv_M → Prop} (hd : 6 ≤ d) (M : mv_M) (h : mv_ok (fX11_check M) Q) : mv l mX11_check d 0 0 (lv_args 0 [.ref 62]) [] M (mv_qI Q) := by
  unfold fX11_check at h
  show mv l mX11_check d 0 0 [(0, .ref 62)] [] M (mv_qI Q)
  refine mv_aload_n 0 dX11_check_0 rfl ?_
  refine mv_aload_n 0 dX11_check_1 rfl ?_
  refine mv_getI fX11_354 (by decide) rfl rfl dX11_check_2 ?_
  refine mv_if_eq 12 dX11_check_5 (by decide) (fun z => ?_) (fun z => ?_)
  · replace h := mv_ifT z h
    refine mv_iconst 1 dX11_check_12 (by decide) ?_
    refine mv_sub [0] rfl ?_
    exact zX11_check_13 hd 1 M h
  · replace h := mv_ifF z h
    refine mv_iconst 0 dX11_check_8 (by decide) ?_
    refine mv_goto 13 dX11_check_9 (by decide) ?_
    refine mv_sub [0] rfl ?_
    exact zX11_check_13 hd 0 M h
theorem dX11_input_0 : decode cX11_input 0 = .ok (.aload_n 0, 1) := by decide +kernel
theorem dX11_input_1 : decode cX11_input 1 = .ok (.iload_n 1, 1) := by decide +kernel
theorem dX11_input_2 : decode cX11_input 2 = .ok (.i2l, 1) := by decide +kernel
theorem dX11_input_3 : decode cX11_input 3 = .ok (.lconst 0, 1) := by decide +kernel
theorem dX11_input_4 : decode cX11_input 4 = .ok (.ldc2_w 400, 3) := by decide +kernel
theorem dX11_input_7 : decode cX11_input 7 = .ok (.invokestatic 154, 3) := by decide +kernel
theorem dX11_input_10 : decode cX11_input 10 = .ok (.ifCond .ne 7, 3) := by decide +kernel
theorem dX11_input_13 : decode cX11_input 13 = .ok (.iconst 1, 1) := by decide +kernel
theorem dX11_input_14 : decode cX11_input 14 = .ok (.goto 17, 3) := by decide +kernel
theorem dX11_input_17 : decode cX11_input 17 = .ok (.aload_n 0, 1) := by decide +kernel
theorem dX11_input_18 : decode cX11_input 18 = .ok (.getfield 402, 3) := by decide +kernel
theorem dX11_input_21 : decode cX11_input 21 = .ok (.bipush 40, 2) := by decide +kernel
theorem dX11_input_23 : decode cX11_input 23 = .ok (.if_icmp .ne 7, 3) := by decide +kernel
theorem dX11_input_26 : decode cX11_input 26 = .ok (.iconst 2, 1) := by decide +kernel
theorem dX11_input_27 : decode cX11_input 27 = .ok (.goto 4, 3) := by decide +kernel
theorem dX11_input_30 : decode cX11_input 30 = .ok (.iconst 0, 1) := by decide +kernel
theorem dX11_input_31 : decode cX11_input 31 = .ok (.putfield 148, 3) := by decide +kernel
theorem dX11_input_34 : decode cX11_input 34 = .ok (.aload_n 0, 1) := by decide +kernel
theorem dX11_input_35 : decode cX11_input 35 = .ok (.getfield 148, 3) := by decide +kernel
theorem dX11_input_38 : decode cX11_input 38 = .ok (.ifCond .le 5, 3) := by decide +kernel
theorem dX11_input_41 : decode cX11_input 41 = .ok (.iconst 0, 1) := by decide +kernel
theorem dX11_input_42 : decode cX11_input 42 = .ok (.ireturn, 1) := by decide +kernel
theorem dX11_input_43 : decode cX11_input 43 = .ok (.aload_n 0, 1) := by decide +kernel
theorem dX11_input_44 : decode cX11_input 44 = .ok (.getfield 103, 3) := by decide +kernel
theorem dX11_input_47 : decode cX11_input 47 = .ok (.aload_n 0, 1) := by decide +kernel
theorem dX11_input_48 : decode cX11_input 48 = .ok (.getfield 402, 3) := by decide +kernel
theorem dX11_input_51 : decode cX11_input 51 = .ok (.iload_n 1, 1) := by decide +kernel
theorem dX11_input_52 : decode cX11_input 52 = .ok (.iastore, 1) := by decide +kernel
theorem dX11_input_53 : decode cX11_input 53 = .ok (.aload_n 0, 1) := by decide +kernel
theorem dX11_input_54 : decode cX11_input 54 = .ok (.getfield 106, 3) := by decide +kernel
theorem dX11_input_57 : decode cX11_input 57 = .ok (.aload_n 0, 1) := by decide +kernel
theorem dX11_input_58 : decode cX11_input 58 = .ok (.getfield 402, 3) := by decide +kernel
theorem dX11_input_61 : decode cX11_input 61 = .ok (.iload_n 2, 1) := by decide +kernel
theorem dX11_input_62 : decode cX11_input 62 = .ok (.iastore, 1) := by decide +kernel
theorem dX11_input_63 : decode cX11_input 63 = .ok (.aload_n 0, 1) := by decide +kernel
theorem dX11_input_64 : decode cX11_input 64 = .ok (.dup, 1) := by decide +kernel
theorem dX11_input_65 : decode cX11_input 65 = .ok (.getfield 402, 3) := by decide +kernel
theorem dX11_input_68 : decode cX11_input 68 = .ok (.iconst 1, 1) := by decide +kernel
theorem dX11_input_69 : decode cX11_input 69 = .ok (.iadd, 1) := by decide +kernel
theorem dX11_input_70 : decode cX11_input 70 = .ok (.putfield 402, 3) := by decide +kernel
theorem dX11_input_73 : decode cX11_input 73 = .ok (.aload_n 0, 1) := by decide +kernel
theorem dX11_input_74 : decode cX11_input 74 = .ok (.getfield 402, 3) := by decide +kernel
theorem dX11_input_77 : decode cX11_input 77 = .ok (.ireturn, 1) := by decide +kernel
noncomputable def fX11_input_31 (x1 : Int32) (x2 : Int32) (s0 : Int32) (M : mv_M) : Option (Int32 × mv_M) :=
  mv_let (mv_si M 62 0 s0) fun M3 =>
  if (M3.1 62 0) ≤ 0 then
    mv_chk (mv_inb (M3.1 62 55) 40) <|
    mv_let (mv_si M3 92 (M3.1 62 55).toNatClampNeg x1) fun M5 =>
    mv_chk (mv_inb (M5.1 62 55) 40) <|
    mv_let (mv_si M5 93 (M5.1 62 55).toNatClampNeg x2) fun M7 =>
    mv_let (mv_si M7 62 55 ((M7.1 62 55) + 1)) fun M8 =>
    some (M8.1 62 55, M8)
  else
    some (0, M3)
set_option maxRecDepth 100000 in
set_option maxHeartbeats 4000000 in
theorem zX11_input_31 {l : Launch} {d : Nat} {Q : Int32 → mv_M → Prop} (hd : 1 ≤ d) (x1 : Int32) (x2 : Int32) (s0 : Int32) (M : mv_M) (h : mv_ok (fX11_input_31 x1 x2 s0 M) Q) : mv l mX11_input d 0 31 [(0, .ref 62), (1, .int x1), (2, .int x2)] [.int s0, .ref 62] M (mv_qI Q) := by
  unfold fX11_input_31 at h
  refine mv_putI fX11_148 (by decide) rfl rfl dX11_input_31 (fun M3 eM3 => ?_)
  replace h := mv_letE h M3 eM3
  refine mv_aload_n 0 dX11_input_34 rfl ?_
  refine mv_getI fX11_148 (by decide) rfl rfl dX11_input_35 ?_
  refine mv_if_le 43 dX11_input_38 (by decide) (fun z => ?_) (fun z => ?_)
  · replace h := mv_ifT z h
    refine mv_aload_n 0 dX11_input_43 rfl ?_
    refine mv_getR 92 fX11_103 (by decide) rfl rfl rfl dX11_input_44 ?_
    refine mv_aload_n 0 dX11_input_47 rfl ?_
    refine mv_getI fX11_402 (by decide) rfl rfl dX11_input_48 ?_
    refine mv_iload_n 1 dX11_input_51 rfl ?_
    obtain ⟨hi4, h⟩ := mv_chkE h
    refine mv_ist (by decide) rfl (mv_inE hi4) dX11_input_52 (fun M5 eM5 => ?_)
    replace h := mv_letE h M5 eM5
    refine mv_aload_n 0 dX11_input_53 rfl ?_
    refine mv_getR 93 fX11_106 (by decide) rfl rfl rfl dX11_input_54 ?_
    refine mv_aload_n 0 dX11_input_57 rfl ?_
    refine mv_getI fX11_402 (by decide) rfl rfl dX11_input_58 ?_
    refine mv_iload_n 2 dX11_input_61 rfl ?_
    obtain ⟨hi6, h⟩ := mv_chkE h
    refine mv_ist (by decide) rfl (mv_inE hi6) dX11_input_62 (fun M7 eM7 => ?_)
    replace h := mv_letE h M7 eM7
    refine mv_aload_n 0 dX11_input_63 rfl ?_
    refine mv_dup dX11_input_64 rfl ?_
    refine mv_getI fX11_402 (by decide) rfl rfl dX11_input_65 ?_
    refine mv_iconst 1 dX11_input_68 (by decide) ?_
    refine mv_iadd dX11_input_69 ?_
    refine mv_putI fX11_402 (by decide) rfl rfl dX11_input_70 (fun M8 eM8 => ?_)
    replace h := mv_letE h M8 eM8
    refine mv_aload_n 0 dX11_input_73 rfl ?_
    refine mv_getI fX11_402 (by decide) rfl rfl dX11_input_74 ?_
    exact mv_iret rfl dX11_input_77 ⟨_, rfl, h⟩
  · replace h := mv_ifF z h
    refine mv_iconst 0 dX11_input_41 (by decide) ?_
    exact mv_iret rfl dX11_input_42 ⟨_, rfl, h⟩
noncomputable def fX11_input (a0 : Int32) (a1 : Int32) (M : mv_M) : Option (Int32 × mv_M) :=
  mv_bind (fX11_within (a0.toInt64) 0 2 M) fun r1 M2 =>
  if r1 = 0 then
    fX11_input_31 a0 a1 1 M2
  else
    if (M2.1 62 55) = 40 then
      fX11_input_31 a0 a1 2 M2
    else
      fX11_input_31 a0 a1 0 M2
set_option maxRecDepth 100000 in
set_option maxHeartbeats 4000000 in
theorem zX11_input {l : Launch} {d : Nat} {Q : Int32 → mv_M → Prop} (hd : 1 ≤ d) (a0 : Int32) (a1 : Int32) (M : mv_M) (h : mv_ok (fX11_input a0 a1 M) Q) : mv l mX11_input d 0 0 (lv_args 0 [.ref 62, .int a0, .int a1]) [] M (mv_qI Q) := by
  unfold fX11_input at h
  show mv l mX11_input d 0 0 [(0, .ref 62), (1, .int a0), (2, .int a1)] [] M (mv_qI Q)
  refine mv_aload_n 0 dX11_input_0 rfl ?_
  refine mv_iload_n 1 dX11_input_1 rfl ?_
  refine mv_i2l dX11_input_2 ?_
  refine mv_lconst 0 dX11_input_3 (by decide) ?_
  refine mv_ldc2 kX11_400 dX11_input_4 ?_
  refine mv_csI (As := [.long (a0.toInt64), .long 0, .long 2]) (st := [.ref 62]) okX11_within lX11_154 rfl (Nat.le_of_ble_eq_true rfl) rfl (Nat.le_of_ble_eq_true rfl) dX11_input_7 (by omega) rfl (zX11_within (d := d - 1) (by omega) (a0.toInt64) 0 2 M (mv_bindE h)) (fun r1 M2 h => ?_)
  refine mv_if_ne 17 dX11_input_10 (by decide) (fun z => ?_) (fun z => ?_)
  · replace h := mv_ifF z h
    refine mv_aload_n 0 dX11_input_17 rfl ?_
    refine mv_getI fX11_402 (by decide) rfl rfl dX11_input_18 ?_
    refine mv_bipush 40 dX11_input_21 (by decide) ?_
    refine mv_icmp_ne 30 dX11_input_23 (by decide) (fun z => ?_) (fun z => ?_)
    · replace h := mv_ifF z h
      refine mv_iconst 0 dX11_input_30 (by decide) ?_
      refine mv_sub [0, 1, 2] rfl ?_
      exact zX11_input_31 hd a0 a1 0 M2 h
    · replace h := mv_ifT z h
      refine mv_iconst 2 dX11_input_26 (by decide) ?_
      refine mv_goto 31 dX11_input_27 (by decide) ?_
      refine mv_sub [0, 1, 2] rfl ?_
      exact zX11_input_31 hd a0 a1 2 M2 h
  · replace h := mv_ifT z h
    refine mv_iconst 1 dX11_input_13 (by decide) ?_
    refine mv_goto 31 dX11_input_14 (by decide) ?_
    refine mv_sub [0, 1, 2] rfl ?_
    exact zX11_input_31 hd a0 a1 1 M2 h
theorem dX11_behind_0 : decode cX11_behind 0 = .ok (.iload_n 1, 1) := by decide +kernel
theorem dX11_behind_1 : decode cX11_behind 1 = .ok (.istore_n 3, 1) := by decide +kernel
theorem dX11_behind_2 : decode cX11_behind 2 = .ok (.iconst 1, 1) := by decide +kernel
theorem dX11_behind_3 : decode cX11_behind 3 = .ok (.istore 4, 2) := by decide +kernel
theorem dX11_behind_5 : decode cX11_behind 5 = .ok (.aload_n 0, 1) := by decide +kernel
theorem dX11_behind_6 : decode cX11_behind 6 = .ok (.getfield 109, 3) := by decide +kernel
theorem dX11_behind_9 : decode cX11_behind 9 = .ok (.iconst 0, 1) := by decide +kernel
theorem dX11_behind_10 : decode cX11_behind 10 = .ok (.iload_n 2, 1) := by decide +kernel
theorem dX11_behind_11 : decode cX11_behind 11 = .ok (.iastore, 1) := by decide +kernel
theorem dX11_behind_12 : decode cX11_behind 12 = .ok (.iload 4, 2) := by decide +kernel
theorem dX11_behind_14 : decode cX11_behind 14 = .ok (.ifCond .le 107, 3) := by decide +kernel
theorem dX11_behind_17 : decode cX11_behind 17 = .ok (.iload_n 3, 1) := by decide +kernel
theorem dX11_behind_18 : decode cX11_behind 18 = .ok (.iconst (-1), 1) := by decide +kernel
theorem dX11_behind_19 : decode cX11_behind 19 = .ok (.if_icmp .eq 102, 3) := by decide +kernel
theorem dX11_behind_22 : decode cX11_behind 22 = .ok (.iinc 4 (-1), 3) := by decide +kernel
theorem dX11_behind_25 : decode cX11_behind 25 = .ok (.aload_n 0, 1) := by decide +kernel
theorem dX11_behind_26 : decode cX11_behind 26 = .ok (.getfield 109, 3) := by decide +kernel
theorem dX11_behind_29 : decode cX11_behind 29 = .ok (.iload 4, 2) := by decide +kernel
theorem dX11_behind_31 : decode cX11_behind 31 = .ok (.iaload, 1) := by decide +kernel
theorem dX11_behind_32 : decode cX11_behind 32 = .ok (.istore 5, 2) := by decide +kernel
theorem dX11_behind_34 : decode cX11_behind 34 = .ok (.iload_n 3, 1) := by decide +kernel
theorem dX11_behind_35 : decode cX11_behind 35 = .ok (.aload_n 0, 1) := by decide +kernel
theorem dX11_behind_36 : decode cX11_behind 36 = .ok (.getfield 402, 3) := by decide +kernel
theorem dX11_behind_39 : decode cX11_behind 39 = .ok (.if_icmp .ge 32, 3) := by decide +kernel
theorem dX11_behind_42 : decode cX11_behind 42 = .ok (.aload_n 0, 1) := by decide +kernel
theorem dX11_behind_43 : decode cX11_behind 43 = .ok (.getfield 103, 3) := by decide +kernel
theorem dX11_behind_46 : decode cX11_behind 46 = .ok (.iload_n 3, 1) := by decide +kernel
theorem dX11_behind_47 : decode cX11_behind 47 = .ok (.iaload, 1) := by decide +kernel
theorem dX11_behind_48 : decode cX11_behind 48 = .ok (.ifCond .ne 8, 3) := by decide +kernel
theorem dX11_behind_51 : decode cX11_behind 51 = .ok (.iload 5, 2) := by decide +kernel
theorem dX11_behind_53 : decode cX11_behind 53 = .ok (.ifCond .gt 18, 3) := by decide +kernel
theorem dX11_behind_56 : decode cX11_behind 56 = .ok (.aload_n 0, 1) := by decide +kernel
theorem dX11_behind_57 : decode cX11_behind 57 = .ok (.getfield 103, 3) := by decide +kernel
theorem dX11_behind_60 : decode cX11_behind 60 = .ok (.iload_n 3, 1) := by decide +kernel
theorem dX11_behind_61 : decode cX11_behind 61 = .ok (.iaload, 1) := by decide +kernel
theorem dX11_behind_62 : decode cX11_behind 62 = .ok (.iconst 2, 1) := by decide +kernel
theorem dX11_behind_63 : decode cX11_behind 63 = .ok (.if_icmp .ne 13, 3) := by decide +kernel
theorem dX11_behind_66 : decode cX11_behind 66 = .ok (.iload 5, 2) := by decide +kernel
theorem dX11_behind_68 : decode cX11_behind 68 = .ok (.ifCond .ne 8, 3) := by decide +kernel
theorem dX11_behind_71 : decode cX11_behind 71 = .ok (.iconst (-1), 1) := by decide +kernel
theorem dX11_behind_72 : decode cX11_behind 72 = .ok (.istore_n 3, 1) := by decide +kernel
theorem dX11_behind_73 : decode cX11_behind 73 = .ok (.goto 45, 3) := by decide +kernel
theorem dX11_behind_76 : decode cX11_behind 76 = .ok (.aload_n 0, 1) := by decide +kernel
theorem dX11_behind_77 : decode cX11_behind 77 = .ok (.getfield 103, 3) := by decide +kernel
theorem dX11_behind_80 : decode cX11_behind 80 = .ok (.iload_n 3, 1) := by decide +kernel
theorem dX11_behind_81 : decode cX11_behind 81 = .ok (.iaload, 1) := by decide +kernel
theorem dX11_behind_82 : decode cX11_behind 82 = .ok (.iconst 2, 1) := by decide +kernel
theorem dX11_behind_83 : decode cX11_behind 83 = .ok (.if_icmp .ne 32, 3) := by decide +kernel
theorem dX11_behind_86 : decode cX11_behind 86 = .ok (.aload_n 0, 1) := by decide +kernel
theorem dX11_behind_87 : decode cX11_behind 87 = .ok (.getfield 109, 3) := by decide +kernel
theorem dX11_behind_90 : decode cX11_behind 90 = .ok (.iload 4, 2) := by decide +kernel
theorem dX11_behind_92 : decode cX11_behind 92 = .ok (.iload 5, 2) := by decide +kernel
theorem dX11_behind_94 : decode cX11_behind 94 = .ok (.invokestatic 162, 3) := by decide +kernel
theorem dX11_behind_97 : decode cX11_behind 97 = .ok (.iastore, 1) := by decide +kernel
theorem dX11_behind_98 : decode cX11_behind 98 = .ok (.aload_n 0, 1) := by decide +kernel
theorem dX11_behind_99 : decode cX11_behind 99 = .ok (.getfield 109, 3) := by decide +kernel
theorem dX11_behind_102 : decode cX11_behind 102 = .ok (.iload 4, 2) := by decide +kernel
theorem dX11_behind_104 : decode cX11_behind 104 = .ok (.iconst 1, 1) := by decide +kernel
theorem dX11_behind_105 : decode cX11_behind 105 = .ok (.iadd, 1) := by decide +kernel
theorem dX11_behind_106 : decode cX11_behind 106 = .ok (.iload 5, 2) := by decide +kernel
theorem dX11_behind_108 : decode cX11_behind 108 = .ok (.invokestatic 169, 3) := by decide +kernel
theorem dX11_behind_111 : decode cX11_behind 111 = .ok (.iastore, 1) := by decide +kernel
theorem dX11_behind_112 : decode cX11_behind 112 = .ok (.iinc 4 2, 3) := by decide +kernel
theorem dX11_behind_115 : decode cX11_behind 115 = .ok (.iinc 3 1, 3) := by decide +kernel
theorem dX11_behind_118 : decode cX11_behind 118 = .ok (.goto (-106), 3) := by decide +kernel
theorem dX11_behind_121 : decode cX11_behind 121 = .ok (.iload_n 3, 1) := by decide +kernel
theorem dX11_behind_122 : decode cX11_behind 122 = .ok (.ireturn, 1) := by decide +kernel
noncomputable def fX11_behind_118 (x3 : Int32) (x4 : Int32) (M : mv_M) : Option (((Int32 × Int32) ⊕ Int32) × mv_M) :=
  some (.inl (x3, x4), M)
set_option maxRecDepth 100000 in
set_option maxHeartbeats 4000000 in
theorem zX11_behind_118 {l : Launch} {d : Nat} {Q : Int32 → mv_M → Prop} (hd : 1 ≤ d) (x3 : Int32) (x4 : Int32) (M : mv_M) (h : mv_ok (fX11_behind_118 x3 x4 M) (mv_pq (fun (s : Int32 × Int32) M => mv l mX11_behind d 0 12 [(0, .ref 62), (3, .int s.1), (4, .int s.2)] [] M (mv_qI Q)) Q)) : mv l mX11_behind d 0 118 [(0, .ref 62), (3, .int x3), (4, .int x4)] [] M (mv_qI Q) := by
  unfold fX11_behind_118 at h
  refine mv_goto 12 dX11_behind_118 (by decide) ?_
  refine mv_sub [0, 1, 2] rfl ?_
  exact h
noncomputable def fX11_behind_71 (x4 : Int32) (M : mv_M) : Option (((Int32 × Int32) ⊕ Int32) × mv_M) :=
  fX11_behind_118 (-1) x4 M
set_option maxRecDepth 100000 in
set_option maxHeartbeats 4000000 in
theorem zX11_behind_71 {l : Launch} {d : Nat} {Q : Int32 → mv_M → Prop} (hd : 1 ≤ d) (x4 : Int32) (M : mv_M) (h : mv_ok (fX11_behind_71 x4 M) (mv_pq (fun (s : Int32 × Int32) M => mv l mX11_behind d 0 12 [(0, .ref 62), (3, .int s.1), (4, .int s.2)] [] M (mv_qI Q)) Q)) : mv l mX11_behind d 0 71 [(0, .ref 62), (4, .int x4)] [] M (mv_qI Q) := by
  unfold fX11_behind_71 at h
  refine mv_iconst (-1) dX11_behind_71 (by decide) ?_
  refine mv_istore_n [(3, .int (-1)), (0, .ref 62), (4, .int x4)] dX11_behind_72 (by decide) rfl ?_
  refine mv_goto 118 dX11_behind_73 (by decide) ?_
  refine mv_sub [1, 0, 2] rfl ?_
  exact zX11_behind_118 hd (-1) x4 M h
noncomputable def fX11_behind_115 (x3 : Int32) (x4 : Int32) (M : mv_M) : Option (((Int32 × Int32) ⊕ Int32) × mv_M) :=
  mv_let (x3 + 1) fun v17 =>
  fX11_behind_118 v17 x4 M
set_option maxRecDepth 100000 in
set_option maxHeartbeats 4000000 in
theorem zX11_behind_115 {l : Launch} {d : Nat} {Q : Int32 → mv_M → Prop} (hd : 1 ≤ d) (x3 : Int32) (x4 : Int32) (M : mv_M) (h : mv_ok (fX11_behind_115 x3 x4 M) (mv_pq (fun (s : Int32 × Int32) M => mv l mX11_behind d 0 12 [(0, .ref 62), (3, .int s.1), (4, .int s.2)] [] M (mv_qI Q)) Q)) : mv l mX11_behind d 0 115 [(0, .ref 62), (3, .int x3), (4, .int x4)] [] M (mv_qI Q) := by
  unfold fX11_behind_115 at h
  obtain ⟨v17, ev17⟩ : ∃ z : Int32, z = x3 + 1 := ⟨_, rfl⟩
  replace h := mv_letE h v17 ev17
  refine mv_iinc v17 1 [(3, .int v17), (0, .ref 62), (4, .int x4)] dX11_behind_115 rfl (by rw [ev17]; rfl) (by decide) rfl ?_
  refine mv_sub [1, 0, 2] rfl ?_
  exact zX11_behind_118 hd v17 x4 M h
noncomputable def fX11_behind_76 (x3 : Int32) (x4 : Int32) (x5 : Int32) (M : mv_M) : Option (((Int32 × Int32) ⊕ Int32) × mv_M) :=
  mv_chk (mv_inb x3 40) <|
  if (M.1 92 x3.toNatClampNeg) = 2 then
    mv_bind (fX11_secondOf x5 M) fun r8 M9 =>
    mv_chk (mv_inb x4 8) <|
    mv_let (mv_si M9 94 x4.toNatClampNeg r8) fun M11 =>
    mv_bind (fX11_firstOf x5 M11) fun r12 M13 =>
    mv_chk (mv_inb (x4 + 1) 8) <|
    mv_let (mv_si M13 94 (x4 + 1).toNatClampNeg r12) fun M15 =>
    mv_let (x4 + 2) fun v16 =>
    fX11_behind_115 x3 v16 M15
  else
    fX11_behind_115 x3 x4 M
set_option maxRecDepth 100000 in
set_option maxHeartbeats 4000000 in
theorem zX11_behind_76 {l : Launch} {d : Nat} {Q : Int32 → mv_M → Prop} (hd : 1 ≤ d) (x3 : Int32) (x4 : Int32) (x5 : Int32) (M : mv_M) (h : mv_ok (fX11_behind_76 x3 x4 x5 M) (mv_pq (fun (s : Int32 × Int32) M => mv l mX11_behind d 0 12 [(0, .ref 62), (3, .int s.1), (4, .int s.2)] [] M (mv_qI Q)) Q)) : mv l mX11_behind d 0 76 [(0, .ref 62), (3, .int x3), (4, .int x4), (5, .int x5)] [] M (mv_qI Q) := by
  unfold fX11_behind_76 at h
  refine mv_aload_n 0 dX11_behind_76 rfl ?_
  refine mv_getR 92 fX11_103 (by decide) rfl rfl rfl dX11_behind_77 ?_
  refine mv_iload_n 1 dX11_behind_80 rfl ?_
  obtain ⟨hi7, h⟩ := mv_chkE h
  refine mv_ild (by decide) rfl (mv_inE hi7) dX11_behind_81 ?_
  refine mv_iconst 2 dX11_behind_82 (by decide) ?_
  refine mv_icmp_ne 115 dX11_behind_83 (by decide) (fun z => ?_) (fun z => ?_)
  · replace h := mv_ifF z h
    refine mv_sub [0, 1, 2] rfl ?_
    exact zX11_behind_115 hd x3 x4 M h
  · replace h := mv_ifT z h
    refine mv_aload_n 0 dX11_behind_86 rfl ?_
    refine mv_getR 94 fX11_109 (by decide) rfl rfl rfl dX11_behind_87 ?_
    refine mv_iload 2 dX11_behind_90 rfl ?_
    refine mv_iload 3 dX11_behind_92 rfl ?_
    refine mv_csI (As := [.int x5]) (st := [.int x4, .ref 94]) okX11_secondOf lX11_162 rfl (Nat.le_of_ble_eq_true rfl) rfl (Nat.le_of_ble_eq_true rfl) dX11_behind_94 (by omega) rfl (zX11_secondOf (d := d - 1) (by omega) x5 M (mv_bindE h)) (fun r8 M9 h => ?_)
    obtain ⟨hi10, h⟩ := mv_chkE h
    refine mv_ist (by decide) rfl (mv_inE hi10) dX11_behind_97 (fun M11 eM11 => ?_)
    replace h := mv_letE h M11 eM11
    refine mv_aload_n 0 dX11_behind_98 rfl ?_
    refine mv_getR 94 fX11_109 (by decide) rfl rfl rfl dX11_behind_99 ?_
    refine mv_iload 2 dX11_behind_102 rfl ?_
    refine mv_iconst 1 dX11_behind_104 (by decide) ?_
    refine mv_iadd dX11_behind_105 ?_
    refine mv_iload 3 dX11_behind_106 rfl ?_
    refine mv_csI (As := [.int x5]) (st := [.int (x4 + 1), .ref 94]) okX11_firstOf lX11_169 rfl (Nat.le_of_ble_eq_true rfl) rfl (Nat.le_of_ble_eq_true rfl) dX11_behind_108 (by omega) rfl (zX11_firstOf (d := d - 1) (by omega) x5 M11 (mv_bindE h)) (fun r12 M13 h => ?_)
    obtain ⟨hi14, h⟩ := mv_chkE h
    refine mv_ist (by decide) rfl (mv_inE hi14) dX11_behind_111 (fun M15 eM15 => ?_)
    replace h := mv_letE h M15 eM15
    obtain ⟨v16, ev16⟩ : ∃ z : Int32, z = x4 + 2 := ⟨_, rfl⟩
    replace h := mv_letE h v16 ev16
    refine mv_iinc v16 2 [(4, .int v16), (0, .ref 62), (3, .int x3), (5, .int x5)] dX11_behind_112 rfl (by rw [ev16]; rfl) (by decide) rfl ?_
    refine mv_sub [1, 2, 0] rfl ?_
    exact zX11_behind_115 hd x3 v16 M15 h
noncomputable def fX11_behind_56 (x3 : Int32) (x4 : Int32) (x5 : Int32) (M : mv_M) : Option (((Int32 × Int32) ⊕ Int32) × mv_M) :=
  mv_chk (mv_inb x3 40) <|
  if (M.1 92 x3.toNatClampNeg) = 2 then
    if x5 = 0 then
      fX11_behind_71 x4 M
    else
      fX11_behind_76 x3 x4 x5 M
  else
    fX11_behind_76 x3 x4 x5 M
set_option maxRecDepth 100000 in
set_option maxHeartbeats 4000000 in
theorem zX11_behind_56 {l : Launch} {d : Nat} {Q : Int32 → mv_M → Prop} (hd : 1 ≤ d) (x3 : Int32) (x4 : Int32) (x5 : Int32) (M : mv_M) (h : mv_ok (fX11_behind_56 x3 x4 x5 M) (mv_pq (fun (s : Int32 × Int32) M => mv l mX11_behind d 0 12 [(0, .ref 62), (3, .int s.1), (4, .int s.2)] [] M (mv_qI Q)) Q)) : mv l mX11_behind d 0 56 [(0, .ref 62), (3, .int x3), (4, .int x4), (5, .int x5)] [] M (mv_qI Q) := by
  unfold fX11_behind_56 at h
  refine mv_aload_n 0 dX11_behind_56 rfl ?_
  refine mv_getR 92 fX11_103 (by decide) rfl rfl rfl dX11_behind_57 ?_
  refine mv_iload_n 1 dX11_behind_60 rfl ?_
  obtain ⟨hi6, h⟩ := mv_chkE h
  refine mv_ild (by decide) rfl (mv_inE hi6) dX11_behind_61 ?_
  refine mv_iconst 2 dX11_behind_62 (by decide) ?_
  refine mv_icmp_ne 76 dX11_behind_63 (by decide) (fun z => ?_) (fun z => ?_)
  · replace h := mv_ifF z h
    refine mv_sub [0, 1, 2, 3] rfl ?_
    exact zX11_behind_76 hd x3 x4 x5 M h
  · replace h := mv_ifT z h
    refine mv_iload 3 dX11_behind_66 rfl ?_
    refine mv_if_ne 76 dX11_behind_68 (by decide) (fun z => ?_) (fun z => ?_)
    · replace h := mv_ifF z h
      refine mv_sub [0, 1, 2, 3] rfl ?_
      exact zX11_behind_76 hd x3 x4 x5 M h
    · replace h := mv_ifT z h
      refine mv_sub [0, 2] rfl ?_
      exact zX11_behind_71 hd x4 M h
noncomputable def gX11_behind_12 (x3 : Int32) (x4 : Int32) (M : mv_M) : Option (((Int32 × Int32) ⊕ Int32) × mv_M) :=
  if x4 ≤ 0 then
    some (.inr (x3), M)
  else
    if x3 = (-1) then
      some (.inr (x3), M)
    else
      mv_let (x4 - 1) fun v2 =>
      mv_chk (mv_inb v2 8) <|
      mv_let (M.1 94 v2.toNatClampNeg) fun v4 =>
      if (M.1 62 55) ≤ x3 then
        fX11_behind_71 v2 M
      else
        mv_chk (mv_inb x3 40) <|
        if (M.1 92 x3.toNatClampNeg) = 0 then
          if 0 < v4 then
            fX11_behind_71 v2 M
          else
            fX11_behind_56 x3 v2 v4 M
        else
          fX11_behind_56 x3 v2 v4 M
noncomputable def fX11_behind_12 (x3 : Int32) (x4 : Int32) (M : mv_M) : Option (Int32 × mv_M) := mv_loop (fun (s : Int32 × Int32) M => gX11_behind_12 s.1 s.2 M) (x3, x4) M
set_option maxRecDepth 100000 in
set_option maxHeartbeats 4000000 in
theorem zX11_behind_12 {l : Launch} {d : Nat} {Q : Int32 → mv_M → Prop} (hd : 1 ≤ d) (x3 : Int32) (x4 : Int32) (M : mv_M) (h : mv_ok (fX11_behind_12 x3 x4 M) Q) : mv l mX11_behind d 0 12 [(0, .ref 62), (3, .int x3), (4, .int x4)] [] M (mv_qI Q) := by
  unfold fX11_behind_12 at h
  refine mv_loopE (A := (fun (s : Int32 × Int32) M => mv l mX11_behind d 0 12 [(0, .ref 62), (3, .int s.1), (4, .int s.2)] [] M (mv_qI Q))) ?_ (x3, x4) M h
  · rintro ⟨x3, x4⟩ M h
    try dsimp only at h
    show mv l mX11_behind d 0 12 [(0, .ref 62), (3, .int x3), (4, .int x4)] [] M (mv_qI Q)
    unfold gX11_behind_12 at h
    refine mv_iload 2 dX11_behind_12 rfl ?_
    refine mv_if_le 121 dX11_behind_14 (by decide) (fun z => ?_) (fun z => ?_)
    · replace h := mv_ifT z h
      refine mv_iload_n 1 dX11_behind_121 rfl ?_
      exact mv_iret rfl dX11_behind_122 ⟨_, rfl, h⟩
    · replace h := mv_ifF z h
      refine mv_iload_n 1 dX11_behind_17 rfl ?_
      refine mv_iconst (-1) dX11_behind_18 (by decide) ?_
      refine mv_icmp_eq 121 dX11_behind_19 (by decide) (fun z => ?_) (fun z => ?_)
      · replace h := mv_ifT z h
        refine mv_iload_n 1 dX11_behind_121 rfl ?_
        exact mv_iret rfl dX11_behind_122 ⟨_, rfl, h⟩
      · replace h := mv_ifF z h
        obtain ⟨v2, ev2⟩ : ∃ z : Int32, z = x4 - 1 := ⟨_, rfl⟩
        replace h := mv_letE h v2 ev2
        refine mv_iinc v2 2 [(4, .int v2), (0, .ref 62), (3, .int x3)] dX11_behind_22 rfl (mv_dec 1 (by decide) ev2) (by decide) rfl ?_
        refine mv_aload_n 1 dX11_behind_25 rfl ?_
        refine mv_getR 94 fX11_109 (by decide) rfl rfl rfl dX11_behind_26 ?_
        refine mv_iload 0 dX11_behind_29 rfl ?_
        obtain ⟨hi3, h⟩ := mv_chkE h
        refine mv_ild (by decide) rfl (mv_inE hi3) dX11_behind_31 ?_
        refine mv_topi (fun v4 ev4 => ?_)
        replace h := mv_letE h v4 ev4
        refine mv_istore [(5, .int v4), (4, .int v2), (0, .ref 62), (3, .int x3)] dX11_behind_32 (by decide) rfl ?_
        refine mv_iload_n 3 dX11_behind_34 rfl ?_
        refine mv_aload_n 2 dX11_behind_35 rfl ?_
        refine mv_getI fX11_402 (by decide) rfl rfl dX11_behind_36 ?_
        refine mv_icmp_ge 71 dX11_behind_39 (by decide) (fun z => ?_) (fun z => ?_)
        · replace h := mv_ifT z h
          refine mv_sub [2, 1] rfl ?_
          exact zX11_behind_71 hd v2 M h
        · replace h := mv_ifF z h
          refine mv_aload_n 2 dX11_behind_42 rfl ?_
          refine mv_getR 92 fX11_103 (by decide) rfl rfl rfl dX11_behind_43 ?_
          refine mv_iload_n 3 dX11_behind_46 rfl ?_
          obtain ⟨hi5, h⟩ := mv_chkE h
          refine mv_ild (by decide) rfl (mv_inE hi5) dX11_behind_47 ?_
          refine mv_if_ne 56 dX11_behind_48 (by decide) (fun z => ?_) (fun z => ?_)
          · replace h := mv_ifF z h
            refine mv_sub [2, 3, 1, 0] rfl ?_
            exact zX11_behind_56 hd x3 v2 v4 M h
          · replace h := mv_ifT z h
            refine mv_iload 0 dX11_behind_51 rfl ?_
            refine mv_if_gt 71 dX11_behind_53 (by decide) (fun z => ?_) (fun z => ?_)
            · replace h := mv_ifT z h
              refine mv_sub [2, 1] rfl ?_
              exact zX11_behind_71 hd v2 M h
            · replace h := mv_ifF z h
              refine mv_sub [2, 3, 1, 0] rfl ?_
              exact zX11_behind_56 hd x3 v2 v4 M h
noncomputable def fX11_behind (a0 : Int32) (a1 : Int32) (M : mv_M) : Option (Int32 × mv_M) :=
  mv_let (mv_si M 94 (0 : Int32).toNatClampNeg a1) fun M1 =>
  fX11_behind_12 a0 1 M1
set_option maxRecDepth 100000 in
set_option maxHeartbeats 4000000 in
theorem zX11_behind {l : Launch} {d : Nat} {Q : Int32 → mv_M → Prop} (hd : 1 ≤ d) (a0 : Int32) (a1 : Int32) (M : mv_M) (h : mv_ok (fX11_behind a0 a1 M) Q) : mv l mX11_behind d 0 0 (lv_args 0 [.ref 62, .int a0, .int a1]) [] M (mv_qI Q) := by
  unfold fX11_behind at h
  show mv l mX11_behind d 0 0 [(0, .ref 62), (1, .int a0), (2, .int a1)] [] M (mv_qI Q)
  refine mv_iload_n 1 dX11_behind_0 rfl ?_
  refine mv_istore_n [(3, .int a0), (0, .ref 62), (1, .int a0), (2, .int a1)] dX11_behind_1 (by decide) rfl ?_
  refine mv_iconst 1 dX11_behind_2 (by decide) ?_
  refine mv_istore [(4, .int 1), (3, .int a0), (0, .ref 62), (1, .int a0), (2, .int a1)] dX11_behind_3 (by decide) rfl ?_
  refine mv_aload_n 2 dX11_behind_5 rfl ?_
  refine mv_getR 94 fX11_109 (by decide) rfl rfl rfl dX11_behind_6 ?_
  refine mv_iconst 0 dX11_behind_9 (by decide) ?_
  refine mv_iload_n 4 dX11_behind_10 rfl ?_
  refine mv_ist (by decide) rfl (mv_inE (by decide)) dX11_behind_11 (fun M1 eM1 => ?_)
  replace h := mv_letE h M1 eM1
  refine mv_sub [2, 1, 0] rfl ?_
  exact zX11_behind_12 hd a0 1 M1 h
theorem dX11_lay_0 : decode cX11_lay 0 = .ok (.aload_n 0, 1) := by decide +kernel
theorem dX11_lay_1 : decode cX11_lay 1 = .ok (.iload_n 1, 1) := by decide +kernel
theorem dX11_lay_2 : decode cX11_lay 2 = .ok (.iload_n 2, 1) := by decide +kernel
theorem dX11_lay_3 : decode cX11_lay 3 = .ok (.invokevirtual 405, 3) := by decide +kernel
theorem dX11_lay_6 : decode cX11_lay 6 = .ok (.istore_n 3, 1) := by decide +kernel
theorem dX11_lay_7 : decode cX11_lay 7 = .ok (.iload_n 1, 1) := by decide +kernel
theorem dX11_lay_8 : decode cX11_lay 8 = .ok (.istore 4, 2) := by decide +kernel
theorem dX11_lay_10 : decode cX11_lay 10 = .ok (.iload 4, 2) := by decide +kernel
theorem dX11_lay_12 : decode cX11_lay 12 = .ok (.iload_n 3, 1) := by decide +kernel
theorem dX11_lay_13 : decode cX11_lay 13 = .ok (.if_icmp .ge 97, 3) := by decide +kernel
theorem dX11_lay_16 : decode cX11_lay 16 = .ok (.aload_n 0, 1) := by decide +kernel
theorem dX11_lay_17 : decode cX11_lay 17 = .ok (.getfield 127, 3) := by decide +kernel
theorem dX11_lay_20 : decode cX11_lay 20 = .ok (.iload 4, 2) := by decide +kernel
theorem dX11_lay_22 : decode cX11_lay 22 = .ok (.iconst 0, 1) := by decide +kernel
theorem dX11_lay_23 : decode cX11_lay 23 = .ok (.bastore, 1) := by decide +kernel
theorem dX11_lay_24 : decode cX11_lay 24 = .ok (.aload_n 0, 1) := by decide +kernel
theorem dX11_lay_25 : decode cX11_lay 25 = .ok (.getfield 118, 3) := by decide +kernel
theorem dX11_lay_28 : decode cX11_lay 28 = .ok (.iload 4, 2) := by decide +kernel
theorem dX11_lay_30 : decode cX11_lay 30 = .ok (.aload_n 0, 1) := by decide +kernel
theorem dX11_lay_31 : decode cX11_lay 31 = .ok (.getfield 103, 3) := by decide +kernel
theorem dX11_lay_34 : decode cX11_lay 34 = .ok (.iload 4, 2) := by decide +kernel
theorem dX11_lay_36 : decode cX11_lay 36 = .ok (.iaload, 1) := by decide +kernel
theorem dX11_lay_37 : decode cX11_lay 37 = .ok (.iconst 1, 1) := by decide +kernel
theorem dX11_lay_38 : decode cX11_lay 38 = .ok (.if_icmp .ne 7, 3) := by decide +kernel
theorem dX11_lay_41 : decode cX11_lay 41 = .ok (.iconst 3, 1) := by decide +kernel
theorem dX11_lay_42 : decode cX11_lay 42 = .ok (.goto 4, 3) := by decide +kernel
theorem dX11_lay_45 : decode cX11_lay 45 = .ok (.iconst 2, 1) := by decide +kernel
theorem dX11_lay_46 : decode cX11_lay 46 = .ok (.iastore, 1) := by decide +kernel
theorem dX11_lay_47 : decode cX11_lay 47 = .ok (.aload_n 0, 1) := by decide +kernel
theorem dX11_lay_48 : decode cX11_lay 48 = .ok (.getfield 121, 3) := by decide +kernel
theorem dX11_lay_51 : decode cX11_lay 51 = .ok (.iload 4, 2) := by decide +kernel
theorem dX11_lay_53 : decode cX11_lay 53 = .ok (.aload_n 0, 1) := by decide +kernel
theorem dX11_lay_54 : decode cX11_lay 54 = .ok (.getfield 103, 3) := by decide +kernel
theorem dX11_lay_57 : decode cX11_lay 57 = .ok (.iload 4, 2) := by decide +kernel
theorem dX11_lay_59 : decode cX11_lay 59 = .ok (.iaload, 1) := by decide +kernel
theorem dX11_lay_60 : decode cX11_lay 60 = .ok (.iconst 2, 1) := by decide +kernel
theorem dX11_lay_61 : decode cX11_lay 61 = .ok (.if_icmp .ne 7, 3) := by decide +kernel
theorem dX11_lay_64 : decode cX11_lay 64 = .ok (.iconst 1, 1) := by decide +kernel
theorem dX11_lay_65 : decode cX11_lay 65 = .ok (.goto 4, 3) := by decide +kernel
theorem dX11_lay_68 : decode cX11_lay 68 = .ok (.iconst 0, 1) := by decide +kernel
theorem dX11_lay_69 : decode cX11_lay 69 = .ok (.iastore, 1) := by decide +kernel
theorem dX11_lay_70 : decode cX11_lay 70 = .ok (.aload_n 0, 1) := by decide +kernel
theorem dX11_lay_71 : decode cX11_lay 71 = .ok (.getfield 124, 3) := by decide +kernel
theorem dX11_lay_74 : decode cX11_lay 74 = .ok (.iload 4, 2) := by decide +kernel
theorem dX11_lay_76 : decode cX11_lay 76 = .ok (.aload_n 0, 1) := by decide +kernel
theorem dX11_lay_77 : decode cX11_lay 77 = .ok (.getfield 103, 3) := by decide +kernel
theorem dX11_lay_80 : decode cX11_lay 80 = .ok (.iload 4, 2) := by decide +kernel
theorem dX11_lay_82 : decode cX11_lay 82 = .ok (.iaload, 1) := by decide +kernel
theorem dX11_lay_83 : decode cX11_lay 83 = .ok (.iconst 2, 1) := by decide +kernel
theorem dX11_lay_84 : decode cX11_lay 84 = .ok (.if_icmp .ne 12, 3) := by decide +kernel
theorem dX11_lay_87 : decode cX11_lay 87 = .ok (.sipush 1500, 3) := by decide +kernel
theorem dX11_lay_90 : decode cX11_lay 90 = .ok (.iload 4, 2) := by decide +kernel
theorem dX11_lay_92 : decode cX11_lay 92 = .ok (.iadd, 1) := by decide +kernel
theorem dX11_lay_93 : decode cX11_lay 93 = .ok (.goto 10, 3) := by decide +kernel
theorem dX11_lay_96 : decode cX11_lay 96 = .ok (.aload_n 0, 1) := by decide +kernel
theorem dX11_lay_97 : decode cX11_lay 97 = .ok (.getfield 106, 3) := by decide +kernel
theorem dX11_lay_100 : decode cX11_lay 100 = .ok (.iload 4, 2) := by decide +kernel
theorem dX11_lay_102 : decode cX11_lay 102 = .ok (.iaload, 1) := by decide +kernel
theorem dX11_lay_103 : decode cX11_lay 103 = .ok (.iastore, 1) := by decide +kernel
theorem dX11_lay_104 : decode cX11_lay 104 = .ok (.iinc 4 1, 3) := by decide +kernel
theorem dX11_lay_107 : decode cX11_lay 107 = .ok (.goto (-97), 3) := by decide +kernel
theorem dX11_lay_110 : decode cX11_lay 110 = .ok (.iload_n 1, 1) := by decide +kernel
theorem dX11_lay_111 : decode cX11_lay 111 = .ok (.istore 4, 2) := by decide +kernel
theorem dX11_lay_113 : decode cX11_lay 113 = .ok (.iload 4, 2) := by decide +kernel
theorem dX11_lay_115 : decode cX11_lay 115 = .ok (.iload_n 3, 1) := by decide +kernel
theorem dX11_lay_116 : decode cX11_lay 116 = .ok (.if_icmp .ge 72, 3) := by decide +kernel
theorem dX11_lay_119 : decode cX11_lay 119 = .ok (.aload_n 0, 1) := by decide +kernel
theorem dX11_lay_120 : decode cX11_lay 120 = .ok (.getfield 103, 3) := by decide +kernel
theorem dX11_lay_123 : decode cX11_lay 123 = .ok (.iload 4, 2) := by decide +kernel
theorem dX11_lay_125 : decode cX11_lay 125 = .ok (.iaload, 1) := by decide +kernel
theorem dX11_lay_126 : decode cX11_lay 126 = .ok (.iconst 2, 1) := by decide +kernel
theorem dX11_lay_127 : decode cX11_lay 127 = .ok (.if_icmp .ne 55, 3) := by decide +kernel
theorem dX11_lay_130 : decode cX11_lay 130 = .ok (.iload 4, 2) := by decide +kernel
theorem dX11_lay_132 : decode cX11_lay 132 = .ok (.iload_n 1, 1) := by decide +kernel
theorem dX11_lay_133 : decode cX11_lay 133 = .ok (.if_icmp .ne 10, 3) := by decide +kernel
theorem dX11_lay_136 : decode cX11_lay 136 = .ok (.iload_n 2, 1) := by decide +kernel
theorem dX11_lay_137 : decode cX11_lay 137 = .ok (.invokestatic 169, 3) := by decide +kernel
theorem dX11_lay_140 : decode cX11_lay 140 = .ok (.goto 4, 3) := by decide +kernel
theorem dX11_lay_143 : decode cX11_lay 143 = .ok (.iconst 0, 1) := by decide +kernel
theorem dX11_lay_144 : decode cX11_lay 144 = .ok (.istore 5, 2) := by decide +kernel
theorem dX11_lay_146 : decode cX11_lay 146 = .ok (.aload_n 0, 1) := by decide +kernel
theorem dX11_lay_147 : decode cX11_lay 147 = .ok (.getfield 130, 3) := by decide +kernel
theorem dX11_lay_150 : decode cX11_lay 150 = .ok (.sipush 1500, 3) := by decide +kernel
theorem dX11_lay_153 : decode cX11_lay 153 = .ok (.iload 4, 2) := by decide +kernel
theorem dX11_lay_155 : decode cX11_lay 155 = .ok (.iadd, 1) := by decide +kernel
theorem dX11_lay_156 : decode cX11_lay 156 = .ok (.iload 4, 2) := by decide +kernel
theorem dX11_lay_158 : decode cX11_lay 158 = .ok (.iconst 1, 1) := by decide +kernel
theorem dX11_lay_159 : decode cX11_lay 159 = .ok (.iadd, 1) := by decide +kernel
theorem dX11_lay_160 : decode cX11_lay 160 = .ok (.iastore, 1) := by decide +kernel
theorem dX11_lay_161 : decode cX11_lay 161 = .ok (.aload_n 0, 1) := by decide +kernel
theorem dX11_lay_162 : decode cX11_lay 162 = .ok (.getfield 133, 3) := by decide +kernel
theorem dX11_lay_165 : decode cX11_lay 165 = .ok (.sipush 1500, 3) := by decide +kernel
theorem dX11_lay_168 : decode cX11_lay 168 = .ok (.iload 4, 2) := by decide +kernel
theorem dX11_lay_170 : decode cX11_lay 170 = .ok (.iadd, 1) := by decide +kernel
theorem dX11_lay_171 : decode cX11_lay 171 = .ok (.aload_n 0, 1) := by decide +kernel
theorem dX11_lay_172 : decode cX11_lay 172 = .ok (.iload 4, 2) := by decide +kernel
theorem dX11_lay_174 : decode cX11_lay 174 = .ok (.iconst 1, 1) := by decide +kernel
theorem dX11_lay_175 : decode cX11_lay 175 = .ok (.iadd, 1) := by decide +kernel
theorem dX11_lay_176 : decode cX11_lay 176 = .ok (.iload 5, 2) := by decide +kernel
theorem dX11_lay_178 : decode cX11_lay 178 = .ok (.invokevirtual 405, 3) := by decide +kernel
theorem dX11_lay_181 : decode cX11_lay 181 = .ok (.iastore, 1) := by decide +kernel
theorem dX11_lay_182 : decode cX11_lay 182 = .ok (.iinc 4 1, 3) := by decide +kernel
theorem dX11_lay_185 : decode cX11_lay 185 = .ok (.goto (-72), 3) := by decide +kernel
theorem dX11_lay_188 : decode cX11_lay 188 = .ok (.iload_n 3, 1) := by decide +kernel
theorem dX11_lay_189 : decode cX11_lay 189 = .ok (.ireturn, 1) := by decide +kernel
noncomputable def fX11_lay_103 (x1 : Int32) (x2 : Int32) (x3 : Int32) (x4 : Int32) (s0 : Int32) (s1 : Int32) (M : mv_M) : Option (((Int32 × Int32 × Int32 × Int32) ⊕ Int32) × mv_M) :=
  mv_chk (mv_inb s1 1540) <|
  mv_let (mv_si M 99 s1.toNatClampNeg s0) fun M24 =>
  mv_let (x4 + 1) fun v25 =>
  some (.inl (x1, x2, x3, v25), M24)
set_option maxRecDepth 100000 in
set_option maxHeartbeats 4000000 in
theorem zX11_lay_103 {l : Launch} {d : Nat} {Q : Int32 → mv_M → Prop} (hd : 2 ≤ d) (x1 : Int32) (x2 : Int32) (x3 : Int32) (x4 : Int32) (s0 : Int32) (s1 : Int32) (M : mv_M) (h : mv_ok (fX11_lay_103 x1 x2 x3 x4 s0 s1 M) (mv_pq (fun (s : Int32 × Int32 × Int32 × Int32) M => mv l mX11_lay d 0 10 [(0, .ref 62), (1, .int s.1), (2, .int s.2.1), (3, .int s.2.2.1), (4, .int s.2.2.2)] [] M (mv_qI Q)) Q)) : mv l mX11_lay d 0 103 [(0, .ref 62), (1, .int x1), (2, .int x2), (3, .int x3), (4, .int x4)] [.int s0, .int s1, .ref 99] M (mv_qI Q) := by
  unfold fX11_lay_103 at h
  obtain ⟨hi23, h⟩ := mv_chkE h
  refine mv_ist (by decide) rfl (mv_inE hi23) dX11_lay_103 (fun M24 eM24 => ?_)
  replace h := mv_letE h M24 eM24
  obtain ⟨v25, ev25⟩ : ∃ z : Int32, z = x4 + 1 := ⟨_, rfl⟩
  replace h := mv_letE h v25 ev25
  refine mv_iinc v25 4 [(4, .int v25), (0, .ref 62), (1, .int x1), (2, .int x2), (3, .int x3)] dX11_lay_104 rfl (by rw [ev25]; rfl) (by decide) rfl ?_
  refine mv_goto 10 dX11_lay_107 (by decide) ?_
  refine mv_sub [1, 2, 3, 4, 0] rfl ?_
  exact h
noncomputable def fX11_lay_69 (x1 : Int32) (x2 : Int32) (x3 : Int32) (x4 : Int32) (s0 : Int32) (s1 : Int32) (M : mv_M) : Option (((Int32 × Int32 × Int32 × Int32) ⊕ Int32) × mv_M) :=
  mv_chk (mv_inb s1 1540) <|
  mv_let (mv_si M 98 s1.toNatClampNeg s0) fun M20 =>
  mv_chk (mv_inb x4 40) <|
  if (M20.1 92 x4.toNatClampNeg) = 2 then
    fX11_lay_103 x1 x2 x3 x4 (1500 + x4) x4 M20
  else
    mv_chk (mv_inb x4 40) <|
    fX11_lay_103 x1 x2 x3 x4 (M20.1 93 x4.toNatClampNeg) x4 M20
set_option maxRecDepth 100000 in
set_option maxHeartbeats 4000000 in
theorem zX11_lay_69 {l : Launch} {d : Nat} {Q : Int32 → mv_M → Prop} (hd : 2 ≤ d) (x1 : Int32) (x2 : Int32) (x3 : Int32) (x4 : Int32) (s0 : Int32) (s1 : Int32) (M : mv_M) (h : mv_ok (fX11_lay_69 x1 x2 x3 x4 s0 s1 M) (mv_pq (fun (s : Int32 × Int32 × Int32 × Int32) M => mv l mX11_lay d 0 10 [(0, .ref 62), (1, .int s.1), (2, .int s.2.1), (3, .int s.2.2.1), (4, .int s.2.2.2)] [] M (mv_qI Q)) Q)) : mv l mX11_lay d 0 69 [(0, .ref 62), (1, .int x1), (2, .int x2), (3, .int x3), (4, .int x4)] [.int s0, .int s1, .ref 98] M (mv_qI Q) := by
  unfold fX11_lay_69 at h
  obtain ⟨hi19, h⟩ := mv_chkE h
  refine mv_ist (by decide) rfl (mv_inE hi19) dX11_lay_69 (fun M20 eM20 => ?_)
  replace h := mv_letE h M20 eM20
  refine mv_aload_n 0 dX11_lay_70 rfl ?_
  refine mv_getR 99 fX11_124 (by decide) rfl rfl rfl dX11_lay_71 ?_
  refine mv_iload 4 dX11_lay_74 rfl ?_
  refine mv_aload_n 0 dX11_lay_76 rfl ?_
  refine mv_getR 92 fX11_103 (by decide) rfl rfl rfl dX11_lay_77 ?_
  refine mv_iload 4 dX11_lay_80 rfl ?_
  obtain ⟨hi21, h⟩ := mv_chkE h
  refine mv_ild (by decide) rfl (mv_inE hi21) dX11_lay_82 ?_
  refine mv_iconst 2 dX11_lay_83 (by decide) ?_
  refine mv_icmp_ne 96 dX11_lay_84 (by decide) (fun z => ?_) (fun z => ?_)
  · replace h := mv_ifF z h
    refine mv_aload_n 0 dX11_lay_96 rfl ?_
    refine mv_getR 93 fX11_106 (by decide) rfl rfl rfl dX11_lay_97 ?_
    refine mv_iload 4 dX11_lay_100 rfl ?_
    obtain ⟨hi22, h⟩ := mv_chkE h
    refine mv_ild (by decide) rfl (mv_inE hi22) dX11_lay_102 ?_
    refine mv_sub [0, 1, 2, 3, 4] rfl ?_
    exact zX11_lay_103 hd x1 x2 x3 x4 (M20.1 93 x4.toNatClampNeg) x4 M20 h
  · replace h := mv_ifT z h
    refine mv_sipush 1500 dX11_lay_87 (by decide) ?_
    refine mv_iload 4 dX11_lay_90 rfl ?_
    refine mv_iadd dX11_lay_92 ?_
    refine mv_goto 103 dX11_lay_93 (by decide) ?_
    refine mv_sub [0, 1, 2, 3, 4] rfl ?_
    exact zX11_lay_103 hd x1 x2 x3 x4 (1500 + x4) x4 M20 h
noncomputable def fX11_lay_46 (x1 : Int32) (x2 : Int32) (x3 : Int32) (x4 : Int32) (s0 : Int32) (s1 : Int32) (M : mv_M) : Option (((Int32 × Int32 × Int32 × Int32) ⊕ Int32) × mv_M) :=
  mv_chk (mv_inb s1 1540) <|
  mv_let (mv_si M 97 s1.toNatClampNeg s0) fun M10 =>
  mv_chk (mv_inb x4 40) <|
  if (M10.1 92 x4.toNatClampNeg) = 2 then
    fX11_lay_69 x1 x2 x3 x4 1 x4 M10
  else
    fX11_lay_69 x1 x2 x3 x4 0 x4 M10
set_option maxRecDepth 100000 in
set_option maxHeartbeats 4000000 in
theorem zX11_lay_46 {l : Launch} {d : Nat} {Q : Int32 → mv_M → Prop} (hd : 2 ≤ d) (x1 : Int32) (x2 : Int32) (x3 : Int32) (x4 : Int32) (s0 : Int32) (s1 : Int32) (M : mv_M) (h : mv_ok (fX11_lay_46 x1 x2 x3 x4 s0 s1 M) (mv_pq (fun (s : Int32 × Int32 × Int32 × Int32) M => mv l mX11_lay d 0 10 [(0, .ref 62), (1, .int s.1), (2, .int s.2.1), (3, .int s.2.2.1), (4, .int s.2.2.2)] [] M (mv_qI Q)) Q)) : mv l mX11_lay d 0 46 [(0, .ref 62), (1, .int x1), (2, .int x2), (3, .int x3), (4, .int x4)] [.int s0, .int s1, .ref 97] M (mv_qI Q) := by
  unfold fX11_lay_46 at h
  obtain ⟨hi9, h⟩ := mv_chkE h
  refine mv_ist (by decide) rfl (mv_inE hi9) dX11_lay_46 (fun M10 eM10 => ?_)
  replace h := mv_letE h M10 eM10
  refine mv_aload_n 0 dX11_lay_47 rfl ?_
  refine mv_getR 98 fX11_121 (by decide) rfl rfl rfl dX11_lay_48 ?_
  refine mv_iload 4 dX11_lay_51 rfl ?_
  refine mv_aload_n 0 dX11_lay_53 rfl ?_
  refine mv_getR 92 fX11_103 (by decide) rfl rfl rfl dX11_lay_54 ?_
  refine mv_iload 4 dX11_lay_57 rfl ?_
  obtain ⟨hi11, h⟩ := mv_chkE h
  refine mv_ild (by decide) rfl (mv_inE hi11) dX11_lay_59 ?_
  refine mv_iconst 2 dX11_lay_60 (by decide) ?_
  refine mv_icmp_ne 68 dX11_lay_61 (by decide) (fun z => ?_) (fun z => ?_)
  · replace h := mv_ifF z h
    refine mv_iconst 0 dX11_lay_68 (by decide) ?_
    refine mv_sub [0, 1, 2, 3, 4] rfl ?_
    exact zX11_lay_69 hd x1 x2 x3 x4 0 x4 M10 h
  · replace h := mv_ifT z h
    refine mv_iconst 1 dX11_lay_64 (by decide) ?_
    refine mv_goto 69 dX11_lay_65 (by decide) ?_
    refine mv_sub [0, 1, 2, 3, 4] rfl ?_
    exact zX11_lay_69 hd x1 x2 x3 x4 1 x4 M10 h
noncomputable def fX11_lay_182 (x1 : Int32) (x2 : Int32) (x3 : Int32) (x4 : Int32) (M : mv_M) : Option (((Int32 × Int32 × Int32 × Int32) ⊕ Int32) × mv_M) :=
  mv_let (x4 + 1) fun v12 =>
  some (.inl (x1, x2, x3, v12), M)
set_option maxRecDepth 100000 in
set_option maxHeartbeats 4000000 in
theorem zX11_lay_182 {l : Launch} {d : Nat} {Q : Int32 → mv_M → Prop} (hd : 2 ≤ d) (x1 : Int32) (x2 : Int32) (x3 : Int32) (x4 : Int32) (M : mv_M) (h : mv_ok (fX11_lay_182 x1 x2 x3 x4 M) (mv_pq (fun (s : Int32 × Int32 × Int32 × Int32) M => mv l mX11_lay d 0 113 [(0, .ref 62), (1, .int s.1), (2, .int s.2.1), (3, .int s.2.2.1), (4, .int s.2.2.2)] [] M (mv_qI Q)) Q)) : mv l mX11_lay d 0 182 [(0, .ref 62), (1, .int x1), (2, .int x2), (3, .int x3), (4, .int x4)] [] M (mv_qI Q) := by
  unfold fX11_lay_182 at h
  obtain ⟨v12, ev12⟩ : ∃ z : Int32, z = x4 + 1 := ⟨_, rfl⟩
  replace h := mv_letE h v12 ev12
  refine mv_iinc v12 4 [(4, .int v12), (0, .ref 62), (1, .int x1), (2, .int x2), (3, .int x3)] dX11_lay_182 rfl (by rw [ev12]; rfl) (by decide) rfl ?_
  refine mv_goto 113 dX11_lay_185 (by decide) ?_
  refine mv_sub [1, 2, 3, 4, 0] rfl ?_
  exact h
noncomputable def fX11_lay_144 (x1 : Int32) (x2 : Int32) (x3 : Int32) (x4 : Int32) (s0 : Int32) (M : mv_M) : Option (((Int32 × Int32 × Int32 × Int32) ⊕ Int32) × mv_M) :=
  mv_chk (mv_inb (1500 + x4) 1540) <|
  mv_let (mv_si M 101 (1500 + x4).toNatClampNeg (x4 + 1)) fun M14 =>
  mv_bind (fX11_behind (x4 + 1) s0 M14) fun r15 M16 =>
  mv_chk (mv_inb (1500 + x4) 1540) <|
  mv_let (mv_si M16 102 (1500 + x4).toNatClampNeg r15) fun M18 =>
  fX11_lay_182 x1 x2 x3 x4 M18
set_option maxRecDepth 100000 in
set_option maxHeartbeats 4000000 in
theorem zX11_lay_144 {l : Launch} {d : Nat} {Q : Int32 → mv_M → Prop} (hd : 2 ≤ d) (x1 : Int32) (x2 : Int32) (x3 : Int32) (x4 : Int32) (s0 : Int32) (M : mv_M) (h : mv_ok (fX11_lay_144 x1 x2 x3 x4 s0 M) (mv_pq (fun (s : Int32 × Int32 × Int32 × Int32) M => mv l mX11_lay d 0 113 [(0, .ref 62), (1, .int s.1), (2, .int s.2.1), (3, .int s.2.2.1), (4, .int s.2.2.2)] [] M (mv_qI Q)) Q)) : mv l mX11_lay d 0 144 [(0, .ref 62), (1, .int x1), (2, .int x2), (3, .int x3), (4, .int x4)] [.int s0] M (mv_qI Q) := by
  unfold fX11_lay_144 at h
  refine mv_istore [(5, .int s0), (0, .ref 62), (1, .int x1), (2, .int x2), (3, .int x3), (4, .int x4)] dX11_lay_144 (by decide) rfl ?_
  refine mv_aload_n 1 dX11_lay_146 rfl ?_
  refine mv_getR 101 fX11_130 (by decide) rfl rfl rfl dX11_lay_147 ?_
  refine mv_sipush 1500 dX11_lay_150 (by decide) ?_
  refine mv_iload 5 dX11_lay_153 rfl ?_
  refine mv_iadd dX11_lay_155 ?_
  refine mv_iload 5 dX11_lay_156 rfl ?_
  refine mv_iconst 1 dX11_lay_158 (by decide) ?_
  refine mv_iadd dX11_lay_159 ?_
  obtain ⟨hi13, h⟩ := mv_chkE h
  refine mv_ist (by decide) rfl (mv_inE hi13) dX11_lay_160 (fun M14 eM14 => ?_)
  replace h := mv_letE h M14 eM14
  refine mv_aload_n 1 dX11_lay_161 rfl ?_
  refine mv_getR 102 fX11_133 (by decide) rfl rfl rfl dX11_lay_162 ?_
  refine mv_sipush 1500 dX11_lay_165 (by decide) ?_
  refine mv_iload 5 dX11_lay_168 rfl ?_
  refine mv_iadd dX11_lay_170 ?_
  refine mv_aload_n 1 dX11_lay_171 rfl ?_
  refine mv_iload 5 dX11_lay_172 rfl ?_
  refine mv_iconst 1 dX11_lay_174 (by decide) ?_
  refine mv_iadd dX11_lay_175 ?_
  refine mv_iload 0 dX11_lay_176 rfl ?_
  refine mv_cvI (As := [.int (x4 + 1), .int s0]) (st := [.int (1500 + x4), .ref 102]) okX11_behind lX11_405 (by decide) rfl rfl rfl (Nat.le_of_ble_eq_true rfl) rfl (Nat.le_of_ble_eq_true rfl) dX11_lay_178 (by omega) rfl (zX11_behind (d := d - 1) (by omega) (x4 + 1) s0 M14 (mv_bindE h)) (fun r15 M16 h => ?_)
  obtain ⟨hi17, h⟩ := mv_chkE h
  refine mv_ist (by decide) rfl (mv_inE hi17) dX11_lay_181 (fun M18 eM18 => ?_)
  replace h := mv_letE h M18 eM18
  refine mv_sub [1, 2, 3, 4, 5] rfl ?_
  exact zX11_lay_182 hd x1 x2 x3 x4 M18 h
noncomputable def gX11_lay_113 (x1 : Int32) (x2 : Int32) (x3 : Int32) (x4 : Int32) (M : mv_M) : Option (((Int32 × Int32 × Int32 × Int32) ⊕ Int32) × mv_M) :=
  if x3 ≤ x4 then
    some (.inr (x3), M)
  else
    mv_chk (mv_inb x4 40) <|
    if (M.1 92 x4.toNatClampNeg) = 2 then
      if x4 = x1 then
        mv_bind (fX11_firstOf x2 M) fun r7 M8 =>
        fX11_lay_144 x1 x2 x3 x4 r7 M8
      else
        fX11_lay_144 x1 x2 x3 x4 0 M
    else
      fX11_lay_182 x1 x2 x3 x4 M
noncomputable def fX11_lay_113 (x1 : Int32) (x2 : Int32) (x3 : Int32) (x4 : Int32) (M : mv_M) : Option (Int32 × mv_M) := mv_loop (fun (s : Int32 × Int32 × Int32 × Int32) M => gX11_lay_113 s.1 s.2.1 s.2.2.1 s.2.2.2 M) (x1, x2, x3, x4) M
set_option maxRecDepth 100000 in
set_option maxHeartbeats 4000000 in
theorem zX11_lay_113 {l : Launch} {d : Nat} {Q : Int32 → mv_M → Prop} (hd : 2 ≤ d) (x1 : Int32) (x2 : Int32) (x3 : Int32) (x4 : Int32) (M : mv_M) (h : mv_ok (fX11_lay_113 x1 x2 x3 x4 M) Q) : mv l mX11_lay d 0 113 [(0, .ref 62), (1, .int x1), (2, .int x2), (3, .int x3), (4, .int x4)] [] M (mv_qI Q) := by
  unfold fX11_lay_113 at h
  refine mv_loopE (A := (fun (s : Int32 × Int32 × Int32 × Int32) M => mv l mX11_lay d 0 113 [(0, .ref 62), (1, .int s.1), (2, .int s.2.1), (3, .int s.2.2.1), (4, .int s.2.2.2)] [] M (mv_qI Q))) ?_ (x1, x2, x3, x4) M h
  · rintro ⟨x1, x2, x3, x4⟩ M h
    try dsimp only at h
    show mv l mX11_lay d 0 113 [(0, .ref 62), (1, .int x1), (2, .int x2), (3, .int x3), (4, .int x4)] [] M (mv_qI Q)
    unfold gX11_lay_113 at h
    refine mv_iload 4 dX11_lay_113 rfl ?_
    refine mv_iload_n 3 dX11_lay_115 rfl ?_
    refine mv_icmp_ge 188 dX11_lay_116 (by decide) (fun z => ?_) (fun z => ?_)
    · replace h := mv_ifT z h
      refine mv_iload_n 3 dX11_lay_188 rfl ?_
      exact mv_iret rfl dX11_lay_189 ⟨_, rfl, h⟩
    · replace h := mv_ifF z h
      refine mv_aload_n 0 dX11_lay_119 rfl ?_
      refine mv_getR 92 fX11_103 (by decide) rfl rfl rfl dX11_lay_120 ?_
      refine mv_iload 4 dX11_lay_123 rfl ?_
      obtain ⟨hi6, h⟩ := mv_chkE h
      refine mv_ild (by decide) rfl (mv_inE hi6) dX11_lay_125 ?_
      refine mv_iconst 2 dX11_lay_126 (by decide) ?_
      refine mv_icmp_ne 182 dX11_lay_127 (by decide) (fun z => ?_) (fun z => ?_)
      · replace h := mv_ifF z h
        refine mv_sub [0, 1, 2, 3, 4] rfl ?_
        exact zX11_lay_182 hd x1 x2 x3 x4 M h
      · replace h := mv_ifT z h
        refine mv_iload 4 dX11_lay_130 rfl ?_
        refine mv_iload_n 1 dX11_lay_132 rfl ?_
        refine mv_icmp_ne 143 dX11_lay_133 (by decide) (fun z => ?_) (fun z => ?_)
        · replace h := mv_ifF z h
          refine mv_iconst 0 dX11_lay_143 (by decide) ?_
          refine mv_sub [0, 1, 2, 3, 4] rfl ?_
          exact zX11_lay_144 hd x1 x2 x3 x4 0 M h
        · replace h := mv_ifT z h
          refine mv_iload_n 2 dX11_lay_136 rfl ?_
          refine mv_csI (As := [.int x2]) (st := []) okX11_firstOf lX11_169 rfl (Nat.le_of_ble_eq_true rfl) rfl (Nat.le_of_ble_eq_true rfl) dX11_lay_137 (by omega) rfl (zX11_firstOf (d := d - 1) (by omega) x2 M (mv_bindE h)) (fun r7 M8 h => ?_)
          refine mv_goto 144 dX11_lay_140 (by decide) ?_
          refine mv_sub [0, 1, 2, 3, 4] rfl ?_
          exact zX11_lay_144 hd x1 x2 x3 x4 r7 M8 h
noncomputable def gX11_lay_10 (x1 : Int32) (x2 : Int32) (x3 : Int32) (x4 : Int32) (M : mv_M) : Option (((Int32 × Int32 × Int32 × Int32) ⊕ Int32) × mv_M) :=
  if x3 ≤ x4 then
    mv_inr (fX11_lay_113 x1 x2 x3 x1 M)
  else
    mv_chk (mv_inb x4 1540) <|
    mv_let (mv_si M 100 x4.toNatClampNeg (vp_nar .boolean 0)) fun M4 =>
    mv_chk (mv_inb x4 40) <|
    if (M4.1 92 x4.toNatClampNeg) = 1 then
      fX11_lay_46 x1 x2 x3 x4 3 x4 M4
    else
      fX11_lay_46 x1 x2 x3 x4 2 x4 M4
noncomputable def fX11_lay_10 (x1 : Int32) (x2 : Int32) (x3 : Int32) (x4 : Int32) (M : mv_M) : Option (Int32 × mv_M) := mv_loop (fun (s : Int32 × Int32 × Int32 × Int32) M => gX11_lay_10 s.1 s.2.1 s.2.2.1 s.2.2.2 M) (x1, x2, x3, x4) M
set_option maxRecDepth 100000 in
set_option maxHeartbeats 4000000 in
theorem zX11_lay_10 {l : Launch} {d : Nat} {Q : Int32 → mv_M → Prop} (hd : 2 ≤ d) (x1 : Int32) (x2 : Int32) (x3 : Int32) (x4 : Int32) (M : mv_M) (h : mv_ok (fX11_lay_10 x1 x2 x3 x4 M) Q) : mv l mX11_lay d 0 10 [(0, .ref 62), (1, .int x1), (2, .int x2), (3, .int x3), (4, .int x4)] [] M (mv_qI Q) := by
  unfold fX11_lay_10 at h
  refine mv_loopE (A := (fun (s : Int32 × Int32 × Int32 × Int32) M => mv l mX11_lay d 0 10 [(0, .ref 62), (1, .int s.1), (2, .int s.2.1), (3, .int s.2.2.1), (4, .int s.2.2.2)] [] M (mv_qI Q))) ?_ (x1, x2, x3, x4) M h
  · rintro ⟨x1, x2, x3, x4⟩ M h
    try dsimp only at h
    show mv l mX11_lay d 0 10 [(0, .ref 62), (1, .int x1), (2, .int x2), (3, .int x3), (4, .int x4)] [] M (mv_qI Q)
    unfold gX11_lay_10 at h
    refine mv_iload 4 dX11_lay_10 rfl ?_
    refine mv_iload_n 3 dX11_lay_12 rfl ?_
    refine mv_icmp_ge 110 dX11_lay_13 (by decide) (fun z => ?_) (fun z => ?_)
    · replace h := mv_ifT z h
      refine mv_iload_n 1 dX11_lay_110 rfl ?_
      refine mv_istore [(4, .int x1), (0, .ref 62), (1, .int x1), (2, .int x2), (3, .int x3)] dX11_lay_111 (by decide) rfl ?_
      refine mv_sub [1, 2, 3, 4, 0] rfl ?_
      exact zX11_lay_113 hd x1 x2 x3 x1 M (mv_inrE h)
    · replace h := mv_ifF z h
      refine mv_aload_n 0 dX11_lay_16 rfl ?_
      refine mv_getR 100 fX11_127 (by decide) rfl rfl rfl dX11_lay_17 ?_
      refine mv_iload 4 dX11_lay_20 rfl ?_
      refine mv_iconst 0 dX11_lay_22 (by decide) ?_
      obtain ⟨hi3, h⟩ := mv_chkE h
      refine mv_zst (by decide) rfl (mv_inE hi3) dX11_lay_23 (fun M4 eM4 => ?_)
      replace h := mv_letE h M4 eM4
      refine mv_aload_n 0 dX11_lay_24 rfl ?_
      refine mv_getR 97 fX11_118 (by decide) rfl rfl rfl dX11_lay_25 ?_
      refine mv_iload 4 dX11_lay_28 rfl ?_
      refine mv_aload_n 0 dX11_lay_30 rfl ?_
      refine mv_getR 92 fX11_103 (by decide) rfl rfl rfl dX11_lay_31 ?_
      refine mv_iload 4 dX11_lay_34 rfl ?_
      obtain ⟨hi5, h⟩ := mv_chkE h
      refine mv_ild (by decide) rfl (mv_inE hi5) dX11_lay_36 ?_
      refine mv_iconst 1 dX11_lay_37 (by decide) ?_
      refine mv_icmp_ne 45 dX11_lay_38 (by decide) (fun z => ?_) (fun z => ?_)
      · replace h := mv_ifF z h
        refine mv_iconst 2 dX11_lay_45 (by decide) ?_
        refine mv_sub [0, 1, 2, 3, 4] rfl ?_
        exact zX11_lay_46 hd x1 x2 x3 x4 2 x4 M4 h
      · replace h := mv_ifT z h
        refine mv_iconst 3 dX11_lay_41 (by decide) ?_
        refine mv_goto 46 dX11_lay_42 (by decide) ?_
        refine mv_sub [0, 1, 2, 3, 4] rfl ?_
        exact zX11_lay_46 hd x1 x2 x3 x4 3 x4 M4 h
noncomputable def fX11_lay (a0 : Int32) (a1 : Int32) (M : mv_M) : Option (Int32 × mv_M) :=
  mv_bind (fX11_behind a0 a1 M) fun r1 M2 =>
  fX11_lay_10 a0 a1 r1 a0 M2
set_option maxRecDepth 100000 in
set_option maxHeartbeats 4000000 in
theorem zX11_lay {l : Launch} {d : Nat} {Q : Int32 → mv_M → Prop} (hd : 2 ≤ d) (a0 : Int32) (a1 : Int32) (M : mv_M) (h : mv_ok (fX11_lay a0 a1 M) Q) : mv l mX11_lay d 0 0 (lv_args 0 [.ref 62, .int a0, .int a1]) [] M (mv_qI Q) := by
  unfold fX11_lay at h
  show mv l mX11_lay d 0 0 [(0, .ref 62), (1, .int a0), (2, .int a1)] [] M (mv_qI Q)
  refine mv_aload_n 0 dX11_lay_0 rfl ?_
  refine mv_iload_n 1 dX11_lay_1 rfl ?_
  refine mv_iload_n 2 dX11_lay_2 rfl ?_
  refine mv_cvI (As := [.int a0, .int a1]) (st := []) okX11_behind lX11_405 (by decide) rfl rfl rfl (Nat.le_of_ble_eq_true rfl) rfl (Nat.le_of_ble_eq_true rfl) dX11_lay_3 (by omega) rfl (zX11_behind (d := d - 1) (by omega) a0 a1 M (mv_bindE h)) (fun r1 M2 h => ?_)
  refine mv_istore_n [(3, .int r1), (0, .ref 62), (1, .int a0), (2, .int a1)] dX11_lay_6 (by decide) rfl ?_
  refine mv_iload_n 2 dX11_lay_7 rfl ?_
  refine mv_istore [(4, .int a0), (3, .int r1), (0, .ref 62), (1, .int a0), (2, .int a1)] dX11_lay_8 (by decide) rfl ?_
  refine mv_sub [2, 3, 4, 1, 0] rfl ?_
  exact zX11_lay_10 hd a0 a1 r1 a0 M2 h
theorem dX11_thing_0 : decode cX11_thing 0 = .ok (.aload_n 0, 1) := by decide +kernel
theorem dX11_thing_1 : decode cX11_thing 1 = .ok (.getfield 408, 3) := by decide +kernel
theorem dX11_thing_4 : decode cX11_thing 4 = .ok (.ifCond .eq 5, 3) := by decide +kernel
theorem dX11_thing_7 : decode cX11_thing 7 = .ok (.iconst 0, 1) := by decide +kernel
theorem dX11_thing_8 : decode cX11_thing 8 = .ok (.ireturn, 1) := by decide +kernel
theorem dX11_thing_9 : decode cX11_thing 9 = .ok (.aload_n 0, 1) := by decide +kernel
theorem dX11_thing_10 : decode cX11_thing 10 = .ok (.getfield 39, 3) := by decide +kernel
theorem dX11_thing_13 : decode cX11_thing 13 = .ok (.iload_n 1, 1) := by decide +kernel
theorem dX11_thing_14 : decode cX11_thing 14 = .ok (.iaload, 1) := by decide +kernel
theorem dX11_thing_15 : decode cX11_thing 15 = .ok (.bipush 7, 2) := by decide +kernel
theorem dX11_thing_17 : decode cX11_thing 17 = .ok (.if_icmp .ne 20, 3) := by decide +kernel
theorem dX11_thing_20 : decode cX11_thing 20 = .ok (.aload_n 0, 1) := by decide +kernel
theorem dX11_thing_21 : decode cX11_thing 21 = .ok (.getfield 136, 3) := by decide +kernel
theorem dX11_thing_24 : decode cX11_thing 24 = .ok (.bipush 16, 2) := by decide +kernel
theorem dX11_thing_26 : decode cX11_thing 26 = .ok (.iload_n 2, 1) := by decide +kernel
theorem dX11_thing_27 : decode cX11_thing 27 = .ok (.imul, 1) := by decide +kernel
theorem dX11_thing_28 : decode cX11_thing 28 = .ok (.aload_n 0, 1) := by decide +kernel
theorem dX11_thing_29 : decode cX11_thing 29 = .ok (.getfield 42, 3) := by decide +kernel
theorem dX11_thing_32 : decode cX11_thing 32 = .ok (.iload_n 1, 1) := by decide +kernel
theorem dX11_thing_33 : decode cX11_thing 33 = .ok (.iaload, 1) := by decide +kernel
theorem dX11_thing_34 : decode cX11_thing 34 = .ok (.iadd, 1) := by decide +kernel
theorem dX11_thing_35 : decode cX11_thing 35 = .ok (.iaload, 1) := by decide +kernel
theorem dX11_thing_36 : decode cX11_thing 36 = .ok (.ireturn, 1) := by decide +kernel
theorem dX11_thing_37 : decode cX11_thing 37 = .ok (.aload_n 0, 1) := by decide +kernel
theorem dX11_thing_38 : decode cX11_thing 38 = .ok (.getfield 411, 3) := by decide +kernel
theorem dX11_thing_41 : decode cX11_thing 41 = .ok (.sipush 1500, 3) := by decide +kernel
theorem dX11_thing_44 : decode cX11_thing 44 = .ok (.if_icmp .ne 10, 3) := by decide +kernel
theorem dX11_thing_47 : decode cX11_thing 47 = .ok (.aload_n 0, 1) := by decide +kernel
theorem dX11_thing_48 : decode cX11_thing 48 = .ok (.iconst 5, 1) := by decide +kernel
theorem dX11_thing_49 : decode cX11_thing 49 = .ok (.putfield 408, 3) := by decide +kernel
theorem dX11_thing_52 : decode cX11_thing 52 = .ok (.iconst 0, 1) := by decide +kernel
theorem dX11_thing_53 : decode cX11_thing 53 = .ok (.ireturn, 1) := by decide +kernel
theorem dX11_thing_54 : decode cX11_thing 54 = .ok (.bipush 40, 2) := by decide +kernel
theorem dX11_thing_56 : decode cX11_thing 56 = .ok (.aload_n 0, 1) := by decide +kernel
theorem dX11_thing_57 : decode cX11_thing 57 = .ok (.getfield 411, 3) := by decide +kernel
theorem dX11_thing_60 : decode cX11_thing 60 = .ok (.iadd, 1) := by decide +kernel
theorem dX11_thing_61 : decode cX11_thing 61 = .ok (.istore_n 3, 1) := by decide +kernel
theorem dX11_thing_62 : decode cX11_thing 62 = .ok (.aload_n 0, 1) := by decide +kernel
theorem dX11_thing_63 : decode cX11_thing 63 = .ok (.dup, 1) := by decide +kernel
theorem dX11_thing_64 : decode cX11_thing 64 = .ok (.getfield 411, 3) := by decide +kernel
theorem dX11_thing_67 : decode cX11_thing 67 = .ok (.iconst 1, 1) := by decide +kernel
theorem dX11_thing_68 : decode cX11_thing 68 = .ok (.iadd, 1) := by decide +kernel
theorem dX11_thing_69 : decode cX11_thing 69 = .ok (.putfield 411, 3) := by decide +kernel
theorem dX11_thing_72 : decode cX11_thing 72 = .ok (.aload_n 0, 1) := by decide +kernel
theorem dX11_thing_73 : decode cX11_thing 73 = .ok (.getfield 112, 3) := by decide +kernel
theorem dX11_thing_76 : decode cX11_thing 76 = .ok (.iload_n 3, 1) := by decide +kernel
theorem dX11_thing_77 : decode cX11_thing 77 = .ok (.iload_n 1, 1) := by decide +kernel
theorem dX11_thing_78 : decode cX11_thing 78 = .ok (.iastore, 1) := by decide +kernel
theorem dX11_thing_79 : decode cX11_thing 79 = .ok (.aload_n 0, 1) := by decide +kernel
theorem dX11_thing_80 : decode cX11_thing 80 = .ok (.getfield 115, 3) := by decide +kernel
theorem dX11_thing_83 : decode cX11_thing 83 = .ok (.iload_n 3, 1) := by decide +kernel
theorem dX11_thing_84 : decode cX11_thing 84 = .ok (.iload_n 2, 1) := by decide +kernel
theorem dX11_thing_85 : decode cX11_thing 85 = .ok (.iastore, 1) := by decide +kernel
theorem dX11_thing_86 : decode cX11_thing 86 = .ok (.aload_n 0, 1) := by decide +kernel
theorem dX11_thing_87 : decode cX11_thing 87 = .ok (.getfield 118, 3) := by decide +kernel
theorem dX11_thing_90 : decode cX11_thing 90 = .ok (.iload_n 3, 1) := by decide +kernel
theorem dX11_thing_91 : decode cX11_thing 91 = .ok (.iconst 0, 1) := by decide +kernel
theorem dX11_thing_92 : decode cX11_thing 92 = .ok (.iastore, 1) := by decide +kernel
theorem dX11_thing_93 : decode cX11_thing 93 = .ok (.aload_n 0, 1) := by decide +kernel
theorem dX11_thing_94 : decode cX11_thing 94 = .ok (.getfield 127, 3) := by decide +kernel
theorem dX11_thing_97 : decode cX11_thing 97 = .ok (.iload_n 3, 1) := by decide +kernel
theorem dX11_thing_98 : decode cX11_thing 98 = .ok (.iconst 0, 1) := by decide +kernel
theorem dX11_thing_99 : decode cX11_thing 99 = .ok (.bastore, 1) := by decide +kernel
theorem dX11_thing_100 : decode cX11_thing 100 = .ok (.iload_n 3, 1) := by decide +kernel
theorem dX11_thing_101 : decode cX11_thing 101 = .ok (.ireturn, 1) := by decide +kernel
noncomputable def fX11_thing (a0 : Int32) (a1 : Int32) (M : mv_M) : Option (Int32 × mv_M) :=
  if (M.1 62 74) = 0 then
    mv_chk (mv_inb a0 2002) <|
    if (M.1 71 a0.toNatClampNeg) = 7 then
      mv_chk (mv_inb a0 2002) <|
      mv_chk (mv_inb ((16 * a1) + (M.1 72 a0.toNatClampNeg)) 24032) <|
      some (M.1 103 ((16 * a1) + (M.1 72 a0.toNatClampNeg)).toNatClampNeg, M)
    else
      if (M.1 62 67) = 1500 then
        mv_let (mv_si M 62 74 5) fun M12 =>
        some (0, M12)
      else
        mv_let (40 + (M.1 62 67)) fun v2 =>
        mv_let (mv_si M 62 67 ((M.1 62 67) + 1)) fun M3 =>
        mv_chk (mv_inb v2 1540) <|
        mv_let (mv_si M3 95 v2.toNatClampNeg a0) fun M5 =>
        mv_chk (mv_inb v2 1540) <|
        mv_let (mv_si M5 96 v2.toNatClampNeg a1) fun M7 =>
        mv_chk (mv_inb v2 1540) <|
        mv_let (mv_si M7 97 v2.toNatClampNeg 0) fun M9 =>
        mv_chk (mv_inb v2 1540) <|
        mv_let (mv_si M9 100 v2.toNatClampNeg (vp_nar .boolean 0)) fun M11 =>
        some (v2, M11)
  else
    some (0, M)
set_option maxRecDepth 100000 in
set_option maxHeartbeats 4000000 in
theorem zX11_thing {l : Launch} {d : Nat} {Q : Int32 → mv_M → Prop} (hd : 0 ≤ d) (a0 : Int32) (a1 : Int32) (M : mv_M) (h : mv_ok (fX11_thing a0 a1 M) Q) : mv l mX11_thing d 0 0 (lv_args 0 [.ref 62, .int a0, .int a1]) [] M (mv_qI Q) := by
  unfold fX11_thing at h
  show mv l mX11_thing d 0 0 [(0, .ref 62), (1, .int a0), (2, .int a1)] [] M (mv_qI Q)
  refine mv_aload_n 0 dX11_thing_0 rfl ?_
  refine mv_getI fX11_408 (by decide) rfl rfl dX11_thing_1 ?_
  refine mv_if_eq 9 dX11_thing_4 (by decide) (fun z => ?_) (fun z => ?_)
  · replace h := mv_ifT z h
    refine mv_aload_n 0 dX11_thing_9 rfl ?_
    refine mv_getR 71 fX11_39 (by decide) rfl rfl rfl dX11_thing_10 ?_
    refine mv_iload_n 1 dX11_thing_13 rfl ?_
    obtain ⟨hi1, h⟩ := mv_chkE h
    refine mv_ild (by decide) rfl (mv_inE hi1) dX11_thing_14 ?_
    refine mv_bipush 7 dX11_thing_15 (by decide) ?_
    refine mv_icmp_ne 37 dX11_thing_17 (by decide) (fun z => ?_) (fun z => ?_)
    · replace h := mv_ifF z h
      refine mv_aload_n 0 dX11_thing_37 rfl ?_
      refine mv_getI fX11_411 (by decide) rfl rfl dX11_thing_38 ?_
      refine mv_sipush 1500 dX11_thing_41 (by decide) ?_
      refine mv_icmp_ne 54 dX11_thing_44 (by decide) (fun z => ?_) (fun z => ?_)
      · replace h := mv_ifF z h
        refine mv_bipush 40 dX11_thing_54 (by decide) ?_
        refine mv_aload_n 0 dX11_thing_56 rfl ?_
        refine mv_getI fX11_411 (by decide) rfl rfl dX11_thing_57 ?_
        refine mv_iadd dX11_thing_60 ?_
        refine mv_topi (fun v2 ev2 => ?_)
        replace h := mv_letE h v2 ev2
        refine mv_istore_n [(3, .int v2), (0, .ref 62), (1, .int a0), (2, .int a1)] dX11_thing_61 (by decide) rfl ?_
        refine mv_aload_n 1 dX11_thing_62 rfl ?_
        refine mv_dup dX11_thing_63 rfl ?_
        refine mv_getI fX11_411 (by decide) rfl rfl dX11_thing_64 ?_
        refine mv_iconst 1 dX11_thing_67 (by decide) ?_
        refine mv_iadd dX11_thing_68 ?_
        refine mv_putI fX11_411 (by decide) rfl rfl dX11_thing_69 (fun M3 eM3 => ?_)
        replace h := mv_letE h M3 eM3
        refine mv_aload_n 1 dX11_thing_72 rfl ?_
        refine mv_getR 95 fX11_112 (by decide) rfl rfl rfl dX11_thing_73 ?_
        refine mv_iload_n 0 dX11_thing_76 rfl ?_
        refine mv_iload_n 2 dX11_thing_77 rfl ?_
        obtain ⟨hi4, h⟩ := mv_chkE h
        refine mv_ist (by decide) rfl (mv_inE hi4) dX11_thing_78 (fun M5 eM5 => ?_)
        replace h := mv_letE h M5 eM5
        refine mv_aload_n 1 dX11_thing_79 rfl ?_
        refine mv_getR 96 fX11_115 (by decide) rfl rfl rfl dX11_thing_80 ?_
        refine mv_iload_n 0 dX11_thing_83 rfl ?_
        refine mv_iload_n 3 dX11_thing_84 rfl ?_
        obtain ⟨hi6, h⟩ := mv_chkE h
        refine mv_ist (by decide) rfl (mv_inE hi6) dX11_thing_85 (fun M7 eM7 => ?_)
        replace h := mv_letE h M7 eM7
        refine mv_aload_n 1 dX11_thing_86 rfl ?_
        refine mv_getR 97 fX11_118 (by decide) rfl rfl rfl dX11_thing_87 ?_
        refine mv_iload_n 0 dX11_thing_90 rfl ?_
        refine mv_iconst 0 dX11_thing_91 (by decide) ?_
        obtain ⟨hi8, h⟩ := mv_chkE h
        refine mv_ist (by decide) rfl (mv_inE hi8) dX11_thing_92 (fun M9 eM9 => ?_)
        replace h := mv_letE h M9 eM9
        refine mv_aload_n 1 dX11_thing_93 rfl ?_
        refine mv_getR 100 fX11_127 (by decide) rfl rfl rfl dX11_thing_94 ?_
        refine mv_iload_n 0 dX11_thing_97 rfl ?_
        refine mv_iconst 0 dX11_thing_98 (by decide) ?_
        obtain ⟨hi10, h⟩ := mv_chkE h
        refine mv_zst (by decide) rfl (mv_inE hi10) dX11_thing_99 (fun M11 eM11 => ?_)
        replace h := mv_letE h M11 eM11
        refine mv_iload_n 0 dX11_thing_100 rfl ?_
        exact mv_iret rfl dX11_thing_101 ⟨_, rfl, h⟩
      · replace h := mv_ifT z h
        refine mv_aload_n 0 dX11_thing_47 rfl ?_
        refine mv_iconst 5 dX11_thing_48 (by decide) ?_
        refine mv_putI fX11_408 (by decide) rfl rfl dX11_thing_49 (fun M12 eM12 => ?_)
        replace h := mv_letE h M12 eM12
        refine mv_iconst 0 dX11_thing_52 (by decide) ?_
        exact mv_iret rfl dX11_thing_53 ⟨_, rfl, h⟩
    · replace h := mv_ifT z h
      refine mv_aload_n 0 dX11_thing_20 rfl ?_
      refine mv_getR 103 fX11_136 (by decide) rfl rfl rfl dX11_thing_21 ?_
      refine mv_bipush 16 dX11_thing_24 (by decide) ?_
      refine mv_iload_n 2 dX11_thing_26 rfl ?_
      refine mv_imul dX11_thing_27 ?_
      refine mv_aload_n 0 dX11_thing_28 rfl ?_
      refine mv_getR 72 fX11_42 (by decide) rfl rfl rfl dX11_thing_29 ?_
      refine mv_iload_n 1 dX11_thing_32 rfl ?_
      obtain ⟨hi13, h⟩ := mv_chkE h
      refine mv_ild (by decide) rfl (mv_inE hi13) dX11_thing_33 ?_
      refine mv_iadd dX11_thing_34 ?_
      obtain ⟨hi14, h⟩ := mv_chkE h
      refine mv_ild (by decide) rfl (mv_inE hi14) dX11_thing_35 ?_
      exact mv_iret rfl dX11_thing_36 ⟨_, rfl, h⟩
  · replace h := mv_ifF z h
    refine mv_iconst 0 dX11_thing_7 (by decide) ?_
    exact mv_iret rfl dX11_thing_8 ⟨_, rfl, h⟩
theorem dX11_gives_0 : decode cX11_gives 0 = .ok (.aload_n 0, 1) := by decide +kernel
theorem dX11_gives_1 : decode cX11_gives 1 = .ok (.iload_n 1, 1) := by decide +kernel
theorem dX11_gives_2 : decode cX11_gives 2 = .ok (.putfield 414, 3) := by decide +kernel
theorem dX11_gives_5 : decode cX11_gives 5 = .ok (.aload_n 0, 1) := by decide +kernel
theorem dX11_gives_6 : decode cX11_gives 6 = .ok (.iload_n 2, 1) := by decide +kernel
theorem dX11_gives_7 : decode cX11_gives 7 = .ok (.putfield 417, 3) := by decide +kernel
theorem dX11_gives_10 : decode cX11_gives 10 = .ok (.return_, 1) := by decide +kernel
noncomputable def fX11_gives (a0 : Int32) (a1 : Int32) (M : mv_M) : Option (Unit × mv_M) :=
  mv_let (mv_si M 62 77 a0) fun M1 =>
  mv_let (mv_si M1 62 78 a1) fun M2 =>
  some ((), M2)
set_option maxRecDepth 100000 in
set_option maxHeartbeats 4000000 in
theorem zX11_gives {l : Launch} {d : Nat} {Q : Unit → mv_M → Prop} (hd : 0 ≤ d) (a0 : Int32) (a1 : Int32) (M : mv_M) (h : mv_ok (fX11_gives a0 a1 M) Q) : mv l mX11_gives d 0 0 (lv_args 0 [.ref 62, .int a0, .int a1]) [] M (mv_qV Q) := by
  unfold fX11_gives at h
  show mv l mX11_gives d 0 0 [(0, .ref 62), (1, .int a0), (2, .int a1)] [] M (mv_qV Q)
  refine mv_aload_n 0 dX11_gives_0 rfl ?_
  refine mv_iload_n 1 dX11_gives_1 rfl ?_
  refine mv_putI fX11_414 (by decide) rfl rfl dX11_gives_2 (fun M1 eM1 => ?_)
  replace h := mv_letE h M1 eM1
  refine mv_aload_n 0 dX11_gives_5 rfl ?_
  refine mv_iload_n 2 dX11_gives_6 rfl ?_
  refine mv_putI fX11_417 (by decide) rfl rfl dX11_gives_7 (fun M2 eM2 => ?_)
  replace h := mv_letE h M2 eM2
  exact mv_vret rfl dX11_gives_10 ⟨rfl, h⟩
