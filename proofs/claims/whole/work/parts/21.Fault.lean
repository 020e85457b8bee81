theorem dX0_clear_0 : decode cX0_clear 0 = .ok (.aload_n 0, 1) := by decide +kernel
theorem dX0_clear_1 : decode cX0_clear 1 = .ok (.iconst 0, 1) := by decide +kernel
theorem dX0_clear_2 : decode cX0_clear 2 = .ok (.putfield 9, 3) := by decide +kernel
theorem dX0_clear_5 : decode cX0_clear 5 = .ok (.aload_n 0, 1) := by decide +kernel
theorem dX0_clear_6 : decode cX0_clear 6 = .ok (.iconst (-1), 1) := by decide +kernel
theorem dX0_clear_7 : decode cX0_clear 7 = .ok (.putfield 15, 3) := by decide +kernel
theorem dX0_clear_10 : decode cX0_clear 10 = .ok (.return_, 1) := by decide +kernel
noncomputable def fX0_clear (M : mv_M) : Option (Unit × mv_M) :=
  mv_let (mv_si M 1 0 0) fun M1 =>
  mv_let (mv_si M1 1 1 (-1)) fun M2 =>
  some ((), M2)
set_option maxRecDepth 100000 in
set_option maxHeartbeats 4000000 in
theorem zX0_clear {l : Launch} {d : Nat} {Q : Unit → mv_M → Prop} (hd : 0 ≤ d) (M : mv_M) (h : mv_ok (fX0_clear M) Q) : mv l mX0_clear d 0 0 (lv_args 0 [.ref 1]) [] M (mv_qV Q) := by
  unfold fX0_clear at h
  show mv l mX0_clear d 0 0 [(0, .ref 1)] [] M (mv_qV Q)
  refine mv_aload_n 0 dX0_clear_0 rfl ?_
  refine mv_iconst 0 dX0_clear_1 (by decide) ?_
  refine mv_putI fX0_9 (by decide) rfl rfl dX0_clear_2 (fun M1 eM1 => ?_)
  replace h := mv_letE h M1 eM1
  refine mv_aload_n 0 dX0_clear_5 rfl ?_
  refine mv_iconst (-1) dX0_clear_6 (by decide) ?_
  refine mv_putI fX0_15 (by decide) rfl rfl dX0_clear_7 (fun M2 eM2 => ?_)
  replace h := mv_letE h M2 eM2
  exact mv_vret rfl dX0_clear_10 ⟨rfl, h⟩
theorem dX0_tell_0 : decode cX0_tell 0 = .ok (.aload_n 0, 1) := by decide +kernel
theorem dX0_tell_1 : decode cX0_tell 1 = .ok (.getfield 9, 3) := by decide +kernel
theorem dX0_tell_4 : decode cX0_tell 4 = .ok (.ifCond .ne 13, 3) := by decide +kernel
theorem dX0_tell_7 : decode cX0_tell 7 = .ok (.aload_n 0, 1) := by decide +kernel
theorem dX0_tell_8 : decode cX0_tell 8 = .ok (.iload_n 1, 1) := by decide +kernel
theorem dX0_tell_9 : decode cX0_tell 9 = .ok (.putfield 9, 3) := by decide +kernel
theorem dX0_tell_12 : decode cX0_tell 12 = .ok (.aload_n 0, 1) := by decide +kernel
theorem dX0_tell_13 : decode cX0_tell 13 = .ok (.iload_n 2, 1) := by decide +kernel
theorem dX0_tell_14 : decode cX0_tell 14 = .ok (.putfield 15, 3) := by decide +kernel
theorem dX0_tell_17 : decode cX0_tell 17 = .ok (.return_, 1) := by decide +kernel
noncomputable def fX0_tell (a0 : Int32) (a1 : Int32) (M : mv_M) : Option (Unit × mv_M) :=
  if (M.1 1 0) = 0 then
    mv_let (mv_si M 1 0 a0) fun M1 =>
    mv_let (mv_si M1 1 1 a1) fun M2 =>
    some ((), M2)
  else
    some ((), M)
set_option maxRecDepth 100000 in
set_option maxHeartbeats 4000000 in
theorem zX0_tell {l : Launch} {d : Nat} {Q : Unit → mv_M → Prop} (hd : 0 ≤ d) (a0 : Int32) (a1 : Int32) (M : mv_M) (h : mv_ok (fX0_tell a0 a1 M) Q) : mv l mX0_tell d 0 0 (lv_args 0 [.ref 1, .int a0, .int a1]) [] M (mv_qV Q) := by
  unfold fX0_tell at h
  show mv l mX0_tell d 0 0 [(0, .ref 1), (1, .int a0), (2, .int a1)] [] M (mv_qV Q)
  refine mv_aload_n 0 dX0_tell_0 rfl ?_
  refine mv_getI fX0_9 (by decide) rfl rfl dX0_tell_1 ?_
  refine mv_if_ne 17 dX0_tell_4 (by decide) (fun z => ?_) (fun z => ?_)
  · replace h := mv_ifF z h
    exact mv_vret rfl dX0_tell_17 ⟨rfl, h⟩
  · replace h := mv_ifT z h
    refine mv_aload_n 0 dX0_tell_7 rfl ?_
    refine mv_iload_n 1 dX0_tell_8 rfl ?_
    refine mv_putI fX0_9 (by decide) rfl rfl dX0_tell_9 (fun M1 eM1 => ?_)
    replace h := mv_letE h M1 eM1
    refine mv_aload_n 0 dX0_tell_12 rfl ?_
    refine mv_iload_n 2 dX0_tell_13 rfl ?_
    refine mv_putI fX0_15 (by decide) rfl rfl dX0_tell_14 (fun M2 eM2 => ?_)
    replace h := mv_letE h M2 eM2
    exact mv_vret rfl dX0_tell_17 ⟨rfl, h⟩
