theorem dX3_kind_0 : decode cX3_kind 0 = .ok (.aload_n 0, 1) := by decide +kernel
theorem dX3_kind_1 : decode cX3_kind 1 = .ok (.getfield 9, 3) := by decide +kernel
theorem dX3_kind_4 : decode cX3_kind 4 = .ok (.aload_n 0, 1) := by decide +kernel
theorem dX3_kind_5 : decode cX3_kind 5 = .ok (.getfield 28, 3) := by decide +kernel
theorem dX3_kind_8 : decode cX3_kind 8 = .ok (.invokevirtual 39, 3) := by decide +kernel
theorem dX3_kind_11 : decode cX3_kind 11 = .ok (.ireturn, 1) := by decide +kernel
noncomputable def fX3_kind (M : mv_M) : Option (Int32 × mv_M) :=
  mv_bind (fX8_kindOf (M.1 3 3) M) fun r1 M2 =>
  some (r1, M2)
set_option maxRecDepth 100000 in
set_option maxHeartbeats 4000000 in
theorem zX3_kind {l : Launch} {d : Nat} {Q : Int32 → mv_M → Prop} (hd : 1 ≤ d) (M : mv_M) (h : mv_ok (fX3_kind M) Q) : mv l mX3_kind d 0 0 (lv_args 0 [.ref 3]) [] M (mv_qI Q) := by
  unfold fX3_kind at h
  show mv l mX3_kind d 0 0 [(0, .ref 3)] [] M (mv_qI Q)
  refine mv_aload_n 0 dX3_kind_0 rfl ?_
  refine mv_getR 2 fX3_9 (by decide) rfl rfl rfl dX3_kind_1 ?_
  refine mv_aload_n 0 dX3_kind_4 rfl ?_
  refine mv_getI fX3_28 (by decide) rfl rfl dX3_kind_5 ?_
  refine mv_cvI (As := [.int (M.1 3 3)]) (st := []) okX8_kindOf lX3_39 (by decide) rfl rfl rfl (Nat.le_of_ble_eq_true rfl) rfl (Nat.le_of_ble_eq_true rfl) dX3_kind_8 (by omega) rfl (zX8_kindOf (d := d - 1) (by omega) (M.1 3 3) M (mv_bindE h)) (fun r1 M2 h => ?_)
  exact mv_iret rfl dX3_kind_11 ⟨_, rfl, h⟩
theorem dX3_stop_0 : decode cX3_stop 0 = .ok (.aload_n 0, 1) := by decide +kernel
theorem dX3_stop_1 : decode cX3_stop 1 = .ok (.getfield 15, 3) := by decide +kernel
theorem dX3_stop_4 : decode cX3_stop 4 = .ok (.aload_n 0, 1) := by decide +kernel
theorem dX3_stop_5 : decode cX3_stop 5 = .ok (.invokevirtual 35, 3) := by decide +kernel
theorem dX3_stop_8 : decode cX3_stop 8 = .ok (.iconst 1, 1) := by decide +kernel
theorem dX3_stop_9 : decode cX3_stop 9 = .ok (.if_icmp .ne 7, 3) := by decide +kernel
theorem dX3_stop_12 : decode cX3_stop 12 = .ok (.iconst 1, 1) := by decide +kernel
theorem dX3_stop_13 : decode cX3_stop 13 = .ok (.goto 4, 3) := by decide +kernel
theorem dX3_stop_16 : decode cX3_stop 16 = .ok (.iload_n 1, 1) := by decide +kernel
theorem dX3_stop_17 : decode cX3_stop 17 = .ok (.aload_n 0, 1) := by decide +kernel
theorem dX3_stop_18 : decode cX3_stop 18 = .ok (.getfield 9, 3) := by decide +kernel
theorem dX3_stop_21 : decode cX3_stop 21 = .ok (.aload_n 0, 1) := by decide +kernel
theorem dX3_stop_22 : decode cX3_stop 22 = .ok (.getfield 28, 3) := by decide +kernel
theorem dX3_stop_25 : decode cX3_stop 25 = .ok (.invokevirtual 45, 3) := by decide +kernel
theorem dX3_stop_28 : decode cX3_stop 28 = .ok (.invokevirtual 48, 3) := by decide +kernel
theorem dX3_stop_31 : decode cX3_stop 31 = .ok (.aload_n 0, 1) := by decide +kernel
theorem dX3_stop_32 : decode cX3_stop 32 = .ok (.aload_n 0, 1) := by decide +kernel
theorem dX3_stop_33 : decode cX3_stop 33 = .ok (.getfield 9, 3) := by decide +kernel
theorem dX3_stop_36 : decode cX3_stop 36 = .ok (.getfield 54, 3) := by decide +kernel
theorem dX3_stop_39 : decode cX3_stop 39 = .ok (.putfield 28, 3) := by decide +kernel
theorem dX3_stop_42 : decode cX3_stop 42 = .ok (.return_, 1) := by decide +kernel
noncomputable def fX3_stop_17 (s0 : Int32) (M : mv_M) : Option (Unit × mv_M) :=
  mv_bind (fX8_startOf (M.1 3 3) M) fun r3 M4 =>
  mv_bind (fX0_tell s0 r3 M4) fun _ M5 =>
  mv_let (mv_si M5 3 3 (M5.1 2 2)) fun M6 =>
  some ((), M6)
set_option maxRecDepth 100000 in
set_option maxHeartbeats 4000000 in
theorem zX3_stop_17 {l : Launch} {d : Nat} {Q : Unit → mv_M → Prop} (hd : 2 ≤ d) (s0 : Int32) (M : mv_M) (h : mv_ok (fX3_stop_17 s0 M) Q) : mv l mX3_stop d 0 17 [(0, .ref 3)] [.int s0, .ref 1] M (mv_qV Q) := by
  unfold fX3_stop_17 at h
  refine mv_aload_n 0 dX3_stop_17 rfl ?_
  refine mv_getR 2 fX3_9 (by decide) rfl rfl rfl dX3_stop_18 ?_
  refine mv_aload_n 0 dX3_stop_21 rfl ?_
  refine mv_getI fX3_28 (by decide) rfl rfl dX3_stop_22 ?_
  refine mv_cvI (As := [.int (M.1 3 3)]) (st := [.int s0, .ref 1]) okX8_startOf lX3_45 (by decide) rfl rfl rfl (Nat.le_of_ble_eq_true rfl) rfl (Nat.le_of_ble_eq_true rfl) dX3_stop_25 (by omega) rfl (zX8_startOf (d := d - 1) (by omega) (M.1 3 3) M (mv_bindE h)) (fun r3 M4 h => ?_)
  refine mv_cvV (As := [.int s0, .int r3]) (st := []) okX0_tell lX3_48 (by decide) rfl rfl rfl (Nat.le_of_ble_eq_true rfl) rfl (Nat.le_of_ble_eq_true rfl) dX3_stop_28 (by omega) rfl (zX0_tell (d := d - 1) (by omega) s0 r3 M4 (mv_bindE h)) (fun _ M5 h => ?_)
  refine mv_aload_n 0 dX3_stop_31 rfl ?_
  refine mv_aload_n 0 dX3_stop_32 rfl ?_
  refine mv_getR 2 fX3_9 (by decide) rfl rfl rfl dX3_stop_33 ?_
  refine mv_getI fX3_54 (by decide) rfl rfl dX3_stop_36 ?_
  refine mv_putI fX3_28 (by decide) rfl rfl dX3_stop_39 (fun M6 eM6 => ?_)
  replace h := mv_letE h M6 eM6
  exact mv_vret rfl dX3_stop_42 ⟨rfl, h⟩
noncomputable def fX3_stop (a0 : Int32) (M : mv_M) : Option (Unit × mv_M) :=
  mv_bind (fX3_kind M) fun r1 M2 =>
  if r1 = 1 then
    fX3_stop_17 1 M2
  else
    fX3_stop_17 a0 M2
set_option maxRecDepth 100000 in
set_option maxHeartbeats 4000000 in
theorem zX3_stop {l : Launch} {d : Nat} {Q : Unit → mv_M → Prop} (hd : 2 ≤ d) (a0 : Int32) (M : mv_M) (h : mv_ok (fX3_stop a0 M) Q) : mv l mX3_stop d 0 0 (lv_args 0 [.ref 3, .int a0]) [] M (mv_qV Q) := by
  unfold fX3_stop at h
  show mv l mX3_stop d 0 0 [(0, .ref 3), (1, .int a0)] [] M (mv_qV Q)
  refine mv_aload_n 0 dX3_stop_0 rfl ?_
  refine mv_getR 1 fX3_15 (by decide) rfl rfl rfl dX3_stop_1 ?_
  refine mv_aload_n 0 dX3_stop_4 rfl ?_
  refine mv_cvI (As := []) (st := [.ref 1]) okX3_kind lX3_35 (by decide) rfl rfl rfl (Nat.le_of_ble_eq_true rfl) rfl (Nat.le_of_ble_eq_true rfl) dX3_stop_5 (by omega) rfl (zX3_kind (d := d - 1) (by omega) M (mv_bindE h)) (fun r1 M2 h => ?_)
  refine mv_iconst 1 dX3_stop_8 (by decide) ?_
  refine mv_icmp_ne 16 dX3_stop_9 (by decide) (fun z => ?_) (fun z => ?_)
  · replace h := mv_ifF z h
    refine mv_iload_n 1 dX3_stop_16 rfl ?_
    refine mv_sub [0] rfl ?_
    exact zX3_stop_17 hd a0 M2 h
  · replace h := mv_ifT z h
    refine mv_iconst 1 dX3_stop_12 (by decide) ?_
    refine mv_goto 17 dX3_stop_13 (by decide) ?_
    refine mv_sub [0] rfl ?_
    exact zX3_stop_17 hd 1 M2 h
theorem dX3_pass_0 : decode cX3_pass 0 = .ok (.aload_n 0, 1) := by decide +kernel
theorem dX3_pass_1 : decode cX3_pass 1 = .ok (.getfield 28, 3) := by decide +kernel
theorem dX3_pass_4 : decode cX3_pass 4 = .ok (.sipush 1000, 3) := by decide +kernel
theorem dX3_pass_7 : decode cX3_pass 7 = .ok (.if_icmp .lt 12, 3) := by decide +kernel
theorem dX3_pass_10 : decode cX3_pass 10 = .ok (.aload_n 0, 1) := by decide +kernel
theorem dX3_pass_11 : decode cX3_pass 11 = .ok (.bipush 6, 2) := by decide +kernel
theorem dX3_pass_13 : decode cX3_pass 13 = .ok (.invokevirtual 57, 3) := by decide +kernel
theorem dX3_pass_16 : decode cX3_pass 16 = .ok (.goto 13, 3) := by decide +kernel
theorem dX3_pass_19 : decode cX3_pass 19 = .ok (.aload_n 0, 1) := by decide +kernel
theorem dX3_pass_20 : decode cX3_pass 20 = .ok (.dup, 1) := by decide +kernel
theorem dX3_pass_21 : decode cX3_pass 21 = .ok (.getfield 28, 3) := by decide +kernel
theorem dX3_pass_24 : decode cX3_pass 24 = .ok (.iconst 1, 1) := by decide +kernel
theorem dX3_pass_25 : decode cX3_pass 25 = .ok (.iadd, 1) := by decide +kernel
theorem dX3_pass_26 : decode cX3_pass 26 = .ok (.putfield 28, 3) := by decide +kernel
theorem dX3_pass_29 : decode cX3_pass 29 = .ok (.return_, 1) := by decide +kernel
noncomputable def fX3_pass (M : mv_M) : Option (Unit × mv_M) :=
  if (M.1 3 3) < 1000 then
    mv_let (mv_si M 3 3 ((M.1 3 3) + 1)) fun M1 =>
    some ((), M1)
  else
    mv_bind (fX3_stop 6 M) fun _ M2 =>
    some ((), M2)
set_option maxRecDepth 100000 in
set_option maxHeartbeats 4000000 in
theorem zX3_pass {l : Launch} {d : Nat} {Q : Unit → mv_M → Prop} (hd : 3 ≤ d) (M : mv_M) (h : mv_ok (fX3_pass M) Q) : mv l mX3_pass d 0 0 (lv_args 0 [.ref 3]) [] M (mv_qV Q) := by
  unfold fX3_pass at h
  show mv l mX3_pass d 0 0 [(0, .ref 3)] [] M (mv_qV Q)
  refine mv_aload_n 0 dX3_pass_0 rfl ?_
  refine mv_getI fX3_28 (by decide) rfl rfl dX3_pass_1 ?_
  refine mv_sipush 1000 dX3_pass_4 (by decide) ?_
  refine mv_icmp_lt 19 dX3_pass_7 (by decide) (fun z => ?_) (fun z => ?_)
  · replace h := mv_ifT z h
    refine mv_aload_n 0 dX3_pass_19 rfl ?_
    refine mv_dup dX3_pass_20 rfl ?_
    refine mv_getI fX3_28 (by decide) rfl rfl dX3_pass_21 ?_
    refine mv_iconst 1 dX3_pass_24 (by decide) ?_
    refine mv_iadd dX3_pass_25 ?_
    refine mv_putI fX3_28 (by decide) rfl rfl dX3_pass_26 (fun M1 eM1 => ?_)
    replace h := mv_letE h M1 eM1
    exact mv_vret rfl dX3_pass_29 ⟨rfl, h⟩
  · replace h := mv_ifF z h
    refine mv_aload_n 0 dX3_pass_10 rfl ?_
    refine mv_bipush 6 dX3_pass_11 (by decide) ?_
    refine mv_cvV (As := [.int 6]) (st := []) okX3_stop lX3_57 (by decide) rfl rfl rfl (Nat.le_of_ble_eq_true rfl) rfl (Nat.le_of_ble_eq_true rfl) dX3_pass_13 (by omega) rfl (zX3_stop (d := d - 1) (by omega) 6 M (mv_bindE h)) (fun _ M2 h => ?_)
    refine mv_goto 29 dX3_pass_16 (by decide) ?_
    exact mv_vret rfl dX3_pass_29 ⟨rfl, h⟩
theorem dX3_takeNewName_0 : decode cX3_takeNewName 0 = .ok (.aload_n 0, 1) := by decide +kernel
theorem dX3_takeNewName_1 : decode cX3_takeNewName 1 = .ok (.invokevirtual 35, 3) := by decide +kernel
theorem dX3_takeNewName_4 : decode cX3_takeNewName 4 = .ok (.iconst 2, 1) := by decide +kernel
theorem dX3_takeNewName_5 : decode cX3_takeNewName 5 = .ok (.if_icmp .eq 11, 3) := by decide +kernel
theorem dX3_takeNewName_8 : decode cX3_takeNewName 8 = .ok (.aload_n 0, 1) := by decide +kernel
theorem dX3_takeNewName_9 : decode cX3_takeNewName 9 = .ok (.iconst 2, 1) := by decide +kernel
theorem dX3_takeNewName_10 : decode cX3_takeNewName 10 = .ok (.invokevirtual 57, 3) := by decide +kernel
theorem dX3_takeNewName_13 : decode cX3_takeNewName 13 = .ok (.goto 32, 3) := by decide +kernel
theorem dX3_takeNewName_16 : decode cX3_takeNewName 16 = .ok (.iload_n 1, 1) := by decide +kernel
theorem dX3_takeNewName_17 : decode cX3_takeNewName 17 = .ok (.ifCond .eq 11, 3) := by decide +kernel
theorem dX3_takeNewName_20 : decode cX3_takeNewName 20 = .ok (.aload_n 0, 1) := by decide +kernel
theorem dX3_takeNewName_21 : decode cX3_takeNewName 21 = .ok (.iconst 3, 1) := by decide +kernel
theorem dX3_takeNewName_22 : decode cX3_takeNewName 22 = .ok (.invokevirtual 57, 3) := by decide +kernel
theorem dX3_takeNewName_25 : decode cX3_takeNewName 25 = .ok (.goto 20, 3) := by decide +kernel
theorem dX3_takeNewName_28 : decode cX3_takeNewName 28 = .ok (.iload_n 2, 1) := by decide +kernel
theorem dX3_takeNewName_29 : decode cX3_takeNewName 29 = .ok (.ifCond .eq 12, 3) := by decide +kernel
theorem dX3_takeNewName_32 : decode cX3_takeNewName 32 = .ok (.aload_n 0, 1) := by decide +kernel
theorem dX3_takeNewName_33 : decode cX3_takeNewName 33 = .ok (.bipush 6, 2) := by decide +kernel
theorem dX3_takeNewName_35 : decode cX3_takeNewName 35 = .ok (.invokevirtual 57, 3) := by decide +kernel
theorem dX3_takeNewName_38 : decode cX3_takeNewName 38 = .ok (.goto 7, 3) := by decide +kernel
theorem dX3_takeNewName_41 : decode cX3_takeNewName 41 = .ok (.aload_n 0, 1) := by decide +kernel
theorem dX3_takeNewName_42 : decode cX3_takeNewName 42 = .ok (.invokevirtual 61, 3) := by decide +kernel
theorem dX3_takeNewName_45 : decode cX3_takeNewName 45 = .ok (.return_, 1) := by decide +kernel
noncomputable def fX3_takeNewName (a0 : Int32) (a1 : Int32) (M : mv_M) : Option (Unit × mv_M) :=
  mv_bind (fX3_kind M) fun r1 M2 =>
  if r1 = 2 then
    if a0 = 0 then
      if a1 = 0 then
        mv_bind (fX3_pass M2) fun _ M3 =>
        some ((), M3)
      else
        mv_bind (fX3_stop 6 M2) fun _ M4 =>
        some ((), M4)
    else
      mv_bind (fX3_stop 3 M2) fun _ M5 =>
      some ((), M5)
  else
    mv_bind (fX3_stop 2 M2) fun _ M6 =>
    some ((), M6)
set_option maxRecDepth 100000 in
set_option maxHeartbeats 4000000 in
theorem zX3_takeNewName {l : Launch} {d : Nat} {Q : Unit → mv_M → Prop} (hd : 4 ≤ d) (a0 : Int32) (a1 : Int32) (M : mv_M) (h : mv_ok (fX3_takeNewName a0 a1 M) Q) : mv l mX3_takeNewName d 0 0 (lv_args 0 [.ref 3, .int a0, .int a1]) [] M (mv_qV Q) := by
  unfold fX3_takeNewName at h
  show mv l mX3_takeNewName d 0 0 [(0, .ref 3), (1, .int a0), (2, .int a1)] [] M (mv_qV Q)
  refine mv_aload_n 0 dX3_takeNewName_0 rfl ?_
  refine mv_cvI (As := []) (st := []) okX3_kind lX3_35 (by decide) rfl rfl rfl (Nat.le_of_ble_eq_true rfl) rfl (Nat.le_of_ble_eq_true rfl) dX3_takeNewName_1 (by omega) rfl (zX3_kind (d := d - 1) (by omega) M (mv_bindE h)) (fun r1 M2 h => ?_)
  refine mv_iconst 2 dX3_takeNewName_4 (by decide) ?_
  refine mv_icmp_eq 16 dX3_takeNewName_5 (by decide) (fun z => ?_) (fun z => ?_)
  · replace h := mv_ifT z h
    refine mv_iload_n 1 dX3_takeNewName_16 rfl ?_
    refine mv_if_eq 28 dX3_takeNewName_17 (by decide) (fun z => ?_) (fun z => ?_)
    · replace h := mv_ifT z h
      refine mv_iload_n 2 dX3_takeNewName_28 rfl ?_
      refine mv_if_eq 41 dX3_takeNewName_29 (by decide) (fun z => ?_) (fun z => ?_)
      · replace h := mv_ifT z h
        refine mv_aload_n 0 dX3_takeNewName_41 rfl ?_
        refine mv_cvV (As := []) (st := []) okX3_pass lX3_61 (by decide) rfl rfl rfl (Nat.le_of_ble_eq_true rfl) rfl (Nat.le_of_ble_eq_true rfl) dX3_takeNewName_42 (by omega) rfl (zX3_pass (d := d - 1) (by omega) M2 (mv_bindE h)) (fun _ M3 h => ?_)
        exact mv_vret rfl dX3_takeNewName_45 ⟨rfl, h⟩
      · replace h := mv_ifF z h
        refine mv_aload_n 0 dX3_takeNewName_32 rfl ?_
        refine mv_bipush 6 dX3_takeNewName_33 (by decide) ?_
        refine mv_cvV (As := [.int 6]) (st := []) okX3_stop lX3_57 (by decide) rfl rfl rfl (Nat.le_of_ble_eq_true rfl) rfl (Nat.le_of_ble_eq_true rfl) dX3_takeNewName_35 (by omega) rfl (zX3_stop (d := d - 1) (by omega) 6 M2 (mv_bindE h)) (fun _ M4 h => ?_)
        refine mv_goto 45 dX3_takeNewName_38 (by decide) ?_
        exact mv_vret rfl dX3_takeNewName_45 ⟨rfl, h⟩
    · replace h := mv_ifF z h
      refine mv_aload_n 0 dX3_takeNewName_20 rfl ?_
      refine mv_iconst 3 dX3_takeNewName_21 (by decide) ?_
      refine mv_cvV (As := [.int 3]) (st := []) okX3_stop lX3_57 (by decide) rfl rfl rfl (Nat.le_of_ble_eq_true rfl) rfl (Nat.le_of_ble_eq_true rfl) dX3_takeNewName_22 (by omega) rfl (zX3_stop (d := d - 1) (by omega) 3 M2 (mv_bindE h)) (fun _ M5 h => ?_)
      refine mv_goto 45 dX3_takeNewName_25 (by decide) ?_
      exact mv_vret rfl dX3_takeNewName_45 ⟨rfl, h⟩
  · replace h := mv_ifF z h
    refine mv_aload_n 0 dX3_takeNewName_8 rfl ?_
    refine mv_iconst 2 dX3_takeNewName_9 (by decide) ?_
    refine mv_cvV (As := [.int 2]) (st := []) okX3_stop lX3_57 (by decide) rfl rfl rfl (Nat.le_of_ble_eq_true rfl) rfl (Nat.le_of_ble_eq_true rfl) dX3_takeNewName_10 (by omega) rfl (zX3_stop (d := d - 1) (by omega) 2 M2 (mv_bindE h)) (fun _ M6 h => ?_)
    refine mv_goto 45 dX3_takeNewName_13 (by decide) ?_
    exact mv_vret rfl dX3_takeNewName_45 ⟨rfl, h⟩
theorem dX3_take_0 : decode cX3_take 0 = .ok (.aload_n 0, 1) := by decide +kernel
theorem dX3_take_1 : decode cX3_take 1 = .ok (.invokevirtual 35, 3) := by decide +kernel
theorem dX3_take_4 : decode cX3_take 4 = .ok (.iload_n 1, 1) := by decide +kernel
theorem dX3_take_5 : decode cX3_take 5 = .ok (.if_icmp .ne 10, 3) := by decide +kernel
theorem dX3_take_8 : decode cX3_take 8 = .ok (.aload_n 0, 1) := by decide +kernel
theorem dX3_take_9 : decode cX3_take 9 = .ok (.invokevirtual 61, 3) := by decide +kernel
theorem dX3_take_12 : decode cX3_take 12 = .ok (.goto 8, 3) := by decide +kernel
theorem dX3_take_15 : decode cX3_take 15 = .ok (.aload_n 0, 1) := by decide +kernel
theorem dX3_take_16 : decode cX3_take 16 = .ok (.iconst 2, 1) := by decide +kernel
theorem dX3_take_17 : decode cX3_take 17 = .ok (.invokevirtual 57, 3) := by decide +kernel
theorem dX3_take_20 : decode cX3_take 20 = .ok (.return_, 1) := by decide +kernel
noncomputable def fX3_take (a0 : Int32) (M : mv_M) : Option (Unit × mv_M) :=
  mv_bind (fX3_kind M) fun r1 M2 =>
  if r1 = a0 then
    mv_bind (fX3_pass M2) fun _ M4 =>
    some ((), M4)
  else
    mv_bind (fX3_stop 2 M2) fun _ M3 =>
    some ((), M3)
set_option maxRecDepth 100000 in
set_option maxHeartbeats 4000000 in
theorem zX3_take {l : Launch} {d : Nat} {Q : Unit → mv_M → Prop} (hd : 4 ≤ d) (a0 : Int32) (M : mv_M) (h : mv_ok (fX3_take a0 M) Q) : mv l mX3_take d 0 0 (lv_args 0 [.ref 3, .int a0]) [] M (mv_qV Q) := by
  unfold fX3_take at h
  show mv l mX3_take d 0 0 [(0, .ref 3), (1, .int a0)] [] M (mv_qV Q)
  refine mv_aload_n 0 dX3_take_0 rfl ?_
  refine mv_cvI (As := []) (st := []) okX3_kind lX3_35 (by decide) rfl rfl rfl (Nat.le_of_ble_eq_true rfl) rfl (Nat.le_of_ble_eq_true rfl) dX3_take_1 (by omega) rfl (zX3_kind (d := d - 1) (by omega) M (mv_bindE h)) (fun r1 M2 h => ?_)
  refine mv_iload_n 1 dX3_take_4 rfl ?_
  refine mv_icmp_ne 15 dX3_take_5 (by decide) (fun z => ?_) (fun z => ?_)
  · replace h := mv_ifF z h
    refine mv_aload_n 0 dX3_take_15 rfl ?_
    refine mv_iconst 2 dX3_take_16 (by decide) ?_
    refine mv_cvV (As := [.int 2]) (st := []) okX3_stop lX3_57 (by decide) rfl rfl rfl (Nat.le_of_ble_eq_true rfl) rfl (Nat.le_of_ble_eq_true rfl) dX3_take_17 (by omega) rfl (zX3_stop (d := d - 1) (by omega) 2 M2 (mv_bindE h)) (fun _ M3 h => ?_)
    exact mv_vret rfl dX3_take_20 ⟨rfl, h⟩
  · replace h := mv_ifT z h
    refine mv_aload_n 0 dX3_take_8 rfl ?_
    refine mv_cvV (As := []) (st := []) okX3_pass lX3_61 (by decide) rfl rfl rfl (Nat.le_of_ble_eq_true rfl) rfl (Nat.le_of_ble_eq_true rfl) dX3_take_9 (by omega) rfl (zX3_pass (d := d - 1) (by omega) M2 (mv_bindE h)) (fun _ M4 h => ?_)
    refine mv_goto 20 dX3_take_12 (by decide) ?_
    exact mv_vret rfl dX3_take_20 ⟨rfl, h⟩
theorem dX3_parseType_0 : decode cX3_parseType 0 = .ok (.aload_n 0, 1) := by decide +kernel
theorem dX3_parseType_1 : decode cX3_parseType 1 = .ok (.invokevirtual 35, 3) := by decide +kernel
theorem dX3_parseType_4 : decode cX3_parseType 4 = .ok (.bipush 40, 2) := by decide +kernel
theorem dX3_parseType_6 : decode cX3_parseType 6 = .ok (.if_icmp .eq 12, 3) := by decide +kernel
theorem dX3_parseType_9 : decode cX3_parseType 9 = .ok (.aload_n 0, 1) := by decide +kernel
theorem dX3_parseType_10 : decode cX3_parseType 10 = .ok (.sipush 300, 3) := by decide +kernel
theorem dX3_parseType_13 : decode cX3_parseType 13 = .ok (.invokevirtual 89, 3) := by decide +kernel
theorem dX3_parseType_16 : decode cX3_parseType 16 = .ok (.iconst 0, 1) := by decide +kernel
theorem dX3_parseType_17 : decode cX3_parseType 17 = .ok (.ireturn, 1) := by decide +kernel
theorem dX3_parseType_18 : decode cX3_parseType 18 = .ok (.iload_n 1, 1) := by decide +kernel
theorem dX3_parseType_19 : decode cX3_parseType 19 = .ok (.iconst 2, 1) := by decide +kernel
theorem dX3_parseType_20 : decode cX3_parseType 20 = .ok (.if_icmp .lt 11, 3) := by decide +kernel
theorem dX3_parseType_23 : decode cX3_parseType 23 = .ok (.aload_n 0, 1) := by decide +kernel
theorem dX3_parseType_24 : decode cX3_parseType 24 = .ok (.bipush 6, 2) := by decide +kernel
theorem dX3_parseType_26 : decode cX3_parseType 26 = .ok (.invokevirtual 57, 3) := by decide +kernel
theorem dX3_parseType_29 : decode cX3_parseType 29 = .ok (.iconst 0, 1) := by decide +kernel
theorem dX3_parseType_30 : decode cX3_parseType 30 = .ok (.ireturn, 1) := by decide +kernel
theorem dX3_parseType_31 : decode cX3_parseType 31 = .ok (.aload_n 0, 1) := by decide +kernel
theorem dX3_parseType_32 : decode cX3_parseType 32 = .ok (.invokevirtual 61, 3) := by decide +kernel
theorem dX3_parseType_35 : decode cX3_parseType 35 = .ok (.aload_n 0, 1) := by decide +kernel
theorem dX3_parseType_36 : decode cX3_parseType 36 = .ok (.iload_n 1, 1) := by decide +kernel
theorem dX3_parseType_37 : decode cX3_parseType 37 = .ok (.iconst 1, 1) := by decide +kernel
theorem dX3_parseType_38 : decode cX3_parseType 38 = .ok (.iadd, 1) := by decide +kernel
theorem dX3_parseType_39 : decode cX3_parseType 39 = .ok (.invokevirtual 99, 3) := by decide +kernel
theorem dX3_parseType_42 : decode cX3_parseType 42 = .ok (.istore_n 2, 1) := by decide +kernel
theorem dX3_parseType_43 : decode cX3_parseType 43 = .ok (.aload_n 0, 1) := by decide +kernel
theorem dX3_parseType_44 : decode cX3_parseType 44 = .ok (.bipush 44, 2) := by decide +kernel
theorem dX3_parseType_46 : decode cX3_parseType 46 = .ok (.invokevirtual 89, 3) := by decide +kernel
theorem dX3_parseType_49 : decode cX3_parseType 49 = .ok (.aload_n 0, 1) := by decide +kernel
theorem dX3_parseType_50 : decode cX3_parseType 50 = .ok (.iload_n 1, 1) := by decide +kernel
theorem dX3_parseType_51 : decode cX3_parseType 51 = .ok (.iconst 1, 1) := by decide +kernel
theorem dX3_parseType_52 : decode cX3_parseType 52 = .ok (.iadd, 1) := by decide +kernel
theorem dX3_parseType_53 : decode cX3_parseType 53 = .ok (.invokevirtual 99, 3) := by decide +kernel
theorem dX3_parseType_56 : decode cX3_parseType 56 = .ok (.istore_n 3, 1) := by decide +kernel
theorem dX3_parseType_57 : decode cX3_parseType 57 = .ok (.aload_n 0, 1) := by decide +kernel
theorem dX3_parseType_58 : decode cX3_parseType 58 = .ok (.bipush 41, 2) := by decide +kernel
theorem dX3_parseType_60 : decode cX3_parseType 60 = .ok (.invokevirtual 89, 3) := by decide +kernel
theorem dX3_parseType_63 : decode cX3_parseType 63 = .ok (.iload_n 2, 1) := by decide +kernel
theorem dX3_parseType_64 : decode cX3_parseType 64 = .ok (.iload_n 3, 1) := by decide +kernel
theorem dX3_parseType_65 : decode cX3_parseType 65 = .ok (.invokestatic 126, 3) := by decide +kernel
theorem dX3_parseType_68 : decode cX3_parseType 68 = .ok (.ireturn, 1) := by decide +kernel
noncomputable def fX3_parseType (r_X3_parseType : Int32 → mv_M → Option (Int32 × mv_M)) (a0 : Int32) (M : mv_M) : Option (Int32 × mv_M) :=
  mv_bind (fX3_kind M) fun r1 M2 =>
  if r1 = 40 then
    if a0 < 2 then
      mv_bind (fX3_pass M2) fun _ M3 =>
      mv_bind (r_X3_parseType (a0 + 1) M3) fun r4 M5 =>
      mv_bind (fX3_take 44 M5) fun _ M6 =>
      mv_bind (r_X3_parseType (a0 + 1) M6) fun r7 M8 =>
      mv_bind (fX3_take 41 M8) fun _ M9 =>
      mv_bind (fX6_pairOf r4 r7 M9) fun r10 M11 =>
      some (r10, M11)
    else
      mv_bind (fX3_stop 6 M2) fun _ M12 =>
      some (0, M12)
  else
    mv_bind (fX3_take 300 M2) fun _ M13 =>
    some (0, M13)
set_option maxRecDepth 100000 in
set_option maxHeartbeats 4000000 in
theorem zX3_parseType {l : Launch} {d : Nat} {Q : Int32 → mv_M → Prop} {r_X3_parseType : Int32 → mv_M → Option (Int32 × mv_M)} (hd : 5 ≤ d) (hr_X3_parseType : ∀ (a0 : Int32) (M : mv_M) (Q : Int32 → mv_M → Prop), mv_ok (r_X3_parseType a0 M) Q → mv l mX3_parseType (d - 1) 0 0 (lv_args 0 [.ref 3, .int a0]) [] M (mv_qI Q)) (a0 : Int32) (M : mv_M) (h : mv_ok (fX3_parseType r_X3_parseType a0 M) Q) : mv l mX3_parseType d 0 0 (lv_args 0 [.ref 3, .int a0]) [] M (mv_qI Q) := by
  unfold fX3_parseType at h
  show mv l mX3_parseType d 0 0 [(0, .ref 3), (1, .int a0)] [] M (mv_qI Q)
  refine mv_aload_n 0 dX3_parseType_0 rfl ?_
  refine mv_cvI (As := []) (st := []) okX3_kind lX3_35 (by decide) rfl rfl rfl (Nat.le_of_ble_eq_true rfl) rfl (Nat.le_of_ble_eq_true rfl) dX3_parseType_1 (by omega) rfl (zX3_kind (d := d - 1) (by omega) M (mv_bindE h)) (fun r1 M2 h => ?_)
  refine mv_bipush 40 dX3_parseType_4 (by decide) ?_
  refine mv_icmp_eq 18 dX3_parseType_6 (by decide) (fun z => ?_) (fun z => ?_)
  · replace h := mv_ifT z h
    refine mv_iload_n 1 dX3_parseType_18 rfl ?_
    refine mv_iconst 2 dX3_parseType_19 (by decide) ?_
    refine mv_icmp_lt 31 dX3_parseType_20 (by decide) (fun z => ?_) (fun z => ?_)
    · replace h := mv_ifT z h
      refine mv_aload_n 0 dX3_parseType_31 rfl ?_
      refine mv_cvV (As := []) (st := []) okX3_pass lX3_61 (by decide) rfl rfl rfl (Nat.le_of_ble_eq_true rfl) rfl (Nat.le_of_ble_eq_true rfl) dX3_parseType_32 (by omega) rfl (zX3_pass (d := d - 1) (by omega) M2 (mv_bindE h)) (fun _ M3 h => ?_)
      refine mv_aload_n 0 dX3_parseType_35 rfl ?_
      refine mv_iload_n 1 dX3_parseType_36 rfl ?_
      refine mv_iconst 1 dX3_parseType_37 (by decide) ?_
      refine mv_iadd dX3_parseType_38 ?_
      refine mv_cvI (As := [.int (a0 + 1)]) (st := []) okX3_parseType lX3_99 (by decide) rfl rfl rfl (Nat.le_of_ble_eq_true rfl) rfl (Nat.le_of_ble_eq_true rfl) dX3_parseType_39 (by omega) rfl (hr_X3_parseType (a0 + 1) M3 _ (mv_bindE h)) (fun r4 M5 h => ?_)
      refine mv_istore_n [(2, .int r4), (0, .ref 3), (1, .int a0)] dX3_parseType_42 (by decide) rfl ?_
      refine mv_aload_n 1 dX3_parseType_43 rfl ?_
      refine mv_bipush 44 dX3_parseType_44 (by decide) ?_
      refine mv_cvV (As := [.int 44]) (st := []) okX3_take lX3_89 (by decide) rfl rfl rfl (Nat.le_of_ble_eq_true rfl) rfl (Nat.le_of_ble_eq_true rfl) dX3_parseType_46 (by omega) rfl (zX3_take (d := d - 1) (by omega) 44 M5 (mv_bindE h)) (fun _ M6 h => ?_)
      refine mv_aload_n 1 dX3_parseType_49 rfl ?_
      refine mv_iload_n 2 dX3_parseType_50 rfl ?_
      refine mv_iconst 1 dX3_parseType_51 (by decide) ?_
      refine mv_iadd dX3_parseType_52 ?_
      refine mv_cvI (As := [.int (a0 + 1)]) (st := []) okX3_parseType lX3_99 (by decide) rfl rfl rfl (Nat.le_of_ble_eq_true rfl) rfl (Nat.le_of_ble_eq_true rfl) dX3_parseType_53 (by omega) rfl (hr_X3_parseType (a0 + 1) M6 _ (mv_bindE h)) (fun r7 M8 h => ?_)
      refine mv_istore_n [(3, .int r7), (2, .int r4), (0, .ref 3), (1, .int a0)] dX3_parseType_56 (by decide) rfl ?_
      refine mv_aload_n 2 dX3_parseType_57 rfl ?_
      refine mv_bipush 41 dX3_parseType_58 (by decide) ?_
      refine mv_cvV (As := [.int 41]) (st := []) okX3_take lX3_89 (by decide) rfl rfl rfl (Nat.le_of_ble_eq_true rfl) rfl (Nat.le_of_ble_eq_true rfl) dX3_parseType_60 (by omega) rfl (zX3_take (d := d - 1) (by omega) 41 M8 (mv_bindE h)) (fun _ M9 h => ?_)
      refine mv_iload_n 1 dX3_parseType_63 rfl ?_
      refine mv_iload_n 0 dX3_parseType_64 rfl ?_
      refine mv_csI (As := [.int r4, .int r7]) (st := []) okX6_pairOf lX3_126 rfl (Nat.le_of_ble_eq_true rfl) rfl (Nat.le_of_ble_eq_true rfl) dX3_parseType_65 (by omega) rfl (zX6_pairOf (d := d - 1) (by omega) r4 r7 M9 (mv_bindE h)) (fun r10 M11 h => ?_)
      exact mv_iret rfl dX3_parseType_68 ⟨_, rfl, h⟩
    · replace h := mv_ifF z h
      refine mv_aload_n 0 dX3_parseType_23 rfl ?_
      refine mv_bipush 6 dX3_parseType_24 (by decide) ?_
      refine mv_cvV (As := [.int 6]) (st := []) okX3_stop lX3_57 (by decide) rfl rfl rfl (Nat.le_of_ble_eq_true rfl) rfl (Nat.le_of_ble_eq_true rfl) dX3_parseType_26 (by omega) rfl (zX3_stop (d := d - 1) (by omega) 6 M2 (mv_bindE h)) (fun _ M12 h => ?_)
      refine mv_iconst 0 dX3_parseType_29 (by decide) ?_
      exact mv_iret rfl dX3_parseType_30 ⟨_, rfl, h⟩
  · replace h := mv_ifF z h
    refine mv_aload_n 0 dX3_parseType_9 rfl ?_
    refine mv_sipush 300 dX3_parseType_10 (by decide) ?_
    refine mv_cvV (As := [.int 300]) (st := []) okX3_take lX3_89 (by decide) rfl rfl rfl (Nat.le_of_ble_eq_true rfl) rfl (Nat.le_of_ble_eq_true rfl) dX3_parseType_13 (by omega) rfl (zX3_take (d := d - 1) (by omega) 300 M2 (mv_bindE h)) (fun _ M13 h => ?_)
    refine mv_iconst 0 dX3_parseType_16 (by decide) ?_
    exact mv_iret rfl dX3_parseType_17 ⟨_, rfl, h⟩
noncomputable def RX3_parseType : Nat → Nat → Int32 → mv_M → Option (Int32 × mv_M)
  | 0, _, _, _ => none
  | n + 1, s, a0, M =>
    fX3_parseType (fun a0 M => RX3_parseType n 0 a0 M) a0 M
set_option maxRecDepth 100000 in
theorem zRX3_parseType {l : Launch} : ∀ (n d : Nat), n + 6 ≤ d → (∀ (a0 : Int32) (M : mv_M) (Q : Int32 → mv_M → Prop), mv_ok (RX3_parseType n 0 a0 M) Q → mv l mX3_parseType d 0 0 (lv_args 0 [.ref 3, .int a0]) [] M (mv_qI Q)) := by
  intro n
  induction n with
  | zero =>
    intro d hd
    intro a0 M Q h
    rw [RX3_parseType] at h
    exact False.elim h
  | succ n ih =>
    intro d hd
    have hi := ih (d - 1) (by omega)
    intro a0 M Q h
    rw [RX3_parseType] at h
    exact zX3_parseType (by omega) hi a0 M h

noncomputable def tX3_parseType (a0 : Int32) (M : mv_M) : Option (Int32 × mv_M) := RX3_parseType 12 0 a0 M
theorem ztX3_parseType {l : Launch} {d : Nat} {Q : Int32 → mv_M → Prop} (hd : 18 ≤ d) (a0 : Int32) (M : mv_M) (h : mv_ok (tX3_parseType a0 M) Q) : mv l mX3_parseType d 0 0 (lv_args 0 [.ref 3, .int a0]) [] M (mv_qI Q) := (zRX3_parseType 12 d hd) a0 M Q h
theorem dX3_parseParam_0 : decode cX3_parseParam 0 = .ok (.aload_n 0, 1) := by decide +kernel
theorem dX3_parseParam_1 : decode cX3_parseParam 1 = .ok (.getfield 9, 3) := by decide +kernel
theorem dX3_parseParam_4 : decode cX3_parseParam 4 = .ok (.aload_n 0, 1) := by decide +kernel
theorem dX3_parseParam_5 : decode cX3_parseParam 5 = .ok (.getfield 28, 3) := by decide +kernel
theorem dX3_parseParam_8 : decode cX3_parseParam 8 = .ok (.invokevirtual 64, 3) := by decide +kernel
theorem dX3_parseParam_11 : decode cX3_parseParam 11 = .ok (.lstore_n 1, 1) := by decide +kernel
theorem dX3_parseParam_12 : decode cX3_parseParam 12 = .ok (.iconst 0, 1) := by decide +kernel
theorem dX3_parseParam_13 : decode cX3_parseParam 13 = .ok (.istore_n 3, 1) := by decide +kernel
theorem dX3_parseParam_14 : decode cX3_parseParam 14 = .ok (.iconst 0, 1) := by decide +kernel
theorem dX3_parseParam_15 : decode cX3_parseParam 15 = .ok (.istore 4, 2) := by decide +kernel
theorem dX3_parseParam_17 : decode cX3_parseParam 17 = .ok (.iload 4, 2) := by decide +kernel
theorem dX3_parseParam_19 : decode cX3_parseParam 19 = .ok (.aload_n 0, 1) := by decide +kernel
theorem dX3_parseParam_20 : decode cX3_parseParam 20 = .ok (.getfield 19, 3) := by decide +kernel
theorem dX3_parseParam_23 : decode cX3_parseParam 23 = .ok (.getfield 111, 3) := by decide +kernel
theorem dX3_parseParam_26 : decode cX3_parseParam 26 = .ok (.aload_n 0, 1) := by decide +kernel
theorem dX3_parseParam_27 : decode cX3_parseParam 27 = .ok (.getfield 82, 3) := by decide +kernel
theorem dX3_parseParam_30 : decode cX3_parseParam 30 = .ok (.iaload, 1) := by decide +kernel
theorem dX3_parseParam_31 : decode cX3_parseParam 31 = .ok (.if_icmp .ge 36, 3) := by decide +kernel
theorem dX3_parseParam_34 : decode cX3_parseParam 34 = .ok (.iload_n 3, 1) := by decide +kernel
theorem dX3_parseParam_35 : decode cX3_parseParam 35 = .ok (.ifCond .ne 20, 3) := by decide +kernel
theorem dX3_parseParam_38 : decode cX3_parseParam 38 = .ok (.aload_n 0, 1) := by decide +kernel
theorem dX3_parseParam_39 : decode cX3_parseParam 39 = .ok (.getfield 19, 3) := by decide +kernel
theorem dX3_parseParam_42 : decode cX3_parseParam 42 = .ok (.aload_n 0, 1) := by decide +kernel
theorem dX3_parseParam_43 : decode cX3_parseParam 43 = .ok (.getfield 82, 3) := by decide +kernel
theorem dX3_parseParam_46 : decode cX3_parseParam 46 = .ok (.iload 4, 2) := by decide +kernel
theorem dX3_parseParam_48 : decode cX3_parseParam 48 = .ok (.lload_n 1, 1) := by decide +kernel
theorem dX3_parseParam_49 : decode cX3_parseParam 49 = .ok (.invokevirtual 114, 3) := by decide +kernel
theorem dX3_parseParam_52 : decode cX3_parseParam 52 = .ok (.ifCond .eq 7, 3) := by decide +kernel
theorem dX3_parseParam_55 : decode cX3_parseParam 55 = .ok (.iconst 1, 1) := by decide +kernel
theorem dX3_parseParam_56 : decode cX3_parseParam 56 = .ok (.goto 4, 3) := by decide +kernel
theorem dX3_parseParam_59 : decode cX3_parseParam 59 = .ok (.iconst 0, 1) := by decide +kernel
theorem dX3_parseParam_60 : decode cX3_parseParam 60 = .ok (.istore_n 3, 1) := by decide +kernel
theorem dX3_parseParam_61 : decode cX3_parseParam 61 = .ok (.iinc 4 1, 3) := by decide +kernel
theorem dX3_parseParam_64 : decode cX3_parseParam 64 = .ok (.goto (-47), 3) := by decide +kernel
theorem dX3_parseParam_67 : decode cX3_parseParam 67 = .ok (.aload_n 0, 1) := by decide +kernel
theorem dX3_parseParam_68 : decode cX3_parseParam 68 = .ok (.iload_n 3, 1) := by decide +kernel
theorem dX3_parseParam_69 : decode cX3_parseParam 69 = .ok (.aload_n 0, 1) := by decide +kernel
theorem dX3_parseParam_70 : decode cX3_parseParam 70 = .ok (.getfield 19, 3) := by decide +kernel
theorem dX3_parseParam_73 : decode cX3_parseParam 73 = .ok (.getfield 111, 3) := by decide +kernel
theorem dX3_parseParam_76 : decode cX3_parseParam 76 = .ok (.aload_n 0, 1) := by decide +kernel
theorem dX3_parseParam_77 : decode cX3_parseParam 77 = .ok (.getfield 82, 3) := by decide +kernel
theorem dX3_parseParam_80 : decode cX3_parseParam 80 = .ok (.iaload, 1) := by decide +kernel
theorem dX3_parseParam_81 : decode cX3_parseParam 81 = .ok (.iconst 4, 1) := by decide +kernel
theorem dX3_parseParam_82 : decode cX3_parseParam 82 = .ok (.if_icmp .lt 7, 3) := by decide +kernel
theorem dX3_parseParam_85 : decode cX3_parseParam 85 = .ok (.iconst 1, 1) := by decide +kernel
theorem dX3_parseParam_86 : decode cX3_parseParam 86 = .ok (.goto 4, 3) := by decide +kernel
theorem dX3_parseParam_89 : decode cX3_parseParam 89 = .ok (.iconst 0, 1) := by decide +kernel
theorem dX3_parseParam_90 : decode cX3_parseParam 90 = .ok (.invokevirtual 75, 3) := by decide +kernel
theorem dX3_parseParam_93 : decode cX3_parseParam 93 = .ok (.aload_n 0, 1) := by decide +kernel
theorem dX3_parseParam_94 : decode cX3_parseParam 94 = .ok (.getfield 15, 3) := by decide +kernel
theorem dX3_parseParam_97 : decode cX3_parseParam 97 = .ok (.getfield 79, 3) := by decide +kernel
theorem dX3_parseParam_100 : decode cX3_parseParam 100 = .ok (.ifCond .eq 4, 3) := by decide +kernel
theorem dX3_parseParam_103 : decode cX3_parseParam 103 = .ok (.return_, 1) := by decide +kernel
theorem dX3_parseParam_104 : decode cX3_parseParam 104 = .ok (.aload_n 0, 1) := by decide +kernel
theorem dX3_parseParam_105 : decode cX3_parseParam 105 = .ok (.getfield 19, 3) := by decide +kernel
theorem dX3_parseParam_108 : decode cX3_parseParam 108 = .ok (.aload_n 0, 1) := by decide +kernel
theorem dX3_parseParam_109 : decode cX3_parseParam 109 = .ok (.getfield 82, 3) := by decide +kernel
theorem dX3_parseParam_112 : decode cX3_parseParam 112 = .ok (.lload_n 1, 1) := by decide +kernel
theorem dX3_parseParam_113 : decode cX3_parseParam 113 = .ok (.invokevirtual 118, 3) := by decide +kernel
theorem dX3_parseParam_116 : decode cX3_parseParam 116 = .ok (.istore 4, 2) := by decide +kernel
theorem dX3_parseParam_118 : decode cX3_parseParam 118 = .ok (.aload_n 0, 1) := by decide +kernel
theorem dX3_parseParam_119 : decode cX3_parseParam 119 = .ok (.getfield 19, 3) := by decide +kernel
theorem dX3_parseParam_122 : decode cX3_parseParam 122 = .ok (.getfield 111, 3) := by decide +kernel
theorem dX3_parseParam_125 : decode cX3_parseParam 125 = .ok (.aload_n 0, 1) := by decide +kernel
theorem dX3_parseParam_126 : decode cX3_parseParam 126 = .ok (.getfield 82, 3) := by decide +kernel
theorem dX3_parseParam_129 : decode cX3_parseParam 129 = .ok (.dup2, 1) := by decide +kernel
theorem dX3_parseParam_130 : decode cX3_parseParam 130 = .ok (.iaload, 1) := by decide +kernel
theorem dX3_parseParam_131 : decode cX3_parseParam 131 = .ok (.iconst 1, 1) := by decide +kernel
theorem dX3_parseParam_132 : decode cX3_parseParam 132 = .ok (.iadd, 1) := by decide +kernel
theorem dX3_parseParam_133 : decode cX3_parseParam 133 = .ok (.iastore, 1) := by decide +kernel
theorem dX3_parseParam_134 : decode cX3_parseParam 134 = .ok (.aload_n 0, 1) := by decide +kernel
theorem dX3_parseParam_135 : decode cX3_parseParam 135 = .ok (.bipush 58, 2) := by decide +kernel
theorem dX3_parseParam_137 : decode cX3_parseParam 137 = .ok (.invokevirtual 89, 3) := by decide +kernel
theorem dX3_parseParam_140 : decode cX3_parseParam 140 = .ok (.aload_n 0, 1) := by decide +kernel
theorem dX3_parseParam_141 : decode cX3_parseParam 141 = .ok (.getfield 19, 3) := by decide +kernel
theorem dX3_parseParam_144 : decode cX3_parseParam 144 = .ok (.aload_n 0, 1) := by decide +kernel
theorem dX3_parseParam_145 : decode cX3_parseParam 145 = .ok (.getfield 82, 3) := by decide +kernel
theorem dX3_parseParam_148 : decode cX3_parseParam 148 = .ok (.iload 4, 2) := by decide +kernel
theorem dX3_parseParam_150 : decode cX3_parseParam 150 = .ok (.aload_n 0, 1) := by decide +kernel
theorem dX3_parseParam_151 : decode cX3_parseParam 151 = .ok (.iconst 0, 1) := by decide +kernel
theorem dX3_parseParam_152 : decode cX3_parseParam 152 = .ok (.invokevirtual 99, 3) := by decide +kernel
theorem dX3_parseParam_155 : decode cX3_parseParam 155 = .ok (.invokevirtual 122, 3) := by decide +kernel
theorem dX3_parseParam_158 : decode cX3_parseParam 158 = .ok (.return_, 1) := by decide +kernel
noncomputable def fX3_parseParam_60 (x1 : Int64) (x4 : Int32) (s0 : Int32) (M : mv_M) : Option (((Int64 × Int32 × Int32) ⊕ Unit) × mv_M) :=
  mv_let (x4 + 1) fun v23 =>
  some (.inl (x1, s0, v23), M)
set_option maxRecDepth 100000 in
set_option maxHeartbeats 4000000 in
theorem zX3_parseParam_60 {l : Launch} {d : Nat} {Q : Unit → mv_M → Prop} (hd : 19 ≤ d) (x1 : Int64) (x4 : Int32) (s0 : Int32) (M : mv_M) (h : mv_ok (fX3_parseParam_60 x1 x4 s0 M) (mv_pq (fun (s : Int64 × Int32 × Int32) M => mv l mX3_parseParam d 0 17 [(0, .ref 3), (1, .long s.1), (3, .int s.2.1), (4, .int s.2.2)] [] M (mv_qV Q)) Q)) : mv l mX3_parseParam d 0 60 [(0, .ref 3), (1, .long x1), (4, .int x4)] [.int s0] M (mv_qV Q) := by
  unfold fX3_parseParam_60 at h
  refine mv_istore_n [(3, .int s0), (0, .ref 3), (1, .long x1), (4, .int x4)] dX3_parseParam_60 (by decide) rfl ?_
  obtain ⟨v23, ev23⟩ : ∃ z : Int32, z = x4 + 1 := ⟨_, rfl⟩
  replace h := mv_letE h v23 ev23
  refine mv_iinc v23 3 [(4, .int v23), (3, .int s0), (0, .ref 3), (1, .long x1)] dX3_parseParam_61 rfl (by rw [ev23]; rfl) (by decide) rfl ?_
  refine mv_goto 17 dX3_parseParam_64 (by decide) ?_
  refine mv_sub [2, 3, 1, 0] rfl ?_
  exact h
noncomputable def fX3_parseParam_55 (x1 : Int64) (x4 : Int32) (M : mv_M) : Option (((Int64 × Int32 × Int32) ⊕ Unit) × mv_M) :=
  fX3_parseParam_60 x1 x4 1 M
set_option maxRecDepth 100000 in
set_option maxHeartbeats 4000000 in
theorem zX3_parseParam_55 {l : Launch} {d : Nat} {Q : Unit → mv_M → Prop} (hd : 19 ≤ d) (x1 : Int64) (x4 : Int32) (M : mv_M) (h : mv_ok (fX3_parseParam_55 x1 x4 M) (mv_pq (fun (s : Int64 × Int32 × Int32) M => mv l mX3_parseParam d 0 17 [(0, .ref 3), (1, .long s.1), (3, .int s.2.1), (4, .int s.2.2)] [] M (mv_qV Q)) Q)) : mv l mX3_parseParam d 0 55 [(0, .ref 3), (1, .long x1), (4, .int x4)] [] M (mv_qV Q) := by
  unfold fX3_parseParam_55 at h
  refine mv_iconst 1 dX3_parseParam_55 (by decide) ?_
  refine mv_goto 60 dX3_parseParam_56 (by decide) ?_
  refine mv_sub [0, 1, 2] rfl ?_
  exact zX3_parseParam_60 hd x1 x4 1 M h
noncomputable def fX3_parseParam_90 (x1 : Int64) (s0 : Int32) (s1 : Int32) (M : mv_M) : Option (Unit × mv_M) :=
  mv_bind (fX3_takeNewName s1 s0 M) fun _ M10 =>
  if (M10.1 1 0) = 0 then
    mv_getp (M10.2.2 3 2) fun b11 =>
    mv_bind (fX4_addName b11 (M10.1 3 4) x1 M10) fun r12 M13 =>
    mv_getp (M13.2.2 3 2) fun b14 =>
    mv_chk (mv_inb (M13.1 3 4) 12) <|
    mv_chk (mv_inb (M13.1 3 4) 12) <|
    mv_let (mv_si M13 (b14 + 2) (M13.1 3 4).toNatClampNeg ((M13.1 (b14 + 2) (M13.1 3 4).toNatClampNeg) + 1)) fun M17 =>
    mv_bind (fX3_take 58 M17) fun _ M18 =>
    mv_getp (M18.2.2 3 2) fun b19 =>
    mv_bind (tX3_parseType 0 M18) fun r20 M21 =>
    mv_bind (fX4_setNameType b19 (M18.1 3 4) r12 r20 M21) fun _ M22 =>
    some ((), M22)
  else
    some ((), M10)
set_option maxRecDepth 100000 in
set_option maxHeartbeats 4000000 in
theorem zX3_parseParam_90 {l : Launch} {d : Nat} {Q : Unit → mv_M → Prop} (hd : 19 ≤ d) (x1 : Int64) (s0 : Int32) (s1 : Int32) (M : mv_M) (h : mv_ok (fX3_parseParam_90 x1 s0 s1 M) Q) : mv l mX3_parseParam d 0 90 [(0, .ref 3), (1, .long x1)] [.int s0, .int s1, .ref 3] M (mv_qV Q) := by
  unfold fX3_parseParam_90 at h
  refine mv_cvV (As := [.int s1, .int s0]) (st := []) okX3_takeNewName lX3_75 (by decide) rfl rfl rfl (Nat.le_of_ble_eq_true rfl) rfl (Nat.le_of_ble_eq_true rfl) dX3_parseParam_90 (by omega) rfl (zX3_takeNewName (d := d - 1) (by omega) s1 s0 M (mv_bindE h)) (fun _ M10 h => ?_)
  refine mv_aload_n 0 dX3_parseParam_93 rfl ?_
  refine mv_getR 1 fX3_15 (by decide) rfl rfl rfl dX3_parseParam_94 ?_
  refine mv_getI fX3_79 (by decide) rfl rfl dX3_parseParam_97 ?_
  refine mv_if_eq 104 dX3_parseParam_100 (by decide) (fun z => ?_) (fun z => ?_)
  · replace h := mv_ifT z h
    refine mv_aload_n 0 dX3_parseParam_104 rfl ?_
    obtain ⟨b11, eb11, hb11, h⟩ := mv_getpE h
    refine mv_getP b11 fX3_19 (by decide) rfl rfl eb11 dX3_parseParam_105 ?_
    refine mv_aload_n 0 dX3_parseParam_108 rfl ?_
    refine mv_getI fX3_82 (by decide) rfl rfl dX3_parseParam_109 ?_
    refine mv_lload_n 1 dX3_parseParam_112 rfl ?_
    refine mv_cvI (As := [.int (M10.1 3 4), .long x1]) (st := []) okX4_addName lX3_118 (mv_pN (t := 0) hb11 (by decide)) (by rcases hb11 with rfl | rfl <;> rfl) rfl rfl (Nat.le_of_ble_eq_true rfl) rfl (Nat.le_of_ble_eq_true rfl) dX3_parseParam_113 (by omega) rfl (zX4_addName (d := d - 1) (by omega) b11 (M10.1 3 4) x1 M10 hb11 (mv_bindE h)) (fun r12 M13 h => ?_)
    refine mv_istore [(4, .int r12), (0, .ref 3), (1, .long x1)] dX3_parseParam_116 (by decide) rfl ?_
    refine mv_aload_n 1 dX3_parseParam_118 rfl ?_
    obtain ⟨b14, eb14, hb14, h⟩ := mv_getpE h
    refine mv_getP b14 fX3_19 (by decide) rfl rfl eb14 dX3_parseParam_119 ?_
    refine mv_getR (b14 + 2) fX3_111 (mv_pN (t := 0) hb14 (by decide)) (by rcases hb14 with rfl | rfl <;> rfl) rfl (by rcases hb14 with rfl | rfl <;> rfl) dX3_parseParam_122 ?_
    refine mv_aload_n 1 dX3_parseParam_125 rfl ?_
    refine mv_getI fX3_82 (by decide) rfl rfl dX3_parseParam_126 ?_
    refine mv_dup2 dX3_parseParam_129 rfl rfl ?_
    obtain ⟨hi15, h⟩ := mv_chkE h
    refine mv_ild (mv_pN (t := 2) hb14 (by decide)) (by rcases hb14 with rfl | rfl <;> rfl) (mv_inE hi15) dX3_parseParam_130 ?_
    refine mv_iconst 1 dX3_parseParam_131 (by decide) ?_
    refine mv_iadd dX3_parseParam_132 ?_
    obtain ⟨hi16, h⟩ := mv_chkE h
    refine mv_ist (mv_pN (t := 2) hb14 (by decide)) (by rcases hb14 with rfl | rfl <;> rfl) (mv_inE hi16) dX3_parseParam_133 (fun M17 eM17 => ?_)
    replace h := mv_letE h M17 eM17
    refine mv_aload_n 1 dX3_parseParam_134 rfl ?_
    refine mv_bipush 58 dX3_parseParam_135 (by decide) ?_
    refine mv_cvV (As := [.int 58]) (st := []) okX3_take lX3_89 (by decide) rfl rfl rfl (Nat.le_of_ble_eq_true rfl) rfl (Nat.le_of_ble_eq_true rfl) dX3_parseParam_137 (by omega) rfl (zX3_take (d := d - 1) (by omega) 58 M17 (mv_bindE h)) (fun _ M18 h => ?_)
    refine mv_aload_n 1 dX3_parseParam_140 rfl ?_
    obtain ⟨b19, eb19, hb19, h⟩ := mv_getpE h
    refine mv_getP b19 fX3_19 (by decide) rfl rfl eb19 dX3_parseParam_141 ?_
    refine mv_aload_n 1 dX3_parseParam_144 rfl ?_
    refine mv_getI fX3_82 (by decide) rfl rfl dX3_parseParam_145 ?_
    refine mv_iload 0 dX3_parseParam_148 rfl ?_
    refine mv_aload_n 1 dX3_parseParam_150 rfl ?_
    refine mv_iconst 0 dX3_parseParam_151 (by decide) ?_
    refine mv_cvI (As := [.int 0]) (st := [.int r12, .int (M18.1 3 4), .ref b19]) okX3_parseType lX3_99 (by decide) rfl rfl rfl (Nat.le_of_ble_eq_true rfl) rfl (Nat.le_of_ble_eq_true rfl) dX3_parseParam_152 (by omega) rfl (ztX3_parseType (d := d - 1) (by omega) 0 M18 (mv_bindE h)) (fun r20 M21 h => ?_)
    refine mv_cvV (As := [.int (M18.1 3 4), .int r12, .int r20]) (st := []) okX4_setNameType lX3_122 (mv_pN (t := 0) hb19 (by decide)) (by rcases hb19 with rfl | rfl <;> rfl) rfl rfl (Nat.le_of_ble_eq_true rfl) rfl (Nat.le_of_ble_eq_true rfl) dX3_parseParam_155 (by omega) rfl (zX4_setNameType (d := d - 1) (by omega) b19 (M18.1 3 4) r12 r20 M21 hb19 (mv_bindE h)) (fun _ M22 h => ?_)
    exact mv_vret rfl dX3_parseParam_158 ⟨rfl, h⟩
  · replace h := mv_ifF z h
    exact mv_vret rfl dX3_parseParam_103 ⟨rfl, h⟩
noncomputable def gX3_parseParam_17 (x1 : Int64) (x3 : Int32) (x4 : Int32) (M : mv_M) : Option (((Int64 × Int32 × Int32) ⊕ Unit) × mv_M) :=
  mv_getp (M.2.2 3 2) fun b3 =>
  mv_chk (mv_inb (M.1 3 4) 12) <|
  if (M.1 (b3 + 2) (M.1 3 4).toNatClampNeg) ≤ x4 then
    mv_getp (M.2.2 3 2) fun b5 =>
    mv_chk (mv_inb (M.1 3 4) 12) <|
    if (M.1 (b5 + 2) (M.1 3 4).toNatClampNeg) < 4 then
      mv_inr (fX3_parseParam_90 x1 0 x3 M)
    else
      mv_inr (fX3_parseParam_90 x1 1 x3 M)
  else
    if x3 = 0 then
      mv_getp (M.2.2 3 2) fun b7 =>
      mv_bind (fX4_isNamed b7 (M.1 3 4) x4 x1 M) fun r8 M9 =>
      if r8 = 0 then
        fX3_parseParam_60 x1 x4 0 M9
      else
        fX3_parseParam_55 x1 x4 M9
    else
      fX3_parseParam_55 x1 x4 M
noncomputable def fX3_parseParam_17 (x1 : Int64) (x3 : Int32) (x4 : Int32) (M : mv_M) : Option (Unit × mv_M) := mv_loop (fun (s : Int64 × Int32 × Int32) M => gX3_parseParam_17 s.1 s.2.1 s.2.2 M) (x1, x3, x4) M
set_option maxRecDepth 100000 in
set_option maxHeartbeats 4000000 in
theorem zX3_parseParam_17 {l : Launch} {d : Nat} {Q : Unit → mv_M → Prop} (hd : 19 ≤ d) (x1 : Int64) (x3 : Int32) (x4 : Int32) (M : mv_M) (h : mv_ok (fX3_parseParam_17 x1 x3 x4 M) Q) : mv l mX3_parseParam d 0 17 [(0, .ref 3), (1, .long x1), (3, .int x3), (4, .int x4)] [] M (mv_qV Q) := by
  unfold fX3_parseParam_17 at h
  refine mv_loopE (A := (fun (s : Int64 × Int32 × Int32) M => mv l mX3_parseParam d 0 17 [(0, .ref 3), (1, .long s.1), (3, .int s.2.1), (4, .int s.2.2)] [] M (mv_qV Q))) ?_ (x1, x3, x4) M h
  · rintro ⟨x1, x3, x4⟩ M h
    try dsimp only at h
    show mv l mX3_parseParam d 0 17 [(0, .ref 3), (1, .long x1), (3, .int x3), (4, .int x4)] [] M (mv_qV Q)
    unfold gX3_parseParam_17 at h
    refine mv_iload 3 dX3_parseParam_17 rfl ?_
    refine mv_aload_n 0 dX3_parseParam_19 rfl ?_
    obtain ⟨b3, eb3, hb3, h⟩ := mv_getpE h
    refine mv_getP b3 fX3_19 (by decide) rfl rfl eb3 dX3_parseParam_20 ?_
    refine mv_getR (b3 + 2) fX3_111 (mv_pN (t := 0) hb3 (by decide)) (by rcases hb3 with rfl | rfl <;> rfl) rfl (by rcases hb3 with rfl | rfl <;> rfl) dX3_parseParam_23 ?_
    refine mv_aload_n 0 dX3_parseParam_26 rfl ?_
    refine mv_getI fX3_82 (by decide) rfl rfl dX3_parseParam_27 ?_
    obtain ⟨hi4, h⟩ := mv_chkE h
    refine mv_ild (mv_pN (t := 2) hb3 (by decide)) (by rcases hb3 with rfl | rfl <;> rfl) (mv_inE hi4) dX3_parseParam_30 ?_
    refine mv_icmp_ge 67 dX3_parseParam_31 (by decide) (fun z => ?_) (fun z => ?_)
    · replace h := mv_ifT z h
      refine mv_aload_n 0 dX3_parseParam_67 rfl ?_
      refine mv_iload_n 2 dX3_parseParam_68 rfl ?_
      refine mv_aload_n 0 dX3_parseParam_69 rfl ?_
      obtain ⟨b5, eb5, hb5, h⟩ := mv_getpE h
      refine mv_getP b5 fX3_19 (by decide) rfl rfl eb5 dX3_parseParam_70 ?_
      refine mv_getR (b5 + 2) fX3_111 (mv_pN (t := 0) hb5 (by decide)) (by rcases hb5 with rfl | rfl <;> rfl) rfl (by rcases hb5 with rfl | rfl <;> rfl) dX3_parseParam_73 ?_
      refine mv_aload_n 0 dX3_parseParam_76 rfl ?_
      refine mv_getI fX3_82 (by decide) rfl rfl dX3_parseParam_77 ?_
      obtain ⟨hi6, h⟩ := mv_chkE h
      refine mv_ild (mv_pN (t := 2) hb5 (by decide)) (by rcases hb5 with rfl | rfl <;> rfl) (mv_inE hi6) dX3_parseParam_80 ?_
      refine mv_iconst 4 dX3_parseParam_81 (by decide) ?_
      refine mv_icmp_lt 89 dX3_parseParam_82 (by decide) (fun z => ?_) (fun z => ?_)
      · replace h := mv_ifT z h
        refine mv_iconst 0 dX3_parseParam_89 (by decide) ?_
        refine mv_sub [0, 1] rfl ?_
        exact zX3_parseParam_90 hd x1 0 x3 M (mv_inrE h)
      · replace h := mv_ifF z h
        refine mv_iconst 1 dX3_parseParam_85 (by decide) ?_
        refine mv_goto 90 dX3_parseParam_86 (by decide) ?_
        refine mv_sub [0, 1] rfl ?_
        exact zX3_parseParam_90 hd x1 1 x3 M (mv_inrE h)
    · replace h := mv_ifF z h
      refine mv_iload_n 2 dX3_parseParam_34 rfl ?_
      refine mv_if_ne 55 dX3_parseParam_35 (by decide) (fun z => ?_) (fun z => ?_)
      · replace h := mv_ifF z h
        refine mv_sub [0, 1, 3] rfl ?_
        exact zX3_parseParam_55 hd x1 x4 M h
      · replace h := mv_ifT z h
        refine mv_aload_n 0 dX3_parseParam_38 rfl ?_
        obtain ⟨b7, eb7, hb7, h⟩ := mv_getpE h
        refine mv_getP b7 fX3_19 (by decide) rfl rfl eb7 dX3_parseParam_39 ?_
        refine mv_aload_n 0 dX3_parseParam_42 rfl ?_
        refine mv_getI fX3_82 (by decide) rfl rfl dX3_parseParam_43 ?_
        refine mv_iload 3 dX3_parseParam_46 rfl ?_
        refine mv_lload_n 1 dX3_parseParam_48 rfl ?_
        refine mv_cvI (As := [.int (M.1 3 4), .int x4, .long x1]) (st := []) okX4_isNamed lX3_114 (mv_pN (t := 0) hb7 (by decide)) (by rcases hb7 with rfl | rfl <;> rfl) rfl rfl (Nat.le_of_ble_eq_true rfl) rfl (Nat.le_of_ble_eq_true rfl) dX3_parseParam_49 (by omega) rfl (zX4_isNamed (d := d - 1) (by omega) b7 (M.1 3 4) x4 x1 M hb7 (mv_bindE h)) (fun r8 M9 h => ?_)
        refine mv_if_eq 59 dX3_parseParam_52 (by decide) (fun z => ?_) (fun z => ?_)
        · replace h := mv_ifT z h
          refine mv_iconst 0 dX3_parseParam_59 (by decide) ?_
          refine mv_sub [0, 1, 3] rfl ?_
          exact zX3_parseParam_60 hd x1 x4 0 M9 h
        · replace h := mv_ifF z h
          refine mv_sub [0, 1, 3] rfl ?_
          exact zX3_parseParam_55 hd x1 x4 M9 h
noncomputable def fX3_parseParam (M : mv_M) : Option (Unit × mv_M) :=
  mv_bind (fX8_textOf (M.1 3 3) M) fun r1 M2 =>
  fX3_parseParam_17 r1 0 0 M2
set_option maxRecDepth 100000 in
set_option maxHeartbeats 4000000 in
theorem zX3_parseParam {l : Launch} {d : Nat} {Q : Unit → mv_M → Prop} (hd : 19 ≤ d) (M : mv_M) (h : mv_ok (fX3_parseParam M) Q) : mv l mX3_parseParam d 0 0 (lv_args 0 [.ref 3]) [] M (mv_qV Q) := by
  unfold fX3_parseParam at h
  show mv l mX3_parseParam d 0 0 [(0, .ref 3)] [] M (mv_qV Q)
  refine mv_aload_n 0 dX3_parseParam_0 rfl ?_
  refine mv_getR 2 fX3_9 (by decide) rfl rfl rfl dX3_parseParam_1 ?_
  refine mv_aload_n 0 dX3_parseParam_4 rfl ?_
  refine mv_getI fX3_28 (by decide) rfl rfl dX3_parseParam_5 ?_
  refine mv_cvL (As := [.int (M.1 3 3)]) (st := []) okX8_textOf lX3_64 (by decide) rfl rfl rfl (Nat.le_of_ble_eq_true rfl) rfl (Nat.le_of_ble_eq_true rfl) dX3_parseParam_8 (by omega) rfl (zX8_textOf (d := d - 1) (by omega) (M.1 3 3) M (mv_bindE h)) (fun r1 M2 h => ?_)
  refine mv_lstore_n [(1, .long r1), (0, .ref 3)] dX3_parseParam_11 (by decide) rfl ?_
  refine mv_iconst 0 dX3_parseParam_12 (by decide) ?_
  refine mv_istore_n [(3, .int 0), (1, .long r1), (0, .ref 3)] dX3_parseParam_13 (by decide) rfl ?_
  refine mv_iconst 0 dX3_parseParam_14 (by decide) ?_
  refine mv_istore [(4, .int 0), (3, .int 0), (1, .long r1), (0, .ref 3)] dX3_parseParam_15 (by decide) rfl ?_
  refine mv_sub [3, 2, 1, 0] rfl ?_
  exact zX3_parseParam_17 hd r1 0 0 M2 h
theorem dX3_parseParams_0 : decode cX3_parseParams 0 = .ok (.aload_n 0, 1) := by decide +kernel
theorem dX3_parseParams_1 : decode cX3_parseParams 1 = .ok (.invokevirtual 108, 3) := by decide +kernel
theorem dX3_parseParams_4 : decode cX3_parseParams 4 = .ok (.iconst 0, 1) := by decide +kernel
theorem dX3_parseParams_5 : decode cX3_parseParams 5 = .ok (.istore_n 1, 1) := by decide +kernel
theorem dX3_parseParams_6 : decode cX3_parseParams 6 = .ok (.iload_n 1, 1) := by decide +kernel
theorem dX3_parseParams_7 : decode cX3_parseParams 7 = .ok (.iconst 4, 1) := by decide +kernel
theorem dX3_parseParams_8 : decode cX3_parseParams 8 = .ok (.if_icmp .ge 26, 3) := by decide +kernel
theorem dX3_parseParams_11 : decode cX3_parseParams 11 = .ok (.aload_n 0, 1) := by decide +kernel
theorem dX3_parseParams_12 : decode cX3_parseParams 12 = .ok (.invokevirtual 35, 3) := by decide +kernel
theorem dX3_parseParams_15 : decode cX3_parseParams 15 = .ok (.bipush 44, 2) := by decide +kernel
theorem dX3_parseParams_17 : decode cX3_parseParams 17 = .ok (.if_icmp .ne 17, 3) := by decide +kernel
theorem dX3_parseParams_20 : decode cX3_parseParams 20 = .ok (.aload_n 0, 1) := by decide +kernel
theorem dX3_parseParams_21 : decode cX3_parseParams 21 = .ok (.invokevirtual 61, 3) := by decide +kernel
theorem dX3_parseParams_24 : decode cX3_parseParams 24 = .ok (.aload_n 0, 1) := by decide +kernel
theorem dX3_parseParams_25 : decode cX3_parseParams 25 = .ok (.invokevirtual 108, 3) := by decide +kernel
theorem dX3_parseParams_28 : decode cX3_parseParams 28 = .ok (.iinc 1 1, 3) := by decide +kernel
theorem dX3_parseParams_31 : decode cX3_parseParams 31 = .ok (.goto (-25), 3) := by decide +kernel
theorem dX3_parseParams_34 : decode cX3_parseParams 34 = .ok (.return_, 1) := by decide +kernel
noncomputable def gX3_parseParams_6 (x1 : Int32) (M : mv_M) : Option (((Int32) ⊕ Unit) × mv_M) :=
  if 4 ≤ x1 then
    some (.inr (()), M)
  else
    mv_bind (fX3_kind M) fun r2 M3 =>
    if r2 = 44 then
      mv_bind (fX3_pass M3) fun _ M4 =>
      mv_bind (fX3_parseParam M4) fun _ M5 =>
      mv_let (x1 + 1) fun v6 =>
      some (.inl v6, M5)
    else
      some (.inr (()), M3)
noncomputable def fX3_parseParams_6 (x1 : Int32) (M : mv_M) : Option (Unit × mv_M) := mv_loop (fun (s : Int32) M => gX3_parseParams_6 s M) x1 M
set_option maxRecDepth 100000 in
set_option maxHeartbeats 4000000 in
theorem zX3_parseParams_6 {l : Launch} {d : Nat} {Q : Unit → mv_M → Prop} (hd : 20 ≤ d) (x1 : Int32) (M : mv_M) (h : mv_ok (fX3_parseParams_6 x1 M) Q) : mv l mX3_parseParams d 0 6 [(0, .ref 3), (1, .int x1)] [] M (mv_qV Q) := by
  unfold fX3_parseParams_6 at h
  refine mv_loopE (A := (fun (s : Int32) M => mv l mX3_parseParams d 0 6 [(0, .ref 3), (1, .int s)] [] M (mv_qV Q))) ?_ x1 M h
  · intro x1 M h
    try dsimp only at h
    show mv l mX3_parseParams d 0 6 [(0, .ref 3), (1, .int x1)] [] M (mv_qV Q)
    unfold gX3_parseParams_6 at h
    refine mv_iload_n 1 dX3_parseParams_6 rfl ?_
    refine mv_iconst 4 dX3_parseParams_7 (by decide) ?_
    refine mv_icmp_ge 34 dX3_parseParams_8 (by decide) (fun z => ?_) (fun z => ?_)
    · replace h := mv_ifT z h
      exact mv_vret rfl dX3_parseParams_34 ⟨rfl, h⟩
    · replace h := mv_ifF z h
      refine mv_aload_n 0 dX3_parseParams_11 rfl ?_
      refine mv_cvI (As := []) (st := []) okX3_kind lX3_35 (by decide) rfl rfl rfl (Nat.le_of_ble_eq_true rfl) rfl (Nat.le_of_ble_eq_true rfl) dX3_parseParams_12 (by omega) rfl (zX3_kind (d := d - 1) (by omega) M (mv_bindE h)) (fun r2 M3 h => ?_)
      refine mv_bipush 44 dX3_parseParams_15 (by decide) ?_
      refine mv_icmp_ne 34 dX3_parseParams_17 (by decide) (fun z => ?_) (fun z => ?_)
      · replace h := mv_ifF z h
        exact mv_vret rfl dX3_parseParams_34 ⟨rfl, h⟩
      · replace h := mv_ifT z h
        refine mv_aload_n 0 dX3_parseParams_20 rfl ?_
        refine mv_cvV (As := []) (st := []) okX3_pass lX3_61 (by decide) rfl rfl rfl (Nat.le_of_ble_eq_true rfl) rfl (Nat.le_of_ble_eq_true rfl) dX3_parseParams_21 (by omega) rfl (zX3_pass (d := d - 1) (by omega) M3 (mv_bindE h)) (fun _ M4 h => ?_)
        refine mv_aload_n 0 dX3_parseParams_24 rfl ?_
        refine mv_cvV (As := []) (st := []) okX3_parseParam lX3_108 (by decide) rfl rfl rfl (Nat.le_of_ble_eq_true rfl) rfl (Nat.le_of_ble_eq_true rfl) dX3_parseParams_25 (by omega) rfl (zX3_parseParam (d := d - 1) (by omega) M4 (mv_bindE h)) (fun _ M5 h => ?_)
        obtain ⟨v6, ev6⟩ : ∃ z : Int32, z = x1 + 1 := ⟨_, rfl⟩
        replace h := mv_letE h v6 ev6
        refine mv_iinc v6 1 [(1, .int v6), (0, .ref 3)] dX3_parseParams_28 rfl (by rw [ev6]; rfl) (by decide) rfl ?_
        refine mv_goto 6 dX3_parseParams_31 (by decide) ?_
        refine mv_sub [1, 0] rfl ?_
        exact h
noncomputable def fX3_parseParams (M : mv_M) : Option (Unit × mv_M) :=
  mv_bind (fX3_parseParam M) fun _ M1 =>
  fX3_parseParams_6 0 M1
set_option maxRecDepth 100000 in
set_option maxHeartbeats 4000000 in
theorem zX3_parseParams {l : Launch} {d : Nat} {Q : Unit → mv_M → Prop} (hd : 20 ≤ d) (M : mv_M) (h : mv_ok (fX3_parseParams M) Q) : mv l mX3_parseParams d 0 0 (lv_args 0 [.ref 3]) [] M (mv_qV Q) := by
  unfold fX3_parseParams at h
  show mv l mX3_parseParams d 0 0 [(0, .ref 3)] [] M (mv_qV Q)
  refine mv_aload_n 0 dX3_parseParams_0 rfl ?_
  refine mv_cvV (As := []) (st := []) okX3_parseParam lX3_108 (by decide) rfl rfl rfl (Nat.le_of_ble_eq_true rfl) rfl (Nat.le_of_ble_eq_true rfl) dX3_parseParams_1 (by omega) rfl (zX3_parseParam (d := d - 1) (by omega) M (mv_bindE h)) (fun _ M1 h => ?_)
  refine mv_iconst 0 dX3_parseParams_4 (by decide) ?_
  refine mv_istore_n [(1, .int 0), (0, .ref 3)] dX3_parseParams_5 (by decide) rfl ?_
  refine mv_sub [1, 0] rfl ?_
  exact zX3_parseParams_6 hd 0 M1 h
theorem dX3_canBeginE_0 : decode cX3_canBeginE 0 = .ok (.aload_n 0, 1) := by decide +kernel
theorem dX3_canBeginE_1 : decode cX3_canBeginE 1 = .ok (.invokevirtual 35, 3) := by decide +kernel
theorem dX3_canBeginE_4 : decode cX3_canBeginE 4 = .ok (.lookupswitch 70 #[(2, 68), (3, 68), (40, 68), (301, 68), (304, 68), (306, 68), (308, 68)], 68) := by decide +kernel
theorem dX3_canBeginE_72 : decode cX3_canBeginE 72 = .ok (.iconst 1, 1) := by decide +kernel
theorem dX3_canBeginE_73 : decode cX3_canBeginE 73 = .ok (.ireturn, 1) := by decide +kernel
theorem dX3_canBeginE_74 : decode cX3_canBeginE 74 = .ok (.iconst 0, 1) := by decide +kernel
theorem dX3_canBeginE_75 : decode cX3_canBeginE 75 = .ok (.ireturn, 1) := by decide +kernel
noncomputable def fX3_canBeginE (M : mv_M) : Option (Int32 × mv_M) :=
  mv_bind (fX3_kind M) fun r1 M2 =>
  if r1 = 2 then
    some (1, M2)
  else
    if r1 = 3 then
      some (1, M2)
    else
      if r1 = 40 then
        some (1, M2)
      else
        if r1 = 301 then
          some (1, M2)
        else
          if r1 = 304 then
            some (1, M2)
          else
            if r1 = 306 then
              some (1, M2)
            else
              if r1 = 308 then
                some (1, M2)
              else
                some (0, M2)
set_option maxRecDepth 100000 in
set_option maxHeartbeats 4000000 in
theorem zX3_canBeginE {l : Launch} {d : Nat} {Q : Int32 → mv_M → Prop} (hd : 2 ≤ d) (M : mv_M) (h : mv_ok (fX3_canBeginE M) Q) : mv l mX3_canBeginE d 0 0 (lv_args 0 [.ref 3]) [] M (mv_qI Q) := by
  unfold fX3_canBeginE at h
  show mv l mX3_canBeginE d 0 0 [(0, .ref 3)] [] M (mv_qI Q)
  refine mv_aload_n 0 dX3_canBeginE_0 rfl ?_
  refine mv_cvI (As := []) (st := []) okX3_kind lX3_35 (by decide) rfl rfl rfl (Nat.le_of_ble_eq_true rfl) rfl (Nat.le_of_ble_eq_true rfl) dX3_canBeginE_1 (by omega) rfl (zX3_kind (d := d - 1) (by omega) M (mv_bindE h)) (fun r1 M2 h => ?_)
  by_cases z3 : r1 = 2
  · replace h := mv_ifT z3 h
    refine mv_lookup (off := 68) 72 dX3_canBeginE_4 (by decide) (mv_swc (mv_eqv z3 (by decide))) (by decide) ?_
    refine mv_iconst 1 dX3_canBeginE_72 (by decide) ?_
    exact mv_zret (by decide) rfl dX3_canBeginE_73 ⟨_, rfl, h⟩
  · replace h := mv_ifF z3 h
    by_cases z4 : r1 = 3
    · replace h := mv_ifT z4 h
      refine mv_lookup (off := 68) 72 dX3_canBeginE_4 (by decide) (mv_swn (mv_ne 2 (by decide) z3) (mv_swc (mv_eqv z4 (by decide)))) (by decide) ?_
      refine mv_iconst 1 dX3_canBeginE_72 (by decide) ?_
      exact mv_zret (by decide) rfl dX3_canBeginE_73 ⟨_, rfl, h⟩
    · replace h := mv_ifF z4 h
      by_cases z5 : r1 = 40
      · replace h := mv_ifT z5 h
        refine mv_lookup (off := 68) 72 dX3_canBeginE_4 (by decide) (mv_swn (mv_ne 2 (by decide) z3) (mv_swn (mv_ne 3 (by decide) z4) (mv_swc (mv_eqv z5 (by decide))))) (by decide) ?_
        refine mv_iconst 1 dX3_canBeginE_72 (by decide) ?_
        exact mv_zret (by decide) rfl dX3_canBeginE_73 ⟨_, rfl, h⟩
      · replace h := mv_ifF z5 h
        by_cases z6 : r1 = 301
        · replace h := mv_ifT z6 h
          refine mv_lookup (off := 68) 72 dX3_canBeginE_4 (by decide) (mv_swn (mv_ne 2 (by decide) z3) (mv_swn (mv_ne 3 (by decide) z4) (mv_swn (mv_ne 40 (by decide) z5) (mv_swc (mv_eqv z6 (by decide)))))) (by decide) ?_
          refine mv_iconst 1 dX3_canBeginE_72 (by decide) ?_
          exact mv_zret (by decide) rfl dX3_canBeginE_73 ⟨_, rfl, h⟩
        · replace h := mv_ifF z6 h
          by_cases z7 : r1 = 304
          · replace h := mv_ifT z7 h
            refine mv_lookup (off := 68) 72 dX3_canBeginE_4 (by decide) (mv_swn (mv_ne 2 (by decide) z3) (mv_swn (mv_ne 3 (by decide) z4) (mv_swn (mv_ne 40 (by decide) z5) (mv_swn (mv_ne 301 (by decide) z6) (mv_swc (mv_eqv z7 (by decide))))))) (by decide) ?_
            refine mv_iconst 1 dX3_canBeginE_72 (by decide) ?_
            exact mv_zret (by decide) rfl dX3_canBeginE_73 ⟨_, rfl, h⟩
          · replace h := mv_ifF z7 h
            by_cases z8 : r1 = 306
            · replace h := mv_ifT z8 h
              refine mv_lookup (off := 68) 72 dX3_canBeginE_4 (by decide) (mv_swn (mv_ne 2 (by decide) z3) (mv_swn (mv_ne 3 (by decide) z4) (mv_swn (mv_ne 40 (by decide) z5) (mv_swn (mv_ne 301 (by decide) z6) (mv_swn (mv_ne 304 (by decide) z7) (mv_swc (mv_eqv z8 (by decide)))))))) (by decide) ?_
              refine mv_iconst 1 dX3_canBeginE_72 (by decide) ?_
              exact mv_zret (by decide) rfl dX3_canBeginE_73 ⟨_, rfl, h⟩
            · replace h := mv_ifF z8 h
              by_cases z9 : r1 = 308
              · replace h := mv_ifT z9 h
                refine mv_lookup (off := 68) 72 dX3_canBeginE_4 (by decide) (mv_swn (mv_ne 2 (by decide) z3) (mv_swn (mv_ne 3 (by decide) z4) (mv_swn (mv_ne 40 (by decide) z5) (mv_swn (mv_ne 301 (by decide) z6) (mv_swn (mv_ne 304 (by decide) z7) (mv_swn (mv_ne 306 (by decide) z8) (mv_swc (mv_eqv z9 (by decide))))))))) (by decide) ?_
                refine mv_iconst 1 dX3_canBeginE_72 (by decide) ?_
                exact mv_zret (by decide) rfl dX3_canBeginE_73 ⟨_, rfl, h⟩
              · replace h := mv_ifF z9 h
                refine mv_lookup (off := 70) 74 dX3_canBeginE_4 (by decide) (mv_swn (mv_ne 2 (by decide) z3) (mv_swn (mv_ne 3 (by decide) z4) (mv_swn (mv_ne 40 (by decide) z5) (mv_swn (mv_ne 301 (by decide) z6) (mv_swn (mv_ne 304 (by decide) z7) (mv_swn (mv_ne 306 (by decide) z8) (mv_swn (mv_ne 308 (by decide) z9) rfl))))))) (by decide) ?_
                refine mv_iconst 0 dX3_canBeginE_74 (by decide) ?_
                exact mv_zret (by decide) rfl dX3_canBeginE_75 ⟨_, rfl, h⟩
theorem dX3_parseInnerName_0 : decode cX3_parseInnerName 0 = .ok (.aload_n 0, 1) := by decide +kernel
theorem dX3_parseInnerName_1 : decode cX3_parseInnerName 1 = .ok (.getfield 9, 3) := by decide +kernel
theorem dX3_parseInnerName_4 : decode cX3_parseInnerName 4 = .ok (.aload_n 0, 1) := by decide +kernel
theorem dX3_parseInnerName_5 : decode cX3_parseInnerName 5 = .ok (.getfield 28, 3) := by decide +kernel
theorem dX3_parseInnerName_8 : decode cX3_parseInnerName 8 = .ok (.invokevirtual 64, 3) := by decide +kernel
theorem dX3_parseInnerName_11 : decode cX3_parseInnerName 11 = .ok (.lstore_n 3, 1) := by decide +kernel
theorem dX3_parseInnerName_12 : decode cX3_parseInnerName 12 = .ok (.aload_n 0, 1) := by decide +kernel
theorem dX3_parseInnerName_13 : decode cX3_parseInnerName 13 = .ok (.lload_n 3, 1) := by decide +kernel
theorem dX3_parseInnerName_14 : decode cX3_parseInnerName 14 = .ok (.lload_n 1, 1) := by decide +kernel
theorem dX3_parseInnerName_15 : decode cX3_parseInnerName 15 = .ok (.lcmp, 1) := by decide +kernel
theorem dX3_parseInnerName_16 : decode cX3_parseInnerName 16 = .ok (.ifCond .ne 7, 3) := by decide +kernel
theorem dX3_parseInnerName_19 : decode cX3_parseInnerName 19 = .ok (.iconst 1, 1) := by decide +kernel
theorem dX3_parseInnerName_20 : decode cX3_parseInnerName 20 = .ok (.goto 4, 3) := by decide +kernel
theorem dX3_parseInnerName_23 : decode cX3_parseInnerName 23 = .ok (.iconst 0, 1) := by decide +kernel
theorem dX3_parseInnerName_24 : decode cX3_parseInnerName 24 = .ok (.aload_n 0, 1) := by decide +kernel
theorem dX3_parseInnerName_25 : decode cX3_parseInnerName 25 = .ok (.getfield 19, 3) := by decide +kernel
theorem dX3_parseInnerName_28 : decode cX3_parseInnerName 28 = .ok (.getfield 148, 3) := by decide +kernel
theorem dX3_parseInnerName_31 : decode cX3_parseInnerName 31 = .ok (.aload_n 0, 1) := by decide +kernel
theorem dX3_parseInnerName_32 : decode cX3_parseInnerName 32 = .ok (.getfield 82, 3) := by decide +kernel
theorem dX3_parseInnerName_35 : decode cX3_parseInnerName 35 = .ok (.iaload, 1) := by decide +kernel
theorem dX3_parseInnerName_36 : decode cX3_parseInnerName 36 = .ok (.bipush 16, 2) := by decide +kernel
theorem dX3_parseInnerName_38 : decode cX3_parseInnerName 38 = .ok (.if_icmp .lt 7, 3) := by decide +kernel
theorem dX3_parseInnerName_41 : decode cX3_parseInnerName 41 = .ok (.iconst 1, 1) := by decide +kernel
theorem dX3_parseInnerName_42 : decode cX3_parseInnerName 42 = .ok (.goto 4, 3) := by decide +kernel
theorem dX3_parseInnerName_45 : decode cX3_parseInnerName 45 = .ok (.iconst 0, 1) := by decide +kernel
theorem dX3_parseInnerName_46 : decode cX3_parseInnerName 46 = .ok (.invokevirtual 75, 3) := by decide +kernel
theorem dX3_parseInnerName_49 : decode cX3_parseInnerName 49 = .ok (.aload_n 0, 1) := by decide +kernel
theorem dX3_parseInnerName_50 : decode cX3_parseInnerName 50 = .ok (.getfield 15, 3) := by decide +kernel
theorem dX3_parseInnerName_53 : decode cX3_parseInnerName 53 = .ok (.getfield 79, 3) := by decide +kernel
theorem dX3_parseInnerName_56 : decode cX3_parseInnerName 56 = .ok (.ifCond .eq 7, 3) := by decide +kernel
theorem dX3_parseInnerName_59 : decode cX3_parseInnerName 59 = .ok (.iconst (-1), 1) := by decide +kernel
theorem dX3_parseInnerName_60 : decode cX3_parseInnerName 60 = .ok (.goto 15, 3) := by decide +kernel
theorem dX3_parseInnerName_63 : decode cX3_parseInnerName 63 = .ok (.aload_n 0, 1) := by decide +kernel
theorem dX3_parseInnerName_64 : decode cX3_parseInnerName 64 = .ok (.getfield 19, 3) := by decide +kernel
theorem dX3_parseInnerName_67 : decode cX3_parseInnerName 67 = .ok (.aload_n 0, 1) := by decide +kernel
theorem dX3_parseInnerName_68 : decode cX3_parseInnerName 68 = .ok (.getfield 82, 3) := by decide +kernel
theorem dX3_parseInnerName_71 : decode cX3_parseInnerName 71 = .ok (.lload_n 3, 1) := by decide +kernel
theorem dX3_parseInnerName_72 : decode cX3_parseInnerName 72 = .ok (.invokevirtual 118, 3) := by decide +kernel
theorem dX3_parseInnerName_75 : decode cX3_parseInnerName 75 = .ok (.ireturn, 1) := by decide +kernel
noncomputable def fX3_parseInnerName_46 (x3 : Int64) (s0 : Int32) (s1 : Int32) (M : mv_M) : Option (Int32 × mv_M) :=
  mv_bind (fX3_takeNewName s1 s0 M) fun _ M5 =>
  if (M5.1 1 0) = 0 then
    mv_getp (M5.2.2 3 2) fun b6 =>
    mv_bind (fX4_addName b6 (M5.1 3 4) x3 M5) fun r7 M8 =>
    some (r7, M8)
  else
    some ((-1), M5)
set_option maxRecDepth 100000 in
set_option maxHeartbeats 4000000 in
theorem zX3_parseInnerName_46 {l : Launch} {d : Nat} {Q : Int32 → mv_M → Prop} (hd : 5 ≤ d) (x3 : Int64) (s0 : Int32) (s1 : Int32) (M : mv_M) (h : mv_ok (fX3_parseInnerName_46 x3 s0 s1 M) Q) : mv l mX3_parseInnerName d 0 46 [(0, .ref 3), (3, .long x3)] [.int s0, .int s1, .ref 3] M (mv_qI Q) := by
  unfold fX3_parseInnerName_46 at h
  refine mv_cvV (As := [.int s1, .int s0]) (st := []) okX3_takeNewName lX3_75 (by decide) rfl rfl rfl (Nat.le_of_ble_eq_true rfl) rfl (Nat.le_of_ble_eq_true rfl) dX3_parseInnerName_46 (by omega) rfl (zX3_takeNewName (d := d - 1) (by omega) s1 s0 M (mv_bindE h)) (fun _ M5 h => ?_)
  refine mv_aload_n 0 dX3_parseInnerName_49 rfl ?_
  refine mv_getR 1 fX3_15 (by decide) rfl rfl rfl dX3_parseInnerName_50 ?_
  refine mv_getI fX3_79 (by decide) rfl rfl dX3_parseInnerName_53 ?_
  refine mv_if_eq 63 dX3_parseInnerName_56 (by decide) (fun z => ?_) (fun z => ?_)
  · replace h := mv_ifT z h
    refine mv_aload_n 0 dX3_parseInnerName_63 rfl ?_
    obtain ⟨b6, eb6, hb6, h⟩ := mv_getpE h
    refine mv_getP b6 fX3_19 (by decide) rfl rfl eb6 dX3_parseInnerName_64 ?_
    refine mv_aload_n 0 dX3_parseInnerName_67 rfl ?_
    refine mv_getI fX3_82 (by decide) rfl rfl dX3_parseInnerName_68 ?_
    refine mv_lload_n 1 dX3_parseInnerName_71 rfl ?_
    refine mv_cvI (As := [.int (M5.1 3 4), .long x3]) (st := []) okX4_addName lX3_118 (mv_pN (t := 0) hb6 (by decide)) (by rcases hb6 with rfl | rfl <;> rfl) rfl rfl (Nat.le_of_ble_eq_true rfl) rfl (Nat.le_of_ble_eq_true rfl) dX3_parseInnerName_72 (by omega) rfl (zX4_addName (d := d - 1) (by omega) b6 (M5.1 3 4) x3 M5 hb6 (mv_bindE h)) (fun r7 M8 h => ?_)
    exact mv_iret rfl dX3_parseInnerName_75 ⟨_, rfl, h⟩
  · replace h := mv_ifF z h
    refine mv_iconst (-1) dX3_parseInnerName_59 (by decide) ?_
    refine mv_goto 75 dX3_parseInnerName_60 (by decide) ?_
    exact mv_iret rfl dX3_parseInnerName_75 ⟨_, rfl, h⟩
noncomputable def fX3_parseInnerName_24 (x3 : Int64) (s0 : Int32) (M : mv_M) : Option (Int32 × mv_M) :=
  mv_getp (M.2.2 3 2) fun b3 =>
  mv_chk (mv_inb (M.1 3 4) 12) <|
  if (M.1 (b3 + 3) (M.1 3 4).toNatClampNeg) < 16 then
    fX3_parseInnerName_46 x3 0 s0 M
  else
    fX3_parseInnerName_46 x3 1 s0 M
set_option maxRecDepth 100000 in
set_option maxHeartbeats 4000000 in
theorem zX3_parseInnerName_24 {l : Launch} {d : Nat} {Q : Int32 → mv_M → Prop} (hd : 5 ≤ d) (x3 : Int64) (s0 : Int32) (M : mv_M) (h : mv_ok (fX3_parseInnerName_24 x3 s0 M) Q) : mv l mX3_parseInnerName d 0 24 [(0, .ref 3), (3, .long x3)] [.int s0, .ref 3] M (mv_qI Q) := by
  unfold fX3_parseInnerName_24 at h
  refine mv_aload_n 0 dX3_parseInnerName_24 rfl ?_
  obtain ⟨b3, eb3, hb3, h⟩ := mv_getpE h
  refine mv_getP b3 fX3_19 (by decide) rfl rfl eb3 dX3_parseInnerName_25 ?_
  refine mv_getR (b3 + 3) fX3_148 (mv_pN (t := 0) hb3 (by decide)) (by rcases hb3 with rfl | rfl <;> rfl) rfl (by rcases hb3 with rfl | rfl <;> rfl) dX3_parseInnerName_28 ?_
  refine mv_aload_n 0 dX3_parseInnerName_31 rfl ?_
  refine mv_getI fX3_82 (by decide) rfl rfl dX3_parseInnerName_32 ?_
  obtain ⟨hi4, h⟩ := mv_chkE h
  refine mv_ild (mv_pN (t := 3) hb3 (by decide)) (by rcases hb3 with rfl | rfl <;> rfl) (mv_inE hi4) dX3_parseInnerName_35 ?_
  refine mv_bipush 16 dX3_parseInnerName_36 (by decide) ?_
  refine mv_icmp_lt 45 dX3_parseInnerName_38 (by decide) (fun z => ?_) (fun z => ?_)
  · replace h := mv_ifT z h
    refine mv_iconst 0 dX3_parseInnerName_45 (by decide) ?_
    refine mv_sub [0, 1] rfl ?_
    exact zX3_parseInnerName_46 hd x3 0 s0 M h
  · replace h := mv_ifF z h
    refine mv_iconst 1 dX3_parseInnerName_41 (by decide) ?_
    refine mv_goto 46 dX3_parseInnerName_42 (by decide) ?_
    refine mv_sub [0, 1] rfl ?_
    exact zX3_parseInnerName_46 hd x3 1 s0 M h
noncomputable def fX3_parseInnerName (a0 : Int64) (M : mv_M) : Option (Int32 × mv_M) :=
  mv_bind (fX8_textOf (M.1 3 3) M) fun r1 M2 =>
  if (lg_cmp r1 a0) = 0 then
    fX3_parseInnerName_24 r1 1 M2
  else
    fX3_parseInnerName_24 r1 0 M2
set_option maxRecDepth 100000 in
set_option maxHeartbeats 4000000 in
theorem zX3_parseInnerName {l : Launch} {d : Nat} {Q : Int32 → mv_M → Prop} (hd : 5 ≤ d) (a0 : Int64) (M : mv_M) (h : mv_ok (fX3_parseInnerName a0 M) Q) : mv l mX3_parseInnerName d 0 0 (lv_args 0 [.ref 3, .long a0]) [] M (mv_qI Q) := by
  unfold fX3_parseInnerName at h
  show mv l mX3_parseInnerName d 0 0 [(0, .ref 3), (1, .long a0)] [] M (mv_qI Q)
  refine mv_aload_n 0 dX3_parseInnerName_0 rfl ?_
  refine mv_getR 2 fX3_9 (by decide) rfl rfl rfl dX3_parseInnerName_1 ?_
  refine mv_aload_n 0 dX3_parseInnerName_4 rfl ?_
  refine mv_getI fX3_28 (by decide) rfl rfl dX3_parseInnerName_5 ?_
  refine mv_cvL (As := [.int (M.1 3 3)]) (st := []) okX8_textOf lX3_64 (by decide) rfl rfl rfl (Nat.le_of_ble_eq_true rfl) rfl (Nat.le_of_ble_eq_true rfl) dX3_parseInnerName_8 (by omega) rfl (zX8_textOf (d := d - 1) (by omega) (M.1 3 3) M (mv_bindE h)) (fun r1 M2 h => ?_)
  refine mv_lstore_n [(3, .long r1), (0, .ref 3), (1, .long a0)] dX3_parseInnerName_11 (by decide) rfl ?_
  refine mv_aload_n 1 dX3_parseInnerName_12 rfl ?_
  refine mv_lload_n 0 dX3_parseInnerName_13 rfl ?_
  refine mv_lload_n 2 dX3_parseInnerName_14 rfl ?_
  refine mv_lcmp dX3_parseInnerName_15 ?_
  refine mv_if_ne 23 dX3_parseInnerName_16 (by decide) (fun z => ?_) (fun z => ?_)
  · replace h := mv_ifF z h
    refine mv_iconst 0 dX3_parseInnerName_23 (by decide) ?_
    refine mv_sub [1, 0] rfl ?_
    exact zX3_parseInnerName_24 hd r1 0 M2 h
  · replace h := mv_ifT z h
    refine mv_iconst 1 dX3_parseInnerName_19 (by decide) ?_
    refine mv_goto 24 dX3_parseInnerName_20 (by decide) ?_
    refine mv_sub [1, 0] rfl ?_
    exact zX3_parseInnerName_24 hd r1 1 M2 h
theorem dX3_parseFail_0 : decode cX3_parseFail 0 = .ok (.aload_n 0, 1) := by decide +kernel
theorem dX3_parseFail_1 : decode cX3_parseFail 1 = .ok (.iconst 0, 1) := by decide +kernel
theorem dX3_parseFail_2 : decode cX3_parseFail 2 = .ok (.invokevirtual 99, 3) := by decide +kernel
theorem dX3_parseFail_5 : decode cX3_parseFail 5 = .ok (.istore_n 2, 1) := by decide +kernel
theorem dX3_parseFail_6 : decode cX3_parseFail 6 = .ok (.aload_n 0, 1) := by decide +kernel
theorem dX3_parseFail_7 : decode cX3_parseFail 7 = .ok (.getfield 19, 3) := by decide +kernel
theorem dX3_parseFail_10 : decode cX3_parseFail 10 = .ok (.sipush 308, 3) := by decide +kernel
theorem dX3_parseFail_13 : decode cX3_parseFail 13 = .ok (.iload_n 1, 1) := by decide +kernel
theorem dX3_parseFail_14 : decode cX3_parseFail 14 = .ok (.iconst (-1), 1) := by decide +kernel
theorem dX3_parseFail_15 : decode cX3_parseFail 15 = .ok (.iconst (-1), 1) := by decide +kernel
theorem dX3_parseFail_16 : decode cX3_parseFail 16 = .ok (.iconst (-1), 1) := by decide +kernel
theorem dX3_parseFail_17 : decode cX3_parseFail 17 = .ok (.invokevirtual 154, 3) := by decide +kernel
theorem dX3_parseFail_20 : decode cX3_parseFail 20 = .ok (.istore_n 3, 1) := by decide +kernel
theorem dX3_parseFail_21 : decode cX3_parseFail 21 = .ok (.aload_n 0, 1) := by decide +kernel
theorem dX3_parseFail_22 : decode cX3_parseFail 22 = .ok (.getfield 19, 3) := by decide +kernel
theorem dX3_parseFail_25 : decode cX3_parseFail 25 = .ok (.iload_n 3, 1) := by decide +kernel
theorem dX3_parseFail_26 : decode cX3_parseFail 26 = .ok (.invokevirtual 165, 3) := by decide +kernel
theorem dX3_parseFail_29 : decode cX3_parseFail 29 = .ok (.ifCond .eq 13, 3) := by decide +kernel
theorem dX3_parseFail_32 : decode cX3_parseFail 32 = .ok (.aload_n 0, 1) := by decide +kernel
theorem dX3_parseFail_33 : decode cX3_parseFail 33 = .ok (.getfield 19, 3) := by decide +kernel
theorem dX3_parseFail_36 : decode cX3_parseFail 36 = .ok (.getfield 180, 3) := by decide +kernel
theorem dX3_parseFail_39 : decode cX3_parseFail 39 = .ok (.iload_n 3, 1) := by decide +kernel
theorem dX3_parseFail_40 : decode cX3_parseFail 40 = .ok (.iload_n 2, 1) := by decide +kernel
theorem dX3_parseFail_41 : decode cX3_parseFail 41 = .ok (.iastore, 1) := by decide +kernel
theorem dX3_parseFail_42 : decode cX3_parseFail 42 = .ok (.iload_n 3, 1) := by decide +kernel
theorem dX3_parseFail_43 : decode cX3_parseFail 43 = .ok (.ireturn, 1) := by decide +kernel
noncomputable def fX3_parseFail (a0 : Int32) (M : mv_M) : Option (Int32 × mv_M) :=
  mv_bind (tX3_parseType 0 M) fun r1 M2 =>
  mv_getp (M2.2.2 3 2) fun b3 =>
  mv_bind (fX4_addNode b3 308 a0 (-1) (-1) (-1) M2) fun r4 M5 =>
  mv_getp (M5.2.2 3 2) fun b6 =>
  mv_bind (fX4_hasNode b6 r4 M5) fun r7 M8 =>
  if r7 = 0 then
    some (r4, M8)
  else
    mv_getp (M8.2.2 3 2) fun b9 =>
    mv_chk (mv_inb r4 1000) <|
    mv_let (mv_si M8 (b9 + 13) r4.toNatClampNeg r1) fun M11 =>
    some (r4, M11)
set_option maxRecDepth 100000 in
set_option maxHeartbeats 4000000 in
theorem zX3_parseFail {l : Launch} {d : Nat} {Q : Int32 → mv_M → Prop} (hd : 19 ≤ d) (a0 : Int32) (M : mv_M) (h : mv_ok (fX3_parseFail a0 M) Q) : mv l mX3_parseFail d 0 0 (lv_args 0 [.ref 3, .int a0]) [] M (mv_qI Q) := by
  unfold fX3_parseFail at h
  show mv l mX3_parseFail d 0 0 [(0, .ref 3), (1, .int a0)] [] M (mv_qI Q)
  refine mv_aload_n 0 dX3_parseFail_0 rfl ?_
  refine mv_iconst 0 dX3_parseFail_1 (by decide) ?_
  refine mv_cvI (As := [.int 0]) (st := []) okX3_parseType lX3_99 (by decide) rfl rfl rfl (Nat.le_of_ble_eq_true rfl) rfl (Nat.le_of_ble_eq_true rfl) dX3_parseFail_2 (by omega) rfl (ztX3_parseType (d := d - 1) (by omega) 0 M (mv_bindE h)) (fun r1 M2 h => ?_)
  refine mv_istore_n [(2, .int r1), (0, .ref 3), (1, .int a0)] dX3_parseFail_5 (by decide) rfl ?_
  refine mv_aload_n 1 dX3_parseFail_6 rfl ?_
  obtain ⟨b3, eb3, hb3, h⟩ := mv_getpE h
  refine mv_getP b3 fX3_19 (by decide) rfl rfl eb3 dX3_parseFail_7 ?_
  refine mv_sipush 308 dX3_parseFail_10 (by decide) ?_
  refine mv_iload_n 2 dX3_parseFail_13 rfl ?_
  refine mv_iconst (-1) dX3_parseFail_14 (by decide) ?_
  refine mv_iconst (-1) dX3_parseFail_15 (by decide) ?_
  refine mv_iconst (-1) dX3_parseFail_16 (by decide) ?_
  refine mv_cvI (As := [.int 308, .int a0, .int (-1), .int (-1), .int (-1)]) (st := []) okX4_addNode lX3_154 (mv_pN (t := 0) hb3 (by decide)) (by rcases hb3 with rfl | rfl <;> rfl) rfl rfl (Nat.le_of_ble_eq_true rfl) rfl (Nat.le_of_ble_eq_true rfl) dX3_parseFail_17 (by omega) rfl (zX4_addNode (d := d - 1) (by omega) b3 308 a0 (-1) (-1) (-1) M2 hb3 (mv_bindE h)) (fun r4 M5 h => ?_)
  refine mv_istore_n [(3, .int r4), (2, .int r1), (0, .ref 3), (1, .int a0)] dX3_parseFail_20 (by decide) rfl ?_
  refine mv_aload_n 2 dX3_parseFail_21 rfl ?_
  obtain ⟨b6, eb6, hb6, h⟩ := mv_getpE h
  refine mv_getP b6 fX3_19 (by decide) rfl rfl eb6 dX3_parseFail_22 ?_
  refine mv_iload_n 0 dX3_parseFail_25 rfl ?_
  refine mv_cvI (As := [.int r4]) (st := []) okX4_hasNode lX3_165 (mv_pN (t := 0) hb6 (by decide)) (by rcases hb6 with rfl | rfl <;> rfl) rfl rfl (Nat.le_of_ble_eq_true rfl) rfl (Nat.le_of_ble_eq_true rfl) dX3_parseFail_26 (by omega) rfl (zX4_hasNode (d := d - 1) (by omega) b6 r4 M5 hb6 (mv_bindE h)) (fun r7 M8 h => ?_)
  refine mv_if_eq 42 dX3_parseFail_29 (by decide) (fun z => ?_) (fun z => ?_)
  · replace h := mv_ifT z h
    refine mv_iload_n 0 dX3_parseFail_42 rfl ?_
    exact mv_iret rfl dX3_parseFail_43 ⟨_, rfl, h⟩
  · replace h := mv_ifF z h
    refine mv_aload_n 2 dX3_parseFail_32 rfl ?_
    obtain ⟨b9, eb9, hb9, h⟩ := mv_getpE h
    refine mv_getP b9 fX3_19 (by decide) rfl rfl eb9 dX3_parseFail_33 ?_
    refine mv_getR (b9 + 13) fX3_180 (mv_pN (t := 0) hb9 (by decide)) (by rcases hb9 with rfl | rfl <;> rfl) rfl (by rcases hb9 with rfl | rfl <;> rfl) dX3_parseFail_36 ?_
    refine mv_iload_n 0 dX3_parseFail_39 rfl ?_
    refine mv_iload_n 1 dX3_parseFail_40 rfl ?_
    obtain ⟨hi10, h⟩ := mv_chkE h
    refine mv_ist (mv_pN (t := 13) hb9 (by decide)) (by rcases hb9 with rfl | rfl <;> rfl) (mv_inE hi10) dX3_parseFail_41 (fun M11 eM11 => ?_)
    replace h := mv_letE h M11 eM11
    refine mv_iload_n 0 dX3_parseFail_42 rfl ?_
    exact mv_iret rfl dX3_parseFail_43 ⟨_, rfl, h⟩
theorem dX3_joinsAt_0 : decode cX3_joinsAt 0 = .ok (.aload_n 0, 1) := by decide +kernel
theorem dX3_joinsAt_1 : decode cX3_joinsAt 1 = .ok (.invokevirtual 35, 3) := by decide +kernel
theorem dX3_joinsAt_4 : decode cX3_joinsAt 4 = .ok (.lookupswitch 84 #[(4, 52), (42, 73), (43, 62), (45, 62), (60, 52)], 52) := by decide +kernel
theorem dX3_joinsAt_56 : decode cX3_joinsAt 56 = .ok (.iload_n 1, 1) := by decide +kernel
theorem dX3_joinsAt_57 : decode cX3_joinsAt 57 = .ok (.ifCond .ne 7, 3) := by decide +kernel
theorem dX3_joinsAt_60 : decode cX3_joinsAt 60 = .ok (.iconst 1, 1) := by decide +kernel
theorem dX3_joinsAt_61 : decode cX3_joinsAt 61 = .ok (.goto 4, 3) := by decide +kernel
theorem dX3_joinsAt_64 : decode cX3_joinsAt 64 = .ok (.iconst 0, 1) := by decide +kernel
theorem dX3_joinsAt_65 : decode cX3_joinsAt 65 = .ok (.ireturn, 1) := by decide +kernel
theorem dX3_joinsAt_66 : decode cX3_joinsAt 66 = .ok (.iload_n 1, 1) := by decide +kernel
theorem dX3_joinsAt_67 : decode cX3_joinsAt 67 = .ok (.iconst 1, 1) := by decide +kernel
theorem dX3_joinsAt_68 : decode cX3_joinsAt 68 = .ok (.if_icmp .ne 7, 3) := by decide +kernel
theorem dX3_joinsAt_71 : decode cX3_joinsAt 71 = .ok (.iconst 1, 1) := by decide +kernel
theorem dX3_joinsAt_72 : decode cX3_joinsAt 72 = .ok (.goto 4, 3) := by decide +kernel
theorem dX3_joinsAt_75 : decode cX3_joinsAt 75 = .ok (.iconst 0, 1) := by decide +kernel
theorem dX3_joinsAt_76 : decode cX3_joinsAt 76 = .ok (.ireturn, 1) := by decide +kernel
theorem dX3_joinsAt_77 : decode cX3_joinsAt 77 = .ok (.iload_n 1, 1) := by decide +kernel
theorem dX3_joinsAt_78 : decode cX3_joinsAt 78 = .ok (.iconst 2, 1) := by decide +kernel
theorem dX3_joinsAt_79 : decode cX3_joinsAt 79 = .ok (.if_icmp .ne 7, 3) := by decide +kernel
theorem dX3_joinsAt_82 : decode cX3_joinsAt 82 = .ok (.iconst 1, 1) := by decide +kernel
theorem dX3_joinsAt_83 : decode cX3_joinsAt 83 = .ok (.goto 4, 3) := by decide +kernel
theorem dX3_joinsAt_86 : decode cX3_joinsAt 86 = .ok (.iconst 0, 1) := by decide +kernel
theorem dX3_joinsAt_87 : decode cX3_joinsAt 87 = .ok (.ireturn, 1) := by decide +kernel
theorem dX3_joinsAt_88 : decode cX3_joinsAt 88 = .ok (.iconst 0, 1) := by decide +kernel
theorem dX3_joinsAt_89 : decode cX3_joinsAt 89 = .ok (.ireturn, 1) := by decide +kernel
noncomputable def fX3_joinsAt (a0 : Int32) (M : mv_M) : Option (Int32 × mv_M) :=
  mv_bind (fX3_kind M) fun r1 M2 =>
  if r1 = 4 then
    if a0 = 0 then
      some (1, M2)
    else
      some (0, M2)
  else
    if r1 = 42 then
      if a0 = 2 then
        some (1, M2)
      else
        some (0, M2)
    else
      if r1 = 43 then
        if a0 = 1 then
          some (1, M2)
        else
          some (0, M2)
      else
        if r1 = 45 then
          if a0 = 1 then
            some (1, M2)
          else
            some (0, M2)
        else
          if r1 = 60 then
            if a0 = 0 then
              some (1, M2)
            else
              some (0, M2)
          else
            some (0, M2)
set_option maxRecDepth 100000 in
set_option maxHeartbeats 4000000 in
theorem zX3_joinsAt {l : Launch} {d : Nat} {Q : Int32 → mv_M → Prop} (hd : 2 ≤ d) (a0 : Int32) (M : mv_M) (h : mv_ok (fX3_joinsAt a0 M) Q) : mv l mX3_joinsAt d 0 0 (lv_args 0 [.ref 3, .int a0]) [] M (mv_qI Q) := by
  unfold fX3_joinsAt at h
  show mv l mX3_joinsAt d 0 0 [(0, .ref 3), (1, .int a0)] [] M (mv_qI Q)
  refine mv_aload_n 0 dX3_joinsAt_0 rfl ?_
  refine mv_cvI (As := []) (st := []) okX3_kind lX3_35 (by decide) rfl rfl rfl (Nat.le_of_ble_eq_true rfl) rfl (Nat.le_of_ble_eq_true rfl) dX3_joinsAt_1 (by omega) rfl (zX3_kind (d := d - 1) (by omega) M (mv_bindE h)) (fun r1 M2 h => ?_)
  by_cases z3 : r1 = 4
  · replace h := mv_ifT z3 h
    refine mv_lookup (off := 52) 56 dX3_joinsAt_4 (by decide) (mv_swc (mv_eqv z3 (by decide))) (by decide) ?_
    refine mv_iload_n 1 dX3_joinsAt_56 rfl ?_
    refine mv_if_ne 64 dX3_joinsAt_57 (by decide) (fun z => ?_) (fun z => ?_)
    · replace h := mv_ifF z h
      refine mv_iconst 0 dX3_joinsAt_64 (by decide) ?_
      exact mv_zret (by decide) rfl dX3_joinsAt_65 ⟨_, rfl, h⟩
    · replace h := mv_ifT z h
      refine mv_iconst 1 dX3_joinsAt_60 (by decide) ?_
      refine mv_goto 65 dX3_joinsAt_61 (by decide) ?_
      exact mv_zret (by decide) rfl dX3_joinsAt_65 ⟨_, rfl, h⟩
  · replace h := mv_ifF z3 h
    by_cases z4 : r1 = 42
    · replace h := mv_ifT z4 h
      refine mv_lookup (off := 73) 77 dX3_joinsAt_4 (by decide) (mv_swn (mv_ne 4 (by decide) z3) (mv_swc (mv_eqv z4 (by decide)))) (by decide) ?_
      refine mv_iload_n 1 dX3_joinsAt_77 rfl ?_
      refine mv_iconst 2 dX3_joinsAt_78 (by decide) ?_
      refine mv_icmp_ne 86 dX3_joinsAt_79 (by decide) (fun z => ?_) (fun z => ?_)
      · replace h := mv_ifF z h
        refine mv_iconst 0 dX3_joinsAt_86 (by decide) ?_
        exact mv_zret (by decide) rfl dX3_joinsAt_87 ⟨_, rfl, h⟩
      · replace h := mv_ifT z h
        refine mv_iconst 1 dX3_joinsAt_82 (by decide) ?_
        refine mv_goto 87 dX3_joinsAt_83 (by decide) ?_
        exact mv_zret (by decide) rfl dX3_joinsAt_87 ⟨_, rfl, h⟩
    · replace h := mv_ifF z4 h
      by_cases z5 : r1 = 43
      · replace h := mv_ifT z5 h
        refine mv_lookup (off := 62) 66 dX3_joinsAt_4 (by decide) (mv_swn (mv_ne 4 (by decide) z3) (mv_swn (mv_ne 42 (by decide) z4) (mv_swc (mv_eqv z5 (by decide))))) (by decide) ?_
        refine mv_iload_n 1 dX3_joinsAt_66 rfl ?_
        refine mv_iconst 1 dX3_joinsAt_67 (by decide) ?_
        refine mv_icmp_ne 75 dX3_joinsAt_68 (by decide) (fun z => ?_) (fun z => ?_)
        · replace h := mv_ifF z h
          refine mv_iconst 0 dX3_joinsAt_75 (by decide) ?_
          exact mv_zret (by decide) rfl dX3_joinsAt_76 ⟨_, rfl, h⟩
        · replace h := mv_ifT z h
          refine mv_iconst 1 dX3_joinsAt_71 (by decide) ?_
          refine mv_goto 76 dX3_joinsAt_72 (by decide) ?_
          exact mv_zret (by decide) rfl dX3_joinsAt_76 ⟨_, rfl, h⟩
      · replace h := mv_ifF z5 h
        by_cases z6 : r1 = 45
        · replace h := mv_ifT z6 h
          refine mv_lookup (off := 62) 66 dX3_joinsAt_4 (by decide) (mv_swn (mv_ne 4 (by decide) z3) (mv_swn (mv_ne 42 (by decide) z4) (mv_swn (mv_ne 43 (by decide) z5) (mv_swc (mv_eqv z6 (by decide)))))) (by decide) ?_
          refine mv_iload_n 1 dX3_joinsAt_66 rfl ?_
          refine mv_iconst 1 dX3_joinsAt_67 (by decide) ?_
          refine mv_icmp_ne 75 dX3_joinsAt_68 (by decide) (fun z => ?_) (fun z => ?_)
          · replace h := mv_ifF z h
            refine mv_iconst 0 dX3_joinsAt_75 (by decide) ?_
            exact mv_zret (by decide) rfl dX3_joinsAt_76 ⟨_, rfl, h⟩
          · replace h := mv_ifT z h
            refine mv_iconst 1 dX3_joinsAt_71 (by decide) ?_
            refine mv_goto 76 dX3_joinsAt_72 (by decide) ?_
            exact mv_zret (by decide) rfl dX3_joinsAt_76 ⟨_, rfl, h⟩
        · replace h := mv_ifF z6 h
          by_cases z7 : r1 = 60
          · replace h := mv_ifT z7 h
            refine mv_lookup (off := 52) 56 dX3_joinsAt_4 (by decide) (mv_swn (mv_ne 4 (by decide) z3) (mv_swn (mv_ne 42 (by decide) z4) (mv_swn (mv_ne 43 (by decide) z5) (mv_swn (mv_ne 45 (by decide) z6) (mv_swc (mv_eqv z7 (by decide))))))) (by decide) ?_
            refine mv_iload_n 1 dX3_joinsAt_56 rfl ?_
            refine mv_if_ne 64 dX3_joinsAt_57 (by decide) (fun z => ?_) (fun z => ?_)
            · replace h := mv_ifF z h
              refine mv_iconst 0 dX3_joinsAt_64 (by decide) ?_
              exact mv_zret (by decide) rfl dX3_joinsAt_65 ⟨_, rfl, h⟩
            · replace h := mv_ifT z h
              refine mv_iconst 1 dX3_joinsAt_60 (by decide) ?_
              refine mv_goto 65 dX3_joinsAt_61 (by decide) ?_
              exact mv_zret (by decide) rfl dX3_joinsAt_65 ⟨_, rfl, h⟩
          · replace h := mv_ifF z7 h
            refine mv_lookup (off := 84) 88 dX3_joinsAt_4 (by decide) (mv_swn (mv_ne 4 (by decide) z3) (mv_swn (mv_ne 42 (by decide) z4) (mv_swn (mv_ne 43 (by decide) z5) (mv_swn (mv_ne 45 (by decide) z6) (mv_swn (mv_ne 60 (by decide) z7) rfl))))) (by decide) ?_
            refine mv_iconst 0 dX3_joinsAt_88 (by decide) ?_
            exact mv_zret (by decide) rfl dX3_joinsAt_89 ⟨_, rfl, h⟩
theorem dX3_parseE_0 : decode cX3_parseE 0 = .ok (.iload_n 1, 1) := by decide +kernel
theorem dX3_parseE_1 : decode cX3_parseE 1 = .ok (.bipush 20, 2) := by decide +kernel
theorem dX3_parseE_3 : decode cX3_parseE 3 = .ok (.if_icmp .ge 10, 3) := by decide +kernel
theorem dX3_parseE_6 : decode cX3_parseE 6 = .ok (.aload_n 0, 1) := by decide +kernel
theorem dX3_parseE_7 : decode cX3_parseE 7 = .ok (.invokevirtual 132, 3) := by decide +kernel
theorem dX3_parseE_10 : decode cX3_parseE 10 = .ok (.ifCond .ne 22, 3) := by decide +kernel
theorem dX3_parseE_13 : decode cX3_parseE 13 = .ok (.aload_n 0, 1) := by decide +kernel
theorem dX3_parseE_14 : decode cX3_parseE 14 = .ok (.aload_n 0, 1) := by decide +kernel
theorem dX3_parseE_15 : decode cX3_parseE 15 = .ok (.invokevirtual 132, 3) := by decide +kernel
theorem dX3_parseE_18 : decode cX3_parseE 18 = .ok (.ifCond .eq 8, 3) := by decide +kernel
theorem dX3_parseE_21 : decode cX3_parseE 21 = .ok (.bipush 6, 2) := by decide +kernel
theorem dX3_parseE_23 : decode cX3_parseE 23 = .ok (.goto 4, 3) := by decide +kernel
theorem dX3_parseE_26 : decode cX3_parseE 26 = .ok (.iconst 2, 1) := by decide +kernel
theorem dX3_parseE_27 : decode cX3_parseE 27 = .ok (.invokevirtual 57, 3) := by decide +kernel
theorem dX3_parseE_30 : decode cX3_parseE 30 = .ok (.iconst (-1), 1) := by decide +kernel
theorem dX3_parseE_31 : decode cX3_parseE 31 = .ok (.ireturn, 1) := by decide +kernel
theorem dX3_parseE_32 : decode cX3_parseE 32 = .ok (.aload_n 0, 1) := by decide +kernel
theorem dX3_parseE_33 : decode cX3_parseE 33 = .ok (.invokevirtual 35, 3) := by decide +kernel
theorem dX3_parseE_36 : decode cX3_parseE 36 = .ok (.lookupswitch 60 #[(301, 52), (304, 36), (306, 44)], 36) := by decide +kernel
theorem dX3_parseE_72 : decode cX3_parseE 72 = .ok (.aload_n 0, 1) := by decide +kernel
theorem dX3_parseE_73 : decode cX3_parseE 73 = .ok (.iload_n 1, 1) := by decide +kernel
theorem dX3_parseE_74 : decode cX3_parseE 74 = .ok (.iconst 1, 1) := by decide +kernel
theorem dX3_parseE_75 : decode cX3_parseE 75 = .ok (.iadd, 1) := by decide +kernel
theorem dX3_parseE_76 : decode cX3_parseE 76 = .ok (.invokevirtual 136, 3) := by decide +kernel
theorem dX3_parseE_79 : decode cX3_parseE 79 = .ok (.ireturn, 1) := by decide +kernel
theorem dX3_parseE_80 : decode cX3_parseE 80 = .ok (.aload_n 0, 1) := by decide +kernel
theorem dX3_parseE_81 : decode cX3_parseE 81 = .ok (.iload_n 1, 1) := by decide +kernel
theorem dX3_parseE_82 : decode cX3_parseE 82 = .ok (.iconst 1, 1) := by decide +kernel
theorem dX3_parseE_83 : decode cX3_parseE 83 = .ok (.iadd, 1) := by decide +kernel
theorem dX3_parseE_84 : decode cX3_parseE 84 = .ok (.invokevirtual 139, 3) := by decide +kernel
theorem dX3_parseE_87 : decode cX3_parseE 87 = .ok (.ireturn, 1) := by decide +kernel
theorem dX3_parseE_88 : decode cX3_parseE 88 = .ok (.aload_n 0, 1) := by decide +kernel
theorem dX3_parseE_89 : decode cX3_parseE 89 = .ok (.iload_n 1, 1) := by decide +kernel
theorem dX3_parseE_90 : decode cX3_parseE 90 = .ok (.iconst 1, 1) := by decide +kernel
theorem dX3_parseE_91 : decode cX3_parseE 91 = .ok (.iadd, 1) := by decide +kernel
theorem dX3_parseE_92 : decode cX3_parseE 92 = .ok (.invokevirtual 142, 3) := by decide +kernel
theorem dX3_parseE_95 : decode cX3_parseE 95 = .ok (.ireturn, 1) := by decide +kernel
theorem dX3_parseE_96 : decode cX3_parseE 96 = .ok (.aload_n 0, 1) := by decide +kernel
theorem dX3_parseE_97 : decode cX3_parseE 97 = .ok (.iload_n 1, 1) := by decide +kernel
theorem dX3_parseE_98 : decode cX3_parseE 98 = .ok (.iconst 1, 1) := by decide +kernel
theorem dX3_parseE_99 : decode cX3_parseE 99 = .ok (.iadd, 1) := by decide +kernel
theorem dX3_parseE_100 : decode cX3_parseE 100 = .ok (.iconst 0, 1) := by decide +kernel
theorem dX3_parseE_101 : decode cX3_parseE 101 = .ok (.invokevirtual 145, 3) := by decide +kernel
theorem dX3_parseE_104 : decode cX3_parseE 104 = .ok (.ireturn, 1) := by decide +kernel
noncomputable def fX3_parseE_27 (r_X3_parseCase : Int32 → mv_M → Option (Int32 × mv_M)) (r_X3_parseIf : Int32 → mv_M → Option (Int32 × mv_M)) (r_X3_parseLet : Int32 → mv_M → Option (Int32 × mv_M)) (r_X3_parseSides : Int32 → Int32 → mv_M → Option (Int32 × mv_M)) (s0 : Int32) (M : mv_M) : Option (Int32 × mv_M) :=
  mv_bind (fX3_stop s0 M) fun _ M18 =>
  some ((-1), M18)
set_option maxRecDepth 100000 in
set_option maxHeartbeats 4000000 in
theorem zX3_parseE_27 {l : Launch} {d : Nat} {Q : Int32 → mv_M → Prop} {r_X3_parseCase : Int32 → mv_M → Option (Int32 × mv_M)} {r_X3_parseIf : Int32 → mv_M → Option (Int32 × mv_M)} {r_X3_parseLet : Int32 → mv_M → Option (Int32 × mv_M)} {r_X3_parseSides : Int32 → Int32 → mv_M → Option (Int32 × mv_M)} (hd : 3 ≤ d) (hr_X3_parseCase : ∀ (a0 : Int32) (M : mv_M) (Q : Int32 → mv_M → Prop), mv_ok (r_X3_parseCase a0 M) Q → mv l mX3_parseCase (d - 1) 0 0 (lv_args 0 [.ref 3, .int a0]) [] M (mv_qI Q)) (hr_X3_parseIf : ∀ (a0 : Int32) (M : mv_M) (Q : Int32 → mv_M → Prop), mv_ok (r_X3_parseIf a0 M) Q → mv l mX3_parseIf (d - 1) 0 0 (lv_args 0 [.ref 3, .int a0]) [] M (mv_qI Q)) (hr_X3_parseLet : ∀ (a0 : Int32) (M : mv_M) (Q : Int32 → mv_M → Prop), mv_ok (r_X3_parseLet a0 M) Q → mv l mX3_parseLet (d - 1) 0 0 (lv_args 0 [.ref 3, .int a0]) [] M (mv_qI Q)) (hr_X3_parseSides : ∀ (a0 : Int32) (a1 : Int32) (M : mv_M) (Q : Int32 → mv_M → Prop), mv_ok (r_X3_parseSides a0 a1 M) Q → mv l mX3_parseSides (d - 1) 0 0 (lv_args 0 [.ref 3, .int a0, .int a1]) [] M (mv_qI Q)) (s0 : Int32) (M : mv_M) (h : mv_ok (fX3_parseE_27 r_X3_parseCase r_X3_parseIf r_X3_parseLet r_X3_parseSides s0 M) Q) : mv l mX3_parseE d 0 27 [] [.int s0, .ref 3] M (mv_qI Q) := by
  unfold fX3_parseE_27 at h
  refine mv_cvV (As := [.int s0]) (st := []) okX3_stop lX3_57 (by decide) rfl rfl rfl (Nat.le_of_ble_eq_true rfl) rfl (Nat.le_of_ble_eq_true rfl) dX3_parseE_27 (by omega) rfl (zX3_stop (d := d - 1) (by omega) s0 M (mv_bindE h)) (fun _ M18 h => ?_)
  refine mv_iconst (-1) dX3_parseE_30 (by decide) ?_
  exact mv_iret rfl dX3_parseE_31 ⟨_, rfl, h⟩
noncomputable def fX3_parseE_13 (r_X3_parseCase : Int32 → mv_M → Option (Int32 × mv_M)) (r_X3_parseIf : Int32 → mv_M → Option (Int32 × mv_M)) (r_X3_parseLet : Int32 → mv_M → Option (Int32 × mv_M)) (r_X3_parseSides : Int32 → Int32 → mv_M → Option (Int32 × mv_M)) (M : mv_M) : Option (Int32 × mv_M) :=
  mv_bind (fX3_canBeginE M) fun r16 M17 =>
  if r16 = 0 then
    fX3_parseE_27 r_X3_parseCase r_X3_parseIf r_X3_parseLet r_X3_parseSides 2 M17
  else
    fX3_parseE_27 r_X3_parseCase r_X3_parseIf r_X3_parseLet r_X3_parseSides 6 M17
set_option maxRecDepth 100000 in
set_option maxHeartbeats 4000000 in
theorem zX3_parseE_13 {l : Launch} {d : Nat} {Q : Int32 → mv_M → Prop} {r_X3_parseCase : Int32 → mv_M → Option (Int32 × mv_M)} {r_X3_parseIf : Int32 → mv_M → Option (Int32 × mv_M)} {r_X3_parseLet : Int32 → mv_M → Option (Int32 × mv_M)} {r_X3_parseSides : Int32 → Int32 → mv_M → Option (Int32 × mv_M)} (hd : 3 ≤ d) (hr_X3_parseCase : ∀ (a0 : Int32) (M : mv_M) (Q : Int32 → mv_M → Prop), mv_ok (r_X3_parseCase a0 M) Q → mv l mX3_parseCase (d - 1) 0 0 (lv_args 0 [.ref 3, .int a0]) [] M (mv_qI Q)) (hr_X3_parseIf : ∀ (a0 : Int32) (M : mv_M) (Q : Int32 → mv_M → Prop), mv_ok (r_X3_parseIf a0 M) Q → mv l mX3_parseIf (d - 1) 0 0 (lv_args 0 [.ref 3, .int a0]) [] M (mv_qI Q)) (hr_X3_parseLet : ∀ (a0 : Int32) (M : mv_M) (Q : Int32 → mv_M → Prop), mv_ok (r_X3_parseLet a0 M) Q → mv l mX3_parseLet (d - 1) 0 0 (lv_args 0 [.ref 3, .int a0]) [] M (mv_qI Q)) (hr_X3_parseSides : ∀ (a0 : Int32) (a1 : Int32) (M : mv_M) (Q : Int32 → mv_M → Prop), mv_ok (r_X3_parseSides a0 a1 M) Q → mv l mX3_parseSides (d - 1) 0 0 (lv_args 0 [.ref 3, .int a0, .int a1]) [] M (mv_qI Q)) (M : mv_M) (h : mv_ok (fX3_parseE_13 r_X3_parseCase r_X3_parseIf r_X3_parseLet r_X3_parseSides M) Q) : mv l mX3_parseE d 0 13 [(0, .ref 3)] [] M (mv_qI Q) := by
  unfold fX3_parseE_13 at h
  refine mv_aload_n 0 dX3_parseE_13 rfl ?_
  refine mv_aload_n 0 dX3_parseE_14 rfl ?_
  refine mv_cvI (As := []) (st := [.ref 3]) okX3_canBeginE lX3_132 (by decide) rfl rfl rfl (Nat.le_of_ble_eq_true rfl) rfl (Nat.le_of_ble_eq_true rfl) dX3_parseE_15 (by omega) rfl (zX3_canBeginE (d := d - 1) (by omega) M (mv_bindE h)) (fun r16 M17 h => ?_)
  refine mv_if_eq 26 dX3_parseE_18 (by decide) (fun z => ?_) (fun z => ?_)
  · replace h := mv_ifT z h
    refine mv_iconst 2 dX3_parseE_26 (by decide) ?_
    refine mv_sub [] rfl ?_
    exact zX3_parseE_27 hd hr_X3_parseCase hr_X3_parseIf hr_X3_parseLet hr_X3_parseSides 2 M17 h
  · replace h := mv_ifF z h
    refine mv_bipush 6 dX3_parseE_21 (by decide) ?_
    refine mv_goto 27 dX3_parseE_23 (by decide) ?_
    refine mv_sub [] rfl ?_
    exact zX3_parseE_27 hd hr_X3_parseCase hr_X3_parseIf hr_X3_parseLet hr_X3_parseSides 6 M17 h
noncomputable def fX3_parseE (r_X3_parseCase : Int32 → mv_M → Option (Int32 × mv_M)) (r_X3_parseIf : Int32 → mv_M → Option (Int32 × mv_M)) (r_X3_parseLet : Int32 → mv_M → Option (Int32 × mv_M)) (r_X3_parseSides : Int32 → Int32 → mv_M → Option (Int32 × mv_M)) (a0 : Int32) (M : mv_M) : Option (Int32 × mv_M) :=
  if 20 ≤ a0 then
    fX3_parseE_13 r_X3_parseCase r_X3_parseIf r_X3_parseLet r_X3_parseSides M
  else
    mv_bind (fX3_canBeginE M) fun r1 M2 =>
    if r1 = 0 then
      fX3_parseE_13 r_X3_parseCase r_X3_parseIf r_X3_parseLet r_X3_parseSides M2
    else
      mv_bind (fX3_kind M2) fun r3 M4 =>
      if r3 = 301 then
        mv_bind (r_X3_parseIf (a0 + 1) M4) fun r6 M7 =>
        some (r6, M7)
      else
        if r3 = 304 then
          mv_bind (r_X3_parseLet (a0 + 1) M4) fun r9 M10 =>
          some (r9, M10)
        else
          if r3 = 306 then
            mv_bind (r_X3_parseCase (a0 + 1) M4) fun r12 M13 =>
            some (r12, M13)
          else
            mv_bind (r_X3_parseSides (a0 + 1) 0 M4) fun r14 M15 =>
            some (r14, M15)
set_option maxRecDepth 100000 in
set_option maxHeartbeats 4000000 in
theorem zX3_parseE {l : Launch} {d : Nat} {Q : Int32 → mv_M → Prop} {r_X3_parseCase : Int32 → mv_M → Option (Int32 × mv_M)} {r_X3_parseIf : Int32 → mv_M → Option (Int32 × mv_M)} {r_X3_parseLet : Int32 → mv_M → Option (Int32 × mv_M)} {r_X3_parseSides : Int32 → Int32 → mv_M → Option (Int32 × mv_M)} (hd : 3 ≤ d) (hr_X3_parseCase : ∀ (a0 : Int32) (M : mv_M) (Q : Int32 → mv_M → Prop), mv_ok (r_X3_parseCase a0 M) Q → mv l mX3_parseCase (d - 1) 0 0 (lv_args 0 [.ref 3, .int a0]) [] M (mv_qI Q)) (hr_X3_parseIf : ∀ (a0 : Int32) (M : mv_M) (Q : Int32 → mv_M → Prop), mv_ok (r_X3_parseIf a0 M) Q → mv l mX3_parseIf (d - 1) 0 0 (lv_args 0 [.ref 3, .int a0]) [] M (mv_qI Q)) (hr_X3_parseLet : ∀ (a0 : Int32) (M : mv_M) (Q : Int32 → mv_M → Prop), mv_ok (r_X3_parseLet a0 M) Q → mv l mX3_parseLet (d - 1) 0 0 (lv_args 0 [.ref 3, .int a0]) [] M (mv_qI Q)) (hr_X3_parseSides : ∀ (a0 : Int32) (a1 : Int32) (M : mv_M) (Q : Int32 → mv_M → Prop), mv_ok (r_X3_parseSides a0 a1 M) Q → mv l mX3_parseSides (d - 1) 0 0 (lv_args 0 [.ref 3, .int a0, .int a1]) [] M (mv_qI Q)) (a0 : Int32) (M : mv_M) (h : mv_ok (fX3_parseE r_X3_parseCase r_X3_parseIf r_X3_parseLet r_X3_parseSides a0 M) Q) : mv l mX3_parseE d 0 0 (lv_args 0 [.ref 3, .int a0]) [] M (mv_qI Q) := by
  unfold fX3_parseE at h
  show mv l mX3_parseE d 0 0 [(0, .ref 3), (1, .int a0)] [] M (mv_qI Q)
  refine mv_iload_n 1 dX3_parseE_0 rfl ?_
  refine mv_bipush 20 dX3_parseE_1 (by decide) ?_
  refine mv_icmp_ge 13 dX3_parseE_3 (by decide) (fun z => ?_) (fun z => ?_)
  · replace h := mv_ifT z h
    refine mv_sub [0] rfl ?_
    exact zX3_parseE_13 hd hr_X3_parseCase hr_X3_parseIf hr_X3_parseLet hr_X3_parseSides M h
  · replace h := mv_ifF z h
    refine mv_aload_n 0 dX3_parseE_6 rfl ?_
    refine mv_cvI (As := []) (st := []) okX3_canBeginE lX3_132 (by decide) rfl rfl rfl (Nat.le_of_ble_eq_true rfl) rfl (Nat.le_of_ble_eq_true rfl) dX3_parseE_7 (by omega) rfl (zX3_canBeginE (d := d - 1) (by omega) M (mv_bindE h)) (fun r1 M2 h => ?_)
    refine mv_if_ne 32 dX3_parseE_10 (by decide) (fun z => ?_) (fun z => ?_)
    · replace h := mv_ifF z h
      refine mv_aload_n 0 dX3_parseE_32 rfl ?_
      refine mv_cvI (As := []) (st := []) okX3_kind lX3_35 (by decide) rfl rfl rfl (Nat.le_of_ble_eq_true rfl) rfl (Nat.le_of_ble_eq_true rfl) dX3_parseE_33 (by omega) rfl (zX3_kind (d := d - 1) (by omega) M2 (mv_bindE h)) (fun r3 M4 h => ?_)
      by_cases z5 : r3 = 301
      · replace h := mv_ifT z5 h
        refine mv_lookup (off := 52) 88 dX3_parseE_36 (by decide) (mv_swc (mv_eqv z5 (by decide))) (by decide) ?_
        refine mv_aload_n 0 dX3_parseE_88 rfl ?_
        refine mv_iload_n 1 dX3_parseE_89 rfl ?_
        refine mv_iconst 1 dX3_parseE_90 (by decide) ?_
        refine mv_iadd dX3_parseE_91 ?_
        refine mv_cvI (As := [.int (a0 + 1)]) (st := []) okX3_parseIf lX3_142 (by decide) rfl rfl rfl (Nat.le_of_ble_eq_true rfl) rfl (Nat.le_of_ble_eq_true rfl) dX3_parseE_92 (by omega) rfl (hr_X3_parseIf (a0 + 1) M4 _ (mv_bindE h)) (fun r6 M7 h => ?_)
        exact mv_iret rfl dX3_parseE_95 ⟨_, rfl, h⟩
      · replace h := mv_ifF z5 h
        by_cases z8 : r3 = 304
        · replace h := mv_ifT z8 h
          refine mv_lookup (off := 36) 72 dX3_parseE_36 (by decide) (mv_swn (mv_ne 301 (by decide) z5) (mv_swc (mv_eqv z8 (by decide)))) (by decide) ?_
          refine mv_aload_n 0 dX3_parseE_72 rfl ?_
          refine mv_iload_n 1 dX3_parseE_73 rfl ?_
          refine mv_iconst 1 dX3_parseE_74 (by decide) ?_
          refine mv_iadd dX3_parseE_75 ?_
          refine mv_cvI (As := [.int (a0 + 1)]) (st := []) okX3_parseLet lX3_136 (by decide) rfl rfl rfl (Nat.le_of_ble_eq_true rfl) rfl (Nat.le_of_ble_eq_true rfl) dX3_parseE_76 (by omega) rfl (hr_X3_parseLet (a0 + 1) M4 _ (mv_bindE h)) (fun r9 M10 h => ?_)
          exact mv_iret rfl dX3_parseE_79 ⟨_, rfl, h⟩
        · replace h := mv_ifF z8 h
          by_cases z11 : r3 = 306
          · replace h := mv_ifT z11 h
            refine mv_lookup (off := 44) 80 dX3_parseE_36 (by decide) (mv_swn (mv_ne 301 (by decide) z5) (mv_swn (mv_ne 304 (by decide) z8) (mv_swc (mv_eqv z11 (by decide))))) (by decide) ?_
            refine mv_aload_n 0 dX3_parseE_80 rfl ?_
            refine mv_iload_n 1 dX3_parseE_81 rfl ?_
            refine mv_iconst 1 dX3_parseE_82 (by decide) ?_
            refine mv_iadd dX3_parseE_83 ?_
            refine mv_cvI (As := [.int (a0 + 1)]) (st := []) okX3_parseCase lX3_139 (by decide) rfl rfl rfl (Nat.le_of_ble_eq_true rfl) rfl (Nat.le_of_ble_eq_true rfl) dX3_parseE_84 (by omega) rfl (hr_X3_parseCase (a0 + 1) M4 _ (mv_bindE h)) (fun r12 M13 h => ?_)
            exact mv_iret rfl dX3_parseE_87 ⟨_, rfl, h⟩
          · replace h := mv_ifF z11 h
            refine mv_lookup (off := 60) 96 dX3_parseE_36 (by decide) (mv_swn (mv_ne 301 (by decide) z5) (mv_swn (mv_ne 304 (by decide) z8) (mv_swn (mv_ne 306 (by decide) z11) rfl))) (by decide) ?_
            refine mv_aload_n 0 dX3_parseE_96 rfl ?_
            refine mv_iload_n 1 dX3_parseE_97 rfl ?_
            refine mv_iconst 1 dX3_parseE_98 (by decide) ?_
            refine mv_iadd dX3_parseE_99 ?_
            refine mv_iconst 0 dX3_parseE_100 (by decide) ?_
            refine mv_cvI (As := [.int (a0 + 1), .int 0]) (st := []) okX3_parseSides lX3_145 (by decide) rfl rfl rfl (Nat.le_of_ble_eq_true rfl) rfl (Nat.le_of_ble_eq_true rfl) dX3_parseE_101 (by omega) rfl (hr_X3_parseSides (a0 + 1) 0 M4 _ (mv_bindE h)) (fun r14 M15 h => ?_)
            exact mv_iret rfl dX3_parseE_104 ⟨_, rfl, h⟩
    · replace h := mv_ifT z h
      refine mv_sub [0] rfl ?_
      exact zX3_parseE_13 hd hr_X3_parseCase hr_X3_parseIf hr_X3_parseLet hr_X3_parseSides M2 h
theorem dX3_parseLet_0 : decode cX3_parseLet 0 = .ok (.aload_n 0, 1) := by decide +kernel
theorem dX3_parseLet_1 : decode cX3_parseLet 1 = .ok (.getfield 28, 3) := by decide +kernel
theorem dX3_parseLet_4 : decode cX3_parseLet 4 = .ok (.istore_n 2, 1) := by decide +kernel
theorem dX3_parseLet_5 : decode cX3_parseLet 5 = .ok (.aload_n 0, 1) := by decide +kernel
theorem dX3_parseLet_6 : decode cX3_parseLet 6 = .ok (.invokevirtual 61, 3) := by decide +kernel
theorem dX3_parseLet_9 : decode cX3_parseLet 9 = .ok (.aload_n 0, 1) := by decide +kernel
theorem dX3_parseLet_10 : decode cX3_parseLet 10 = .ok (.lconst 0, 1) := by decide +kernel
theorem dX3_parseLet_11 : decode cX3_parseLet 11 = .ok (.invokevirtual 151, 3) := by decide +kernel
theorem dX3_parseLet_14 : decode cX3_parseLet 14 = .ok (.istore_n 3, 1) := by decide +kernel
theorem dX3_parseLet_15 : decode cX3_parseLet 15 = .ok (.aload_n 0, 1) := by decide +kernel
theorem dX3_parseLet_16 : decode cX3_parseLet 16 = .ok (.bipush 61, 2) := by decide +kernel
theorem dX3_parseLet_18 : decode cX3_parseLet 18 = .ok (.invokevirtual 89, 3) := by decide +kernel
theorem dX3_parseLet_21 : decode cX3_parseLet 21 = .ok (.aload_n 0, 1) := by decide +kernel
theorem dX3_parseLet_22 : decode cX3_parseLet 22 = .ok (.iload_n 1, 1) := by decide +kernel
theorem dX3_parseLet_23 : decode cX3_parseLet 23 = .ok (.invokevirtual 105, 3) := by decide +kernel
theorem dX3_parseLet_26 : decode cX3_parseLet 26 = .ok (.istore 4, 2) := by decide +kernel
theorem dX3_parseLet_28 : decode cX3_parseLet 28 = .ok (.aload_n 0, 1) := by decide +kernel
theorem dX3_parseLet_29 : decode cX3_parseLet 29 = .ok (.sipush 305, 3) := by decide +kernel
theorem dX3_parseLet_32 : decode cX3_parseLet 32 = .ok (.invokevirtual 89, 3) := by decide +kernel
theorem dX3_parseLet_35 : decode cX3_parseLet 35 = .ok (.aload_n 0, 1) := by decide +kernel
theorem dX3_parseLet_36 : decode cX3_parseLet 36 = .ok (.iload_n 1, 1) := by decide +kernel
theorem dX3_parseLet_37 : decode cX3_parseLet 37 = .ok (.invokevirtual 105, 3) := by decide +kernel
theorem dX3_parseLet_40 : decode cX3_parseLet 40 = .ok (.istore 5, 2) := by decide +kernel
theorem dX3_parseLet_42 : decode cX3_parseLet 42 = .ok (.aload_n 0, 1) := by decide +kernel
theorem dX3_parseLet_43 : decode cX3_parseLet 43 = .ok (.getfield 19, 3) := by decide +kernel
theorem dX3_parseLet_46 : decode cX3_parseLet 46 = .ok (.sipush 304, 3) := by decide +kernel
theorem dX3_parseLet_49 : decode cX3_parseLet 49 = .ok (.iload_n 2, 1) := by decide +kernel
theorem dX3_parseLet_50 : decode cX3_parseLet 50 = .ok (.iload 4, 2) := by decide +kernel
theorem dX3_parseLet_52 : decode cX3_parseLet 52 = .ok (.iload 5, 2) := by decide +kernel
theorem dX3_parseLet_54 : decode cX3_parseLet 54 = .ok (.iload_n 3, 1) := by decide +kernel
theorem dX3_parseLet_55 : decode cX3_parseLet 55 = .ok (.invokevirtual 154, 3) := by decide +kernel
theorem dX3_parseLet_58 : decode cX3_parseLet 58 = .ok (.ireturn, 1) := by decide +kernel
noncomputable def fX3_parseLet (r_X3_parseE : Int32 → mv_M → Option (Int32 × mv_M)) (a0 : Int32) (M : mv_M) : Option (Int32 × mv_M) :=
  mv_let (M.1 3 3) fun v1 =>
  mv_bind (fX3_pass M) fun _ M2 =>
  mv_bind (fX3_parseInnerName 0 M2) fun r3 M4 =>
  mv_bind (fX3_take 61 M4) fun _ M5 =>
  mv_bind (r_X3_parseE a0 M5) fun r6 M7 =>
  mv_bind (fX3_take 305 M7) fun _ M8 =>
  mv_bind (r_X3_parseE a0 M8) fun r9 M10 =>
  mv_getp (M10.2.2 3 2) fun b11 =>
  mv_bind (fX4_addNode b11 304 v1 r6 r9 r3 M10) fun r12 M13 =>
  some (r12, M13)
set_option maxRecDepth 100000 in
set_option maxHeartbeats 4000000 in
theorem zX3_parseLet {l : Launch} {d : Nat} {Q : Int32 → mv_M → Prop} {r_X3_parseE : Int32 → mv_M → Option (Int32 × mv_M)} (hd : 6 ≤ d) (hr_X3_parseE : ∀ (a0 : Int32) (M : mv_M) (Q : Int32 → mv_M → Prop), mv_ok (r_X3_parseE a0 M) Q → mv l mX3_parseE (d - 1) 0 0 (lv_args 0 [.ref 3, .int a0]) [] M (mv_qI Q)) (a0 : Int32) (M : mv_M) (h : mv_ok (fX3_parseLet r_X3_parseE a0 M) Q) : mv l mX3_parseLet d 0 0 (lv_args 0 [.ref 3, .int a0]) [] M (mv_qI Q) := by
  unfold fX3_parseLet at h
  show mv l mX3_parseLet d 0 0 [(0, .ref 3), (1, .int a0)] [] M (mv_qI Q)
  refine mv_aload_n 0 dX3_parseLet_0 rfl ?_
  refine mv_getI fX3_28 (by decide) rfl rfl dX3_parseLet_1 ?_
  refine mv_topi (fun v1 ev1 => ?_)
  replace h := mv_letE h v1 ev1
  refine mv_istore_n [(2, .int v1), (0, .ref 3), (1, .int a0)] dX3_parseLet_4 (by decide) rfl ?_
  refine mv_aload_n 1 dX3_parseLet_5 rfl ?_
  refine mv_cvV (As := []) (st := []) okX3_pass lX3_61 (by decide) rfl rfl rfl (Nat.le_of_ble_eq_true rfl) rfl (Nat.le_of_ble_eq_true rfl) dX3_parseLet_6 (by omega) rfl (zX3_pass (d := d - 1) (by omega) M (mv_bindE h)) (fun _ M2 h => ?_)
  refine mv_aload_n 1 dX3_parseLet_9 rfl ?_
  refine mv_lconst 0 dX3_parseLet_10 (by decide) ?_
  refine mv_cvI (As := [.long 0]) (st := []) okX3_parseInnerName lX3_151 (by decide) rfl rfl rfl (Nat.le_of_ble_eq_true rfl) rfl (Nat.le_of_ble_eq_true rfl) dX3_parseLet_11 (by omega) rfl (zX3_parseInnerName (d := d - 1) (by omega) 0 M2 (mv_bindE h)) (fun r3 M4 h => ?_)
  refine mv_istore_n [(3, .int r3), (2, .int v1), (0, .ref 3), (1, .int a0)] dX3_parseLet_14 (by decide) rfl ?_
  refine mv_aload_n 2 dX3_parseLet_15 rfl ?_
  refine mv_bipush 61 dX3_parseLet_16 (by decide) ?_
  refine mv_cvV (As := [.int 61]) (st := []) okX3_take lX3_89 (by decide) rfl rfl rfl (Nat.le_of_ble_eq_true rfl) rfl (Nat.le_of_ble_eq_true rfl) dX3_parseLet_18 (by omega) rfl (zX3_take (d := d - 1) (by omega) 61 M4 (mv_bindE h)) (fun _ M5 h => ?_)
  refine mv_aload_n 2 dX3_parseLet_21 rfl ?_
  refine mv_iload_n 3 dX3_parseLet_22 rfl ?_
  refine mv_cvI (As := [.int a0]) (st := []) okX3_parseE lX3_105 (by decide) rfl rfl rfl (Nat.le_of_ble_eq_true rfl) rfl (Nat.le_of_ble_eq_true rfl) dX3_parseLet_23 (by omega) rfl (hr_X3_parseE a0 M5 _ (mv_bindE h)) (fun r6 M7 h => ?_)
  refine mv_istore [(4, .int r6), (3, .int r3), (2, .int v1), (0, .ref 3), (1, .int a0)] dX3_parseLet_26 (by decide) rfl ?_
  refine mv_aload_n 3 dX3_parseLet_28 rfl ?_
  refine mv_sipush 305 dX3_parseLet_29 (by decide) ?_
  refine mv_cvV (As := [.int 305]) (st := []) okX3_take lX3_89 (by decide) rfl rfl rfl (Nat.le_of_ble_eq_true rfl) rfl (Nat.le_of_ble_eq_true rfl) dX3_parseLet_32 (by omega) rfl (zX3_take (d := d - 1) (by omega) 305 M7 (mv_bindE h)) (fun _ M8 h => ?_)
  refine mv_aload_n 3 dX3_parseLet_35 rfl ?_
  refine mv_iload_n 4 dX3_parseLet_36 rfl ?_
  refine mv_cvI (As := [.int a0]) (st := []) okX3_parseE lX3_105 (by decide) rfl rfl rfl (Nat.le_of_ble_eq_true rfl) rfl (Nat.le_of_ble_eq_true rfl) dX3_parseLet_37 (by omega) rfl (hr_X3_parseE a0 M8 _ (mv_bindE h)) (fun r9 M10 h => ?_)
  refine mv_istore [(5, .int r9), (4, .int r6), (3, .int r3), (2, .int v1), (0, .ref 3), (1, .int a0)] dX3_parseLet_40 (by decide) rfl ?_
  refine mv_aload_n 4 dX3_parseLet_42 rfl ?_
  obtain ⟨b11, eb11, hb11, h⟩ := mv_getpE h
  refine mv_getP b11 fX3_19 (by decide) rfl rfl eb11 dX3_parseLet_43 ?_
  refine mv_sipush 304 dX3_parseLet_46 (by decide) ?_
  refine mv_iload_n 3 dX3_parseLet_49 rfl ?_
  refine mv_iload 1 dX3_parseLet_50 rfl ?_
  refine mv_iload 0 dX3_parseLet_52 rfl ?_
  refine mv_iload_n 2 dX3_parseLet_54 rfl ?_
  refine mv_cvI (As := [.int 304, .int v1, .int r6, .int r9, .int r3]) (st := []) okX4_addNode lX3_154 (mv_pN (t := 0) hb11 (by decide)) (by rcases hb11 with rfl | rfl <;> rfl) rfl rfl (Nat.le_of_ble_eq_true rfl) rfl (Nat.le_of_ble_eq_true rfl) dX3_parseLet_55 (by omega) rfl (zX4_addNode (d := d - 1) (by omega) b11 304 v1 r6 r9 r3 M10 hb11 (mv_bindE h)) (fun r12 M13 h => ?_)
  exact mv_iret rfl dX3_parseLet_58 ⟨_, rfl, h⟩
theorem dX3_parseCase_0 : decode cX3_parseCase 0 = .ok (.aload_n 0, 1) := by decide +kernel
theorem dX3_parseCase_1 : decode cX3_parseCase 1 = .ok (.getfield 28, 3) := by decide +kernel
theorem dX3_parseCase_4 : decode cX3_parseCase 4 = .ok (.istore_n 2, 1) := by decide +kernel
theorem dX3_parseCase_5 : decode cX3_parseCase 5 = .ok (.aload_n 0, 1) := by decide +kernel
theorem dX3_parseCase_6 : decode cX3_parseCase 6 = .ok (.invokevirtual 61, 3) := by decide +kernel
theorem dX3_parseCase_9 : decode cX3_parseCase 9 = .ok (.aload_n 0, 1) := by decide +kernel
theorem dX3_parseCase_10 : decode cX3_parseCase 10 = .ok (.iload_n 1, 1) := by decide +kernel
theorem dX3_parseCase_11 : decode cX3_parseCase 11 = .ok (.invokevirtual 105, 3) := by decide +kernel
theorem dX3_parseCase_14 : decode cX3_parseCase 14 = .ok (.istore_n 3, 1) := by decide +kernel
theorem dX3_parseCase_15 : decode cX3_parseCase 15 = .ok (.aload_n 0, 1) := by decide +kernel
theorem dX3_parseCase_16 : decode cX3_parseCase 16 = .ok (.sipush 307, 3) := by decide +kernel
theorem dX3_parseCase_19 : decode cX3_parseCase 19 = .ok (.invokevirtual 89, 3) := by decide +kernel
theorem dX3_parseCase_22 : decode cX3_parseCase 22 = .ok (.aload_n 0, 1) := by decide +kernel
theorem dX3_parseCase_23 : decode cX3_parseCase 23 = .ok (.bipush 40, 2) := by decide +kernel
theorem dX3_parseCase_25 : decode cX3_parseCase 25 = .ok (.invokevirtual 89, 3) := by decide +kernel
theorem dX3_parseCase_28 : decode cX3_parseCase 28 = .ok (.aload_n 0, 1) := by decide +kernel
theorem dX3_parseCase_29 : decode cX3_parseCase 29 = .ok (.getfield 9, 3) := by decide +kernel
theorem dX3_parseCase_32 : decode cX3_parseCase 32 = .ok (.aload_n 0, 1) := by decide +kernel
theorem dX3_parseCase_33 : decode cX3_parseCase 33 = .ok (.getfield 28, 3) := by decide +kernel
theorem dX3_parseCase_36 : decode cX3_parseCase 36 = .ok (.invokevirtual 64, 3) := by decide +kernel
theorem dX3_parseCase_39 : decode cX3_parseCase 39 = .ok (.lstore 4, 2) := by decide +kernel
theorem dX3_parseCase_41 : decode cX3_parseCase 41 = .ok (.aload_n 0, 1) := by decide +kernel
theorem dX3_parseCase_42 : decode cX3_parseCase 42 = .ok (.lconst 0, 1) := by decide +kernel
theorem dX3_parseCase_43 : decode cX3_parseCase 43 = .ok (.invokevirtual 151, 3) := by decide +kernel
theorem dX3_parseCase_46 : decode cX3_parseCase 46 = .ok (.istore 6, 2) := by decide +kernel
theorem dX3_parseCase_48 : decode cX3_parseCase 48 = .ok (.aload_n 0, 1) := by decide +kernel
theorem dX3_parseCase_49 : decode cX3_parseCase 49 = .ok (.bipush 44, 2) := by decide +kernel
theorem dX3_parseCase_51 : decode cX3_parseCase 51 = .ok (.invokevirtual 89, 3) := by decide +kernel
theorem dX3_parseCase_54 : decode cX3_parseCase 54 = .ok (.aload_n 0, 1) := by decide +kernel
theorem dX3_parseCase_55 : decode cX3_parseCase 55 = .ok (.lload 4, 2) := by decide +kernel
theorem dX3_parseCase_57 : decode cX3_parseCase 57 = .ok (.invokevirtual 151, 3) := by decide +kernel
theorem dX3_parseCase_60 : decode cX3_parseCase 60 = .ok (.pop, 1) := by decide +kernel
theorem dX3_parseCase_61 : decode cX3_parseCase 61 = .ok (.aload_n 0, 1) := by decide +kernel
theorem dX3_parseCase_62 : decode cX3_parseCase 62 = .ok (.bipush 41, 2) := by decide +kernel
theorem dX3_parseCase_64 : decode cX3_parseCase 64 = .ok (.invokevirtual 89, 3) := by decide +kernel
theorem dX3_parseCase_67 : decode cX3_parseCase 67 = .ok (.aload_n 0, 1) := by decide +kernel
theorem dX3_parseCase_68 : decode cX3_parseCase 68 = .ok (.sipush 305, 3) := by decide +kernel
theorem dX3_parseCase_71 : decode cX3_parseCase 71 = .ok (.invokevirtual 89, 3) := by decide +kernel
theorem dX3_parseCase_74 : decode cX3_parseCase 74 = .ok (.aload_n 0, 1) := by decide +kernel
theorem dX3_parseCase_75 : decode cX3_parseCase 75 = .ok (.iload_n 1, 1) := by decide +kernel
theorem dX3_parseCase_76 : decode cX3_parseCase 76 = .ok (.invokevirtual 105, 3) := by decide +kernel
theorem dX3_parseCase_79 : decode cX3_parseCase 79 = .ok (.istore 7, 2) := by decide +kernel
theorem dX3_parseCase_81 : decode cX3_parseCase 81 = .ok (.aload_n 0, 1) := by decide +kernel
theorem dX3_parseCase_82 : decode cX3_parseCase 82 = .ok (.getfield 19, 3) := by decide +kernel
theorem dX3_parseCase_85 : decode cX3_parseCase 85 = .ok (.sipush 306, 3) := by decide +kernel
theorem dX3_parseCase_88 : decode cX3_parseCase 88 = .ok (.iload_n 2, 1) := by decide +kernel
theorem dX3_parseCase_89 : decode cX3_parseCase 89 = .ok (.iload_n 3, 1) := by decide +kernel
theorem dX3_parseCase_90 : decode cX3_parseCase 90 = .ok (.iload 7, 2) := by decide +kernel
theorem dX3_parseCase_92 : decode cX3_parseCase 92 = .ok (.iload 6, 2) := by decide +kernel
theorem dX3_parseCase_94 : decode cX3_parseCase 94 = .ok (.invokevirtual 154, 3) := by decide +kernel
theorem dX3_parseCase_97 : decode cX3_parseCase 97 = .ok (.ireturn, 1) := by decide +kernel
noncomputable def fX3_parseCase (r_X3_parseE : Int32 → mv_M → Option (Int32 × mv_M)) (a0 : Int32) (M : mv_M) : Option (Int32 × mv_M) :=
  mv_let (M.1 3 3) fun v1 =>
  mv_bind (fX3_pass M) fun _ M2 =>
  mv_bind (r_X3_parseE a0 M2) fun r3 M4 =>
  mv_bind (fX3_take 307 M4) fun _ M5 =>
  mv_bind (fX3_take 40 M5) fun _ M6 =>
  mv_bind (fX8_textOf (M6.1 3 3) M6) fun r7 M8 =>
  mv_bind (fX3_parseInnerName 0 M8) fun r9 M10 =>
  mv_bind (fX3_take 44 M10) fun _ M11 =>
  mv_bind (fX3_parseInnerName r7 M11) fun r12 M13 =>
  mv_bind (fX3_take 41 M13) fun _ M14 =>
  mv_bind (fX3_take 305 M14) fun _ M15 =>
  mv_bind (r_X3_parseE a0 M15) fun r16 M17 =>
  mv_getp (M17.2.2 3 2) fun b18 =>
  mv_bind (fX4_addNode b18 306 v1 r3 r16 r9 M17) fun r19 M20 =>
  some (r19, M20)
set_option maxRecDepth 100000 in
set_option maxHeartbeats 4000000 in
theorem zX3_parseCase {l : Launch} {d : Nat} {Q : Int32 → mv_M → Prop} {r_X3_parseE : Int32 → mv_M → Option (Int32 × mv_M)} (hd : 6 ≤ d) (hr_X3_parseE : ∀ (a0 : Int32) (M : mv_M) (Q : Int32 → mv_M → Prop), mv_ok (r_X3_parseE a0 M) Q → mv l mX3_parseE (d - 1) 0 0 (lv_args 0 [.ref 3, .int a0]) [] M (mv_qI Q)) (a0 : Int32) (M : mv_M) (h : mv_ok (fX3_parseCase r_X3_parseE a0 M) Q) : mv l mX3_parseCase d 0 0 (lv_args 0 [.ref 3, .int a0]) [] M (mv_qI Q) := by
  unfold fX3_parseCase at h
  show mv l mX3_parseCase d 0 0 [(0, .ref 3), (1, .int a0)] [] M (mv_qI Q)
  refine mv_aload_n 0 dX3_parseCase_0 rfl ?_
  refine mv_getI fX3_28 (by decide) rfl rfl dX3_parseCase_1 ?_
  refine mv_topi (fun v1 ev1 => ?_)
  replace h := mv_letE h v1 ev1
  refine mv_istore_n [(2, .int v1), (0, .ref 3), (1, .int a0)] dX3_parseCase_4 (by decide) rfl ?_
  refine mv_aload_n 1 dX3_parseCase_5 rfl ?_
  refine mv_cvV (As := []) (st := []) okX3_pass lX3_61 (by decide) rfl rfl rfl (Nat.le_of_ble_eq_true rfl) rfl (Nat.le_of_ble_eq_true rfl) dX3_parseCase_6 (by omega) rfl (zX3_pass (d := d - 1) (by omega) M (mv_bindE h)) (fun _ M2 h => ?_)
  refine mv_aload_n 1 dX3_parseCase_9 rfl ?_
  refine mv_iload_n 2 dX3_parseCase_10 rfl ?_
  refine mv_cvI (As := [.int a0]) (st := []) okX3_parseE lX3_105 (by decide) rfl rfl rfl (Nat.le_of_ble_eq_true rfl) rfl (Nat.le_of_ble_eq_true rfl) dX3_parseCase_11 (by omega) rfl (hr_X3_parseE a0 M2 _ (mv_bindE h)) (fun r3 M4 h => ?_)
  refine mv_istore_n [(3, .int r3), (2, .int v1), (0, .ref 3), (1, .int a0)] dX3_parseCase_14 (by decide) rfl ?_
  refine mv_aload_n 2 dX3_parseCase_15 rfl ?_
  refine mv_sipush 307 dX3_parseCase_16 (by decide) ?_
  refine mv_cvV (As := [.int 307]) (st := []) okX3_take lX3_89 (by decide) rfl rfl rfl (Nat.le_of_ble_eq_true rfl) rfl (Nat.le_of_ble_eq_true rfl) dX3_parseCase_19 (by omega) rfl (zX3_take (d := d - 1) (by omega) 307 M4 (mv_bindE h)) (fun _ M5 h => ?_)
  refine mv_aload_n 2 dX3_parseCase_22 rfl ?_
  refine mv_bipush 40 dX3_parseCase_23 (by decide) ?_
  refine mv_cvV (As := [.int 40]) (st := []) okX3_take lX3_89 (by decide) rfl rfl rfl (Nat.le_of_ble_eq_true rfl) rfl (Nat.le_of_ble_eq_true rfl) dX3_parseCase_25 (by omega) rfl (zX3_take (d := d - 1) (by omega) 40 M5 (mv_bindE h)) (fun _ M6 h => ?_)
  refine mv_aload_n 2 dX3_parseCase_28 rfl ?_
  refine mv_getR 2 fX3_9 (by decide) rfl rfl rfl dX3_parseCase_29 ?_
  refine mv_aload_n 2 dX3_parseCase_32 rfl ?_
  refine mv_getI fX3_28 (by decide) rfl rfl dX3_parseCase_33 ?_
  refine mv_cvL (As := [.int (M6.1 3 3)]) (st := []) okX8_textOf lX3_64 (by decide) rfl rfl rfl (Nat.le_of_ble_eq_true rfl) rfl (Nat.le_of_ble_eq_true rfl) dX3_parseCase_36 (by omega) rfl (zX8_textOf (d := d - 1) (by omega) (M6.1 3 3) M6 (mv_bindE h)) (fun r7 M8 h => ?_)
  refine mv_lstore [(4, .long r7), (3, .int r3), (2, .int v1), (0, .ref 3), (1, .int a0)] dX3_parseCase_39 (by decide) rfl ?_
  refine mv_aload_n 3 dX3_parseCase_41 rfl ?_
  refine mv_lconst 0 dX3_parseCase_42 (by decide) ?_
  refine mv_cvI (As := [.long 0]) (st := []) okX3_parseInnerName lX3_151 (by decide) rfl rfl rfl (Nat.le_of_ble_eq_true rfl) rfl (Nat.le_of_ble_eq_true rfl) dX3_parseCase_43 (by omega) rfl (zX3_parseInnerName (d := d - 1) (by omega) 0 M8 (mv_bindE h)) (fun r9 M10 h => ?_)
  refine mv_istore [(6, .int r9), (4, .long r7), (3, .int r3), (2, .int v1), (0, .ref 3), (1, .int a0)] dX3_parseCase_46 (by decide) rfl ?_
  refine mv_aload_n 4 dX3_parseCase_48 rfl ?_
  refine mv_bipush 44 dX3_parseCase_49 (by decide) ?_
  refine mv_cvV (As := [.int 44]) (st := []) okX3_take lX3_89 (by decide) rfl rfl rfl (Nat.le_of_ble_eq_true rfl) rfl (Nat.le_of_ble_eq_true rfl) dX3_parseCase_51 (by omega) rfl (zX3_take (d := d - 1) (by omega) 44 M10 (mv_bindE h)) (fun _ M11 h => ?_)
  refine mv_aload_n 4 dX3_parseCase_54 rfl ?_
  refine mv_lload 1 dX3_parseCase_55 rfl ?_
  refine mv_cvI (As := [.long r7]) (st := []) okX3_parseInnerName lX3_151 (by decide) rfl rfl rfl (Nat.le_of_ble_eq_true rfl) rfl (Nat.le_of_ble_eq_true rfl) dX3_parseCase_57 (by omega) rfl (zX3_parseInnerName (d := d - 1) (by omega) r7 M11 (mv_bindE h)) (fun r12 M13 h => ?_)
  refine mv_pop dX3_parseCase_60 rfl ?_
  refine mv_aload_n 4 dX3_parseCase_61 rfl ?_
  refine mv_bipush 41 dX3_parseCase_62 (by decide) ?_
  refine mv_cvV (As := [.int 41]) (st := []) okX3_take lX3_89 (by decide) rfl rfl rfl (Nat.le_of_ble_eq_true rfl) rfl (Nat.le_of_ble_eq_true rfl) dX3_parseCase_64 (by omega) rfl (zX3_take (d := d - 1) (by omega) 41 M13 (mv_bindE h)) (fun _ M14 h => ?_)
  refine mv_aload_n 4 dX3_parseCase_67 rfl ?_
  refine mv_sipush 305 dX3_parseCase_68 (by decide) ?_
  refine mv_cvV (As := [.int 305]) (st := []) okX3_take lX3_89 (by decide) rfl rfl rfl (Nat.le_of_ble_eq_true rfl) rfl (Nat.le_of_ble_eq_true rfl) dX3_parseCase_71 (by omega) rfl (zX3_take (d := d - 1) (by omega) 305 M14 (mv_bindE h)) (fun _ M15 h => ?_)
  refine mv_aload_n 4 dX3_parseCase_74 rfl ?_
  refine mv_iload_n 5 dX3_parseCase_75 rfl ?_
  refine mv_cvI (As := [.int a0]) (st := []) okX3_parseE lX3_105 (by decide) rfl rfl rfl (Nat.le_of_ble_eq_true rfl) rfl (Nat.le_of_ble_eq_true rfl) dX3_parseCase_76 (by omega) rfl (hr_X3_parseE a0 M15 _ (mv_bindE h)) (fun r16 M17 h => ?_)
  refine mv_istore [(7, .int r16), (6, .int r9), (4, .long r7), (3, .int r3), (2, .int v1), (0, .ref 3), (1, .int a0)] dX3_parseCase_79 (by decide) rfl ?_
  refine mv_aload_n 5 dX3_parseCase_81 rfl ?_
  obtain ⟨b18, eb18, hb18, h⟩ := mv_getpE h
  refine mv_getP b18 fX3_19 (by decide) rfl rfl eb18 dX3_parseCase_82 ?_
  refine mv_sipush 306 dX3_parseCase_85 (by decide) ?_
  refine mv_iload_n 4 dX3_parseCase_88 rfl ?_
  refine mv_iload_n 3 dX3_parseCase_89 rfl ?_
  refine mv_iload 0 dX3_parseCase_90 rfl ?_
  refine mv_iload 1 dX3_parseCase_92 rfl ?_
  refine mv_cvI (As := [.int 306, .int v1, .int r3, .int r16, .int r9]) (st := []) okX4_addNode lX3_154 (mv_pN (t := 0) hb18 (by decide)) (by rcases hb18 with rfl | rfl <;> rfl) rfl rfl (Nat.le_of_ble_eq_true rfl) rfl (Nat.le_of_ble_eq_true rfl) dX3_parseCase_94 (by omega) rfl (zX4_addNode (d := d - 1) (by omega) b18 306 v1 r3 r16 r9 M17 hb18 (mv_bindE h)) (fun r19 M20 h => ?_)
  exact mv_iret rfl dX3_parseCase_97 ⟨_, rfl, h⟩
theorem dX3_parseIf_0 : decode cX3_parseIf 0 = .ok (.aload_n 0, 1) := by decide +kernel
theorem dX3_parseIf_1 : decode cX3_parseIf 1 = .ok (.getfield 28, 3) := by decide +kernel
theorem dX3_parseIf_4 : decode cX3_parseIf 4 = .ok (.istore_n 2, 1) := by decide +kernel
theorem dX3_parseIf_5 : decode cX3_parseIf 5 = .ok (.aload_n 0, 1) := by decide +kernel
theorem dX3_parseIf_6 : decode cX3_parseIf 6 = .ok (.invokevirtual 61, 3) := by decide +kernel
theorem dX3_parseIf_9 : decode cX3_parseIf 9 = .ok (.aload_n 0, 1) := by decide +kernel
theorem dX3_parseIf_10 : decode cX3_parseIf 10 = .ok (.iload_n 1, 1) := by decide +kernel
theorem dX3_parseIf_11 : decode cX3_parseIf 11 = .ok (.invokevirtual 105, 3) := by decide +kernel
theorem dX3_parseIf_14 : decode cX3_parseIf 14 = .ok (.istore_n 3, 1) := by decide +kernel
theorem dX3_parseIf_15 : decode cX3_parseIf 15 = .ok (.aload_n 0, 1) := by decide +kernel
theorem dX3_parseIf_16 : decode cX3_parseIf 16 = .ok (.sipush 302, 3) := by decide +kernel
theorem dX3_parseIf_19 : decode cX3_parseIf 19 = .ok (.invokevirtual 89, 3) := by decide +kernel
theorem dX3_parseIf_22 : decode cX3_parseIf 22 = .ok (.aload_n 0, 1) := by decide +kernel
theorem dX3_parseIf_23 : decode cX3_parseIf 23 = .ok (.iload_n 1, 1) := by decide +kernel
theorem dX3_parseIf_24 : decode cX3_parseIf 24 = .ok (.invokevirtual 105, 3) := by decide +kernel
theorem dX3_parseIf_27 : decode cX3_parseIf 27 = .ok (.istore 4, 2) := by decide +kernel
theorem dX3_parseIf_29 : decode cX3_parseIf 29 = .ok (.aload_n 0, 1) := by decide +kernel
theorem dX3_parseIf_30 : decode cX3_parseIf 30 = .ok (.sipush 303, 3) := by decide +kernel
theorem dX3_parseIf_33 : decode cX3_parseIf 33 = .ok (.invokevirtual 89, 3) := by decide +kernel
theorem dX3_parseIf_36 : decode cX3_parseIf 36 = .ok (.aload_n 0, 1) := by decide +kernel
theorem dX3_parseIf_37 : decode cX3_parseIf 37 = .ok (.iload_n 1, 1) := by decide +kernel
theorem dX3_parseIf_38 : decode cX3_parseIf 38 = .ok (.invokevirtual 105, 3) := by decide +kernel
theorem dX3_parseIf_41 : decode cX3_parseIf 41 = .ok (.istore 5, 2) := by decide +kernel
theorem dX3_parseIf_43 : decode cX3_parseIf 43 = .ok (.aload_n 0, 1) := by decide +kernel
theorem dX3_parseIf_44 : decode cX3_parseIf 44 = .ok (.getfield 19, 3) := by decide +kernel
theorem dX3_parseIf_47 : decode cX3_parseIf 47 = .ok (.sipush 301, 3) := by decide +kernel
theorem dX3_parseIf_50 : decode cX3_parseIf 50 = .ok (.iload_n 2, 1) := by decide +kernel
theorem dX3_parseIf_51 : decode cX3_parseIf 51 = .ok (.iload_n 3, 1) := by decide +kernel
theorem dX3_parseIf_52 : decode cX3_parseIf 52 = .ok (.iload 4, 2) := by decide +kernel
theorem dX3_parseIf_54 : decode cX3_parseIf 54 = .ok (.iload 5, 2) := by decide +kernel
theorem dX3_parseIf_56 : decode cX3_parseIf 56 = .ok (.invokevirtual 154, 3) := by decide +kernel
theorem dX3_parseIf_59 : decode cX3_parseIf 59 = .ok (.ireturn, 1) := by decide +kernel
noncomputable def fX3_parseIf (r_X3_parseE : Int32 → mv_M → Option (Int32 × mv_M)) (a0 : Int32) (M : mv_M) : Option (Int32 × mv_M) :=
  mv_let (M.1 3 3) fun v1 =>
  mv_bind (fX3_pass M) fun _ M2 =>
  mv_bind (r_X3_parseE a0 M2) fun r3 M4 =>
  mv_bind (fX3_take 302 M4) fun _ M5 =>
  mv_bind (r_X3_parseE a0 M5) fun r6 M7 =>
  mv_bind (fX3_take 303 M7) fun _ M8 =>
  mv_bind (r_X3_parseE a0 M8) fun r9 M10 =>
  mv_getp (M10.2.2 3 2) fun b11 =>
  mv_bind (fX4_addNode b11 301 v1 r3 r6 r9 M10) fun r12 M13 =>
  some (r12, M13)
set_option maxRecDepth 100000 in
set_option maxHeartbeats 4000000 in
theorem zX3_parseIf {l : Launch} {d : Nat} {Q : Int32 → mv_M → Prop} {r_X3_parseE : Int32 → mv_M → Option (Int32 × mv_M)} (hd : 5 ≤ d) (hr_X3_parseE : ∀ (a0 : Int32) (M : mv_M) (Q : Int32 → mv_M → Prop), mv_ok (r_X3_parseE a0 M) Q → mv l mX3_parseE (d - 1) 0 0 (lv_args 0 [.ref 3, .int a0]) [] M (mv_qI Q)) (a0 : Int32) (M : mv_M) (h : mv_ok (fX3_parseIf r_X3_parseE a0 M) Q) : mv l mX3_parseIf d 0 0 (lv_args 0 [.ref 3, .int a0]) [] M (mv_qI Q) := by
  unfold fX3_parseIf at h
  show mv l mX3_parseIf d 0 0 [(0, .ref 3), (1, .int a0)] [] M (mv_qI Q)
  refine mv_aload_n 0 dX3_parseIf_0 rfl ?_
  refine mv_getI fX3_28 (by decide) rfl rfl dX3_parseIf_1 ?_
  refine mv_topi (fun v1 ev1 => ?_)
  replace h := mv_letE h v1 ev1
  refine mv_istore_n [(2, .int v1), (0, .ref 3), (1, .int a0)] dX3_parseIf_4 (by decide) rfl ?_
  refine mv_aload_n 1 dX3_parseIf_5 rfl ?_
  refine mv_cvV (As := []) (st := []) okX3_pass lX3_61 (by decide) rfl rfl rfl (Nat.le_of_ble_eq_true rfl) rfl (Nat.le_of_ble_eq_true rfl) dX3_parseIf_6 (by omega) rfl (zX3_pass (d := d - 1) (by omega) M (mv_bindE h)) (fun _ M2 h => ?_)
  refine mv_aload_n 1 dX3_parseIf_9 rfl ?_
  refine mv_iload_n 2 dX3_parseIf_10 rfl ?_
  refine mv_cvI (As := [.int a0]) (st := []) okX3_parseE lX3_105 (by decide) rfl rfl rfl (Nat.le_of_ble_eq_true rfl) rfl (Nat.le_of_ble_eq_true rfl) dX3_parseIf_11 (by omega) rfl (hr_X3_parseE a0 M2 _ (mv_bindE h)) (fun r3 M4 h => ?_)
  refine mv_istore_n [(3, .int r3), (2, .int v1), (0, .ref 3), (1, .int a0)] dX3_parseIf_14 (by decide) rfl ?_
  refine mv_aload_n 2 dX3_parseIf_15 rfl ?_
  refine mv_sipush 302 dX3_parseIf_16 (by decide) ?_
  refine mv_cvV (As := [.int 302]) (st := []) okX3_take lX3_89 (by decide) rfl rfl rfl (Nat.le_of_ble_eq_true rfl) rfl (Nat.le_of_ble_eq_true rfl) dX3_parseIf_19 (by omega) rfl (zX3_take (d := d - 1) (by omega) 302 M4 (mv_bindE h)) (fun _ M5 h => ?_)
  refine mv_aload_n 2 dX3_parseIf_22 rfl ?_
  refine mv_iload_n 3 dX3_parseIf_23 rfl ?_
  refine mv_cvI (As := [.int a0]) (st := []) okX3_parseE lX3_105 (by decide) rfl rfl rfl (Nat.le_of_ble_eq_true rfl) rfl (Nat.le_of_ble_eq_true rfl) dX3_parseIf_24 (by omega) rfl (hr_X3_parseE a0 M5 _ (mv_bindE h)) (fun r6 M7 h => ?_)
  refine mv_istore [(4, .int r6), (3, .int r3), (2, .int v1), (0, .ref 3), (1, .int a0)] dX3_parseIf_27 (by decide) rfl ?_
  refine mv_aload_n 3 dX3_parseIf_29 rfl ?_
  refine mv_sipush 303 dX3_parseIf_30 (by decide) ?_
  refine mv_cvV (As := [.int 303]) (st := []) okX3_take lX3_89 (by decide) rfl rfl rfl (Nat.le_of_ble_eq_true rfl) rfl (Nat.le_of_ble_eq_true rfl) dX3_parseIf_33 (by omega) rfl (zX3_take (d := d - 1) (by omega) 303 M7 (mv_bindE h)) (fun _ M8 h => ?_)
  refine mv_aload_n 3 dX3_parseIf_36 rfl ?_
  refine mv_iload_n 4 dX3_parseIf_37 rfl ?_
  refine mv_cvI (As := [.int a0]) (st := []) okX3_parseE lX3_105 (by decide) rfl rfl rfl (Nat.le_of_ble_eq_true rfl) rfl (Nat.le_of_ble_eq_true rfl) dX3_parseIf_38 (by omega) rfl (hr_X3_parseE a0 M8 _ (mv_bindE h)) (fun r9 M10 h => ?_)
  refine mv_istore [(5, .int r9), (4, .int r6), (3, .int r3), (2, .int v1), (0, .ref 3), (1, .int a0)] dX3_parseIf_41 (by decide) rfl ?_
  refine mv_aload_n 4 dX3_parseIf_43 rfl ?_
  obtain ⟨b11, eb11, hb11, h⟩ := mv_getpE h
  refine mv_getP b11 fX3_19 (by decide) rfl rfl eb11 dX3_parseIf_44 ?_
  refine mv_sipush 301 dX3_parseIf_47 (by decide) ?_
  refine mv_iload_n 3 dX3_parseIf_50 rfl ?_
  refine mv_iload_n 2 dX3_parseIf_51 rfl ?_
  refine mv_iload 1 dX3_parseIf_52 rfl ?_
  refine mv_iload 0 dX3_parseIf_54 rfl ?_
  refine mv_cvI (As := [.int 301, .int v1, .int r3, .int r6, .int r9]) (st := []) okX4_addNode lX3_154 (mv_pN (t := 0) hb11 (by decide)) (by rcases hb11 with rfl | rfl <;> rfl) rfl rfl (Nat.le_of_ble_eq_true rfl) rfl (Nat.le_of_ble_eq_true rfl) dX3_parseIf_56 (by omega) rfl (zX4_addNode (d := d - 1) (by omega) b11 301 v1 r3 r6 r9 M10 hb11 (mv_bindE h)) (fun r12 M13 h => ?_)
  exact mv_iret rfl dX3_parseIf_59 ⟨_, rfl, h⟩
theorem dX3_parseSides_0 : decode cX3_parseSides 0 = .ok (.iload_n 2, 1) := by decide +kernel
theorem dX3_parseSides_1 : decode cX3_parseSides 1 = .ok (.iconst 3, 1) := by decide +kernel
theorem dX3_parseSides_2 : decode cX3_parseSides 2 = .ok (.if_icmp .lt 9, 3) := by decide +kernel
theorem dX3_parseSides_5 : decode cX3_parseSides 5 = .ok (.aload_n 0, 1) := by decide +kernel
theorem dX3_parseSides_6 : decode cX3_parseSides 6 = .ok (.iload_n 1, 1) := by decide +kernel
theorem dX3_parseSides_7 : decode cX3_parseSides 7 = .ok (.invokevirtual 158, 3) := by decide +kernel
theorem dX3_parseSides_10 : decode cX3_parseSides 10 = .ok (.ireturn, 1) := by decide +kernel
theorem dX3_parseSides_11 : decode cX3_parseSides 11 = .ok (.aload_n 0, 1) := by decide +kernel
theorem dX3_parseSides_12 : decode cX3_parseSides 12 = .ok (.iload_n 1, 1) := by decide +kernel
theorem dX3_parseSides_13 : decode cX3_parseSides 13 = .ok (.iload_n 2, 1) := by decide +kernel
theorem dX3_parseSides_14 : decode cX3_parseSides 14 = .ok (.iconst 1, 1) := by decide +kernel
theorem dX3_parseSides_15 : decode cX3_parseSides 15 = .ok (.iadd, 1) := by decide +kernel
theorem dX3_parseSides_16 : decode cX3_parseSides 16 = .ok (.invokevirtual 145, 3) := by decide +kernel
theorem dX3_parseSides_19 : decode cX3_parseSides 19 = .ok (.istore_n 3, 1) := by decide +kernel
theorem dX3_parseSides_20 : decode cX3_parseSides 20 = .ok (.aload_n 0, 1) := by decide +kernel
theorem dX3_parseSides_21 : decode cX3_parseSides 21 = .ok (.iload_n 2, 1) := by decide +kernel
theorem dX3_parseSides_22 : decode cX3_parseSides 22 = .ok (.invokevirtual 161, 3) := by decide +kernel
theorem dX3_parseSides_25 : decode cX3_parseSides 25 = .ok (.ifCond .ne 5, 3) := by decide +kernel
theorem dX3_parseSides_28 : decode cX3_parseSides 28 = .ok (.iload_n 3, 1) := by decide +kernel
theorem dX3_parseSides_29 : decode cX3_parseSides 29 = .ok (.ireturn, 1) := by decide +kernel
theorem dX3_parseSides_30 : decode cX3_parseSides 30 = .ok (.aload_n 0, 1) := by decide +kernel
theorem dX3_parseSides_31 : decode cX3_parseSides 31 = .ok (.invokevirtual 35, 3) := by decide +kernel
theorem dX3_parseSides_34 : decode cX3_parseSides 34 = .ok (.istore 4, 2) := by decide +kernel
theorem dX3_parseSides_36 : decode cX3_parseSides 36 = .ok (.aload_n 0, 1) := by decide +kernel
theorem dX3_parseSides_37 : decode cX3_parseSides 37 = .ok (.invokevirtual 61, 3) := by decide +kernel
theorem dX3_parseSides_40 : decode cX3_parseSides 40 = .ok (.aload_n 0, 1) := by decide +kernel
theorem dX3_parseSides_41 : decode cX3_parseSides 41 = .ok (.iload_n 1, 1) := by decide +kernel
theorem dX3_parseSides_42 : decode cX3_parseSides 42 = .ok (.iload_n 2, 1) := by decide +kernel
theorem dX3_parseSides_43 : decode cX3_parseSides 43 = .ok (.iconst 1, 1) := by decide +kernel
theorem dX3_parseSides_44 : decode cX3_parseSides 44 = .ok (.iadd, 1) := by decide +kernel
theorem dX3_parseSides_45 : decode cX3_parseSides 45 = .ok (.invokevirtual 145, 3) := by decide +kernel
theorem dX3_parseSides_48 : decode cX3_parseSides 48 = .ok (.istore 5, 2) := by decide +kernel
theorem dX3_parseSides_50 : decode cX3_parseSides 50 = .ok (.aload_n 0, 1) := by decide +kernel
theorem dX3_parseSides_51 : decode cX3_parseSides 51 = .ok (.getfield 19, 3) := by decide +kernel
theorem dX3_parseSides_54 : decode cX3_parseSides 54 = .ok (.iload_n 3, 1) := by decide +kernel
theorem dX3_parseSides_55 : decode cX3_parseSides 55 = .ok (.invokevirtual 165, 3) := by decide +kernel
theorem dX3_parseSides_58 : decode cX3_parseSides 58 = .ok (.ifCond .eq 15, 3) := by decide +kernel
theorem dX3_parseSides_61 : decode cX3_parseSides 61 = .ok (.aload_n 0, 1) := by decide +kernel
theorem dX3_parseSides_62 : decode cX3_parseSides 62 = .ok (.getfield 19, 3) := by decide +kernel
theorem dX3_parseSides_65 : decode cX3_parseSides 65 = .ok (.getfield 168, 3) := by decide +kernel
theorem dX3_parseSides_68 : decode cX3_parseSides 68 = .ok (.iload_n 3, 1) := by decide +kernel
theorem dX3_parseSides_69 : decode cX3_parseSides 69 = .ok (.iaload, 1) := by decide +kernel
theorem dX3_parseSides_70 : decode cX3_parseSides 70 = .ok (.goto 4, 3) := by decide +kernel
theorem dX3_parseSides_73 : decode cX3_parseSides 73 = .ok (.iconst (-1), 1) := by decide +kernel
theorem dX3_parseSides_74 : decode cX3_parseSides 74 = .ok (.istore 6, 2) := by decide +kernel
theorem dX3_parseSides_76 : decode cX3_parseSides 76 = .ok (.aload_n 0, 1) := by decide +kernel
theorem dX3_parseSides_77 : decode cX3_parseSides 77 = .ok (.getfield 19, 3) := by decide +kernel
theorem dX3_parseSides_80 : decode cX3_parseSides 80 = .ok (.iload 4, 2) := by decide +kernel
theorem dX3_parseSides_82 : decode cX3_parseSides 82 = .ok (.iload 6, 2) := by decide +kernel
theorem dX3_parseSides_84 : decode cX3_parseSides 84 = .ok (.iload_n 3, 1) := by decide +kernel
theorem dX3_parseSides_85 : decode cX3_parseSides 85 = .ok (.iload 5, 2) := by decide +kernel
theorem dX3_parseSides_87 : decode cX3_parseSides 87 = .ok (.iconst (-1), 1) := by decide +kernel
theorem dX3_parseSides_88 : decode cX3_parseSides 88 = .ok (.invokevirtual 154, 3) := by decide +kernel
theorem dX3_parseSides_91 : decode cX3_parseSides 91 = .ok (.ireturn, 1) := by decide +kernel
noncomputable def fX3_parseSides_74 (r_X3_parseAtom : Int32 → mv_M → Option (Int32 × mv_M)) (r_X3_parseSides : Int32 → Int32 → mv_M → Option (Int32 × mv_M)) (x3 : Int32) (x4 : Int32) (x5 : Int32) (s0 : Int32) (M : mv_M) : Option (Int32 × mv_M) :=
  mv_getp (M.2.2 3 2) fun b17 =>
  mv_bind (fX4_addNode b17 x4 s0 x3 x5 (-1) M) fun r18 M19 =>
  some (r18, M19)
set_option maxRecDepth 100000 in
set_option maxHeartbeats 4000000 in
theorem zX3_parseSides_74 {l : Launch} {d : Nat} {Q : Int32 → mv_M → Prop} {r_X3_parseAtom : Int32 → mv_M → Option (Int32 × mv_M)} {r_X3_parseSides : Int32 → Int32 → mv_M → Option (Int32 × mv_M)} (hd : 4 ≤ d) (hr_X3_parseAtom : ∀ (a0 : Int32) (M : mv_M) (Q : Int32 → mv_M → Prop), mv_ok (r_X3_parseAtom a0 M) Q → mv l mX3_parseAtom (d - 1) 0 0 (lv_args 0 [.ref 3, .int a0]) [] M (mv_qI Q)) (hr_X3_parseSides : ∀ (a0 : Int32) (a1 : Int32) (M : mv_M) (Q : Int32 → mv_M → Prop), mv_ok (r_X3_parseSides a0 a1 M) Q → mv l mX3_parseSides (d - 1) 0 0 (lv_args 0 [.ref 3, .int a0, .int a1]) [] M (mv_qI Q)) (x3 : Int32) (x4 : Int32) (x5 : Int32) (s0 : Int32) (M : mv_M) (h : mv_ok (fX3_parseSides_74 r_X3_parseAtom r_X3_parseSides x3 x4 x5 s0 M) Q) : mv l mX3_parseSides d 0 74 [(0, .ref 3), (3, .int x3), (4, .int x4), (5, .int x5)] [.int s0] M (mv_qI Q) := by
  unfold fX3_parseSides_74 at h
  refine mv_istore [(6, .int s0), (0, .ref 3), (3, .int x3), (4, .int x4), (5, .int x5)] dX3_parseSides_74 (by decide) rfl ?_
  refine mv_aload_n 1 dX3_parseSides_76 rfl ?_
  obtain ⟨b17, eb17, hb17, h⟩ := mv_getpE h
  refine mv_getP b17 fX3_19 (by decide) rfl rfl eb17 dX3_parseSides_77 ?_
  refine mv_iload 3 dX3_parseSides_80 rfl ?_
  refine mv_iload 0 dX3_parseSides_82 rfl ?_
  refine mv_iload_n 2 dX3_parseSides_84 rfl ?_
  refine mv_iload 4 dX3_parseSides_85 rfl ?_
  refine mv_iconst (-1) dX3_parseSides_87 (by decide) ?_
  refine mv_cvI (As := [.int x4, .int s0, .int x3, .int x5, .int (-1)]) (st := []) okX4_addNode lX3_154 (mv_pN (t := 0) hb17 (by decide)) (by rcases hb17 with rfl | rfl <;> rfl) rfl rfl (Nat.le_of_ble_eq_true rfl) rfl (Nat.le_of_ble_eq_true rfl) dX3_parseSides_88 (by omega) rfl (zX4_addNode (d := d - 1) (by omega) b17 x4 s0 x3 x5 (-1) M hb17 (mv_bindE h)) (fun r18 M19 h => ?_)
  exact mv_iret rfl dX3_parseSides_91 ⟨_, rfl, h⟩
noncomputable def fX3_parseSides (r_X3_parseAtom : Int32 → mv_M → Option (Int32 × mv_M)) (r_X3_parseSides : Int32 → Int32 → mv_M → Option (Int32 × mv_M)) (a0 : Int32) (a1 : Int32) (M : mv_M) : Option (Int32 × mv_M) :=
  if a1 < 3 then
    mv_bind (r_X3_parseSides a0 (a1 + 1) M) fun r1 M2 =>
    mv_bind (fX3_joinsAt a1 M2) fun r3 M4 =>
    if r3 = 0 then
      some (r1, M4)
    else
      mv_bind (fX3_kind M4) fun r5 M6 =>
      mv_bind (fX3_pass M6) fun _ M7 =>
      mv_bind (r_X3_parseSides a0 (a1 + 1) M7) fun r8 M9 =>
      mv_getp (M9.2.2 3 2) fun b10 =>
      mv_bind (fX4_hasNode b10 r1 M9) fun r11 M12 =>
      if r11 = 0 then
        fX3_parseSides_74 r_X3_parseAtom r_X3_parseSides r1 r5 r8 (-1) M12
      else
        mv_getp (M12.2.2 3 2) fun b13 =>
        mv_chk (mv_inb r1 1000) <|
        fX3_parseSides_74 r_X3_parseAtom r_X3_parseSides r1 r5 r8 (M12.1 (b13 + 14) r1.toNatClampNeg) M12
  else
    mv_bind (r_X3_parseAtom a0 M) fun r15 M16 =>
    some (r15, M16)
set_option maxRecDepth 100000 in
set_option maxHeartbeats 4000000 in
theorem zX3_parseSides {l : Launch} {d : Nat} {Q : Int32 → mv_M → Prop} {r_X3_parseAtom : Int32 → mv_M → Option (Int32 × mv_M)} {r_X3_parseSides : Int32 → Int32 → mv_M → Option (Int32 × mv_M)} (hd : 4 ≤ d) (hr_X3_parseAtom : ∀ (a0 : Int32) (M : mv_M) (Q : Int32 → mv_M → Prop), mv_ok (r_X3_parseAtom a0 M) Q → mv l mX3_parseAtom (d - 1) 0 0 (lv_args 0 [.ref 3, .int a0]) [] M (mv_qI Q)) (hr_X3_parseSides : ∀ (a0 : Int32) (a1 : Int32) (M : mv_M) (Q : Int32 → mv_M → Prop), mv_ok (r_X3_parseSides a0 a1 M) Q → mv l mX3_parseSides (d - 1) 0 0 (lv_args 0 [.ref 3, .int a0, .int a1]) [] M (mv_qI Q)) (a0 : Int32) (a1 : Int32) (M : mv_M) (h : mv_ok (fX3_parseSides r_X3_parseAtom r_X3_parseSides a0 a1 M) Q) : mv l mX3_parseSides d 0 0 (lv_args 0 [.ref 3, .int a0, .int a1]) [] M (mv_qI Q) := by
  unfold fX3_parseSides at h
  show mv l mX3_parseSides d 0 0 [(0, .ref 3), (1, .int a0), (2, .int a1)] [] M (mv_qI Q)
  refine mv_iload_n 2 dX3_parseSides_0 rfl ?_
  refine mv_iconst 3 dX3_parseSides_1 (by decide) ?_
  refine mv_icmp_lt 11 dX3_parseSides_2 (by decide) (fun z => ?_) (fun z => ?_)
  · replace h := mv_ifT z h
    refine mv_aload_n 0 dX3_parseSides_11 rfl ?_
    refine mv_iload_n 1 dX3_parseSides_12 rfl ?_
    refine mv_iload_n 2 dX3_parseSides_13 rfl ?_
    refine mv_iconst 1 dX3_parseSides_14 (by decide) ?_
    refine mv_iadd dX3_parseSides_15 ?_
    refine mv_cvI (As := [.int a0, .int (a1 + 1)]) (st := []) okX3_parseSides lX3_145 (by decide) rfl rfl rfl (Nat.le_of_ble_eq_true rfl) rfl (Nat.le_of_ble_eq_true rfl) dX3_parseSides_16 (by omega) rfl (hr_X3_parseSides a0 (a1 + 1) M _ (mv_bindE h)) (fun r1 M2 h => ?_)
    refine mv_istore_n [(3, .int r1), (0, .ref 3), (1, .int a0), (2, .int a1)] dX3_parseSides_19 (by decide) rfl ?_
    refine mv_aload_n 1 dX3_parseSides_20 rfl ?_
    refine mv_iload_n 3 dX3_parseSides_21 rfl ?_
    refine mv_cvI (As := [.int a1]) (st := []) okX3_joinsAt lX3_161 (by decide) rfl rfl rfl (Nat.le_of_ble_eq_true rfl) rfl (Nat.le_of_ble_eq_true rfl) dX3_parseSides_22 (by omega) rfl (zX3_joinsAt (d := d - 1) (by omega) a1 M2 (mv_bindE h)) (fun r3 M4 h => ?_)
    refine mv_if_ne 30 dX3_parseSides_25 (by decide) (fun z => ?_) (fun z => ?_)
    · replace h := mv_ifF z h
      refine mv_aload_n 1 dX3_parseSides_30 rfl ?_
      refine mv_cvI (As := []) (st := []) okX3_kind lX3_35 (by decide) rfl rfl rfl (Nat.le_of_ble_eq_true rfl) rfl (Nat.le_of_ble_eq_true rfl) dX3_parseSides_31 (by omega) rfl (zX3_kind (d := d - 1) (by omega) M4 (mv_bindE h)) (fun r5 M6 h => ?_)
      refine mv_istore [(4, .int r5), (3, .int r1), (0, .ref 3), (1, .int a0), (2, .int a1)] dX3_parseSides_34 (by decide) rfl ?_
      refine mv_aload_n 2 dX3_parseSides_36 rfl ?_
      refine mv_cvV (As := []) (st := []) okX3_pass lX3_61 (by decide) rfl rfl rfl (Nat.le_of_ble_eq_true rfl) rfl (Nat.le_of_ble_eq_true rfl) dX3_parseSides_37 (by omega) rfl (zX3_pass (d := d - 1) (by omega) M6 (mv_bindE h)) (fun _ M7 h => ?_)
      refine mv_aload_n 2 dX3_parseSides_40 rfl ?_
      refine mv_iload_n 3 dX3_parseSides_41 rfl ?_
      refine mv_iload_n 4 dX3_parseSides_42 rfl ?_
      refine mv_iconst 1 dX3_parseSides_43 (by decide) ?_
      refine mv_iadd dX3_parseSides_44 ?_
      refine mv_cvI (As := [.int a0, .int (a1 + 1)]) (st := []) okX3_parseSides lX3_145 (by decide) rfl rfl rfl (Nat.le_of_ble_eq_true rfl) rfl (Nat.le_of_ble_eq_true rfl) dX3_parseSides_45 (by omega) rfl (hr_X3_parseSides a0 (a1 + 1) M7 _ (mv_bindE h)) (fun r8 M9 h => ?_)
      refine mv_istore [(5, .int r8), (4, .int r5), (3, .int r1), (0, .ref 3), (1, .int a0), (2, .int a1)] dX3_parseSides_48 (by decide) rfl ?_
      refine mv_aload_n 3 dX3_parseSides_50 rfl ?_
      obtain ⟨b10, eb10, hb10, h⟩ := mv_getpE h
      refine mv_getP b10 fX3_19 (by decide) rfl rfl eb10 dX3_parseSides_51 ?_
      refine mv_iload_n 2 dX3_parseSides_54 rfl ?_
      refine mv_cvI (As := [.int r1]) (st := []) okX4_hasNode lX3_165 (mv_pN (t := 0) hb10 (by decide)) (by rcases hb10 with rfl | rfl <;> rfl) rfl rfl (Nat.le_of_ble_eq_true rfl) rfl (Nat.le_of_ble_eq_true rfl) dX3_parseSides_55 (by omega) rfl (zX4_hasNode (d := d - 1) (by omega) b10 r1 M9 hb10 (mv_bindE h)) (fun r11 M12 h => ?_)
      refine mv_if_eq 73 dX3_parseSides_58 (by decide) (fun z => ?_) (fun z => ?_)
      · replace h := mv_ifT z h
        refine mv_iconst (-1) dX3_parseSides_73 (by decide) ?_
        refine mv_sub [3, 2, 1, 0] rfl ?_
        exact zX3_parseSides_74 hd hr_X3_parseAtom hr_X3_parseSides r1 r5 r8 (-1) M12 h
      · replace h := mv_ifF z h
        refine mv_aload_n 3 dX3_parseSides_61 rfl ?_
        obtain ⟨b13, eb13, hb13, h⟩ := mv_getpE h
        refine mv_getP b13 fX3_19 (by decide) rfl rfl eb13 dX3_parseSides_62 ?_
        refine mv_getR (b13 + 14) fX3_168 (mv_pN (t := 0) hb13 (by decide)) (by rcases hb13 with rfl | rfl <;> rfl) rfl (by rcases hb13 with rfl | rfl <;> rfl) dX3_parseSides_65 ?_
        refine mv_iload_n 2 dX3_parseSides_68 rfl ?_
        obtain ⟨hi14, h⟩ := mv_chkE h
        refine mv_ild (mv_pN (t := 14) hb13 (by decide)) (by rcases hb13 with rfl | rfl <;> rfl) (mv_inE hi14) dX3_parseSides_69 ?_
        refine mv_goto 74 dX3_parseSides_70 (by decide) ?_
        refine mv_sub [3, 2, 1, 0] rfl ?_
        exact zX3_parseSides_74 hd hr_X3_parseAtom hr_X3_parseSides r1 r5 r8 (M12.1 (b13 + 14) r1.toNatClampNeg) M12 h
    · replace h := mv_ifT z h
      refine mv_iload_n 0 dX3_parseSides_28 rfl ?_
      exact mv_iret rfl dX3_parseSides_29 ⟨_, rfl, h⟩
  · replace h := mv_ifF z h
    refine mv_aload_n 0 dX3_parseSides_5 rfl ?_
    refine mv_iload_n 1 dX3_parseSides_6 rfl ?_
    refine mv_cvI (As := [.int a0]) (st := []) okX3_parseAtom lX3_158 (by decide) rfl rfl rfl (Nat.le_of_ble_eq_true rfl) rfl (Nat.le_of_ble_eq_true rfl) dX3_parseSides_7 (by omega) rfl (hr_X3_parseAtom a0 M _ (mv_bindE h)) (fun r15 M16 h => ?_)
    exact mv_iret rfl dX3_parseSides_10 ⟨_, rfl, h⟩
theorem dX3_parseAtom_0 : decode cX3_parseAtom 0 = .ok (.aload_n 0, 1) := by decide +kernel
theorem dX3_parseAtom_1 : decode cX3_parseAtom 1 = .ok (.getfield 28, 3) := by decide +kernel
theorem dX3_parseAtom_4 : decode cX3_parseAtom 4 = .ok (.istore_n 2, 1) := by decide +kernel
theorem dX3_parseAtom_5 : decode cX3_parseAtom 5 = .ok (.aload_n 0, 1) := by decide +kernel
theorem dX3_parseAtom_6 : decode cX3_parseAtom 6 = .ok (.invokevirtual 35, 3) := by decide +kernel
theorem dX3_parseAtom_9 : decode cX3_parseAtom 9 = .ok (.lookupswitch 122 #[(2, 78), (3, 43), (40, 111), (308, 68)], 43) := by decide +kernel
theorem dX3_parseAtom_52 : decode cX3_parseAtom 52 = .ok (.aload_n 0, 1) := by decide +kernel
theorem dX3_parseAtom_53 : decode cX3_parseAtom 53 = .ok (.invokevirtual 61, 3) := by decide +kernel
theorem dX3_parseAtom_56 : decode cX3_parseAtom 56 = .ok (.aload_n 0, 1) := by decide +kernel
theorem dX3_parseAtom_57 : decode cX3_parseAtom 57 = .ok (.getfield 19, 3) := by decide +kernel
theorem dX3_parseAtom_60 : decode cX3_parseAtom 60 = .ok (.iconst 3, 1) := by decide +kernel
theorem dX3_parseAtom_61 : decode cX3_parseAtom 61 = .ok (.iload_n 2, 1) := by decide +kernel
theorem dX3_parseAtom_62 : decode cX3_parseAtom 62 = .ok (.aload_n 0, 1) := by decide +kernel
theorem dX3_parseAtom_63 : decode cX3_parseAtom 63 = .ok (.getfield 9, 3) := by decide +kernel
theorem dX3_parseAtom_66 : decode cX3_parseAtom 66 = .ok (.iload_n 2, 1) := by decide +kernel
theorem dX3_parseAtom_67 : decode cX3_parseAtom 67 = .ok (.invokevirtual 64, 3) := by decide +kernel
theorem dX3_parseAtom_70 : decode cX3_parseAtom 70 = .ok (.l2i, 1) := by decide +kernel
theorem dX3_parseAtom_71 : decode cX3_parseAtom 71 = .ok (.iconst (-1), 1) := by decide +kernel
theorem dX3_parseAtom_72 : decode cX3_parseAtom 72 = .ok (.iconst (-1), 1) := by decide +kernel
theorem dX3_parseAtom_73 : decode cX3_parseAtom 73 = .ok (.invokevirtual 154, 3) := by decide +kernel
theorem dX3_parseAtom_76 : decode cX3_parseAtom 76 = .ok (.ireturn, 1) := by decide +kernel
theorem dX3_parseAtom_77 : decode cX3_parseAtom 77 = .ok (.aload_n 0, 1) := by decide +kernel
theorem dX3_parseAtom_78 : decode cX3_parseAtom 78 = .ok (.invokevirtual 61, 3) := by decide +kernel
theorem dX3_parseAtom_81 : decode cX3_parseAtom 81 = .ok (.aload_n 0, 1) := by decide +kernel
theorem dX3_parseAtom_82 : decode cX3_parseAtom 82 = .ok (.iload_n 2, 1) := by decide +kernel
theorem dX3_parseAtom_83 : decode cX3_parseAtom 83 = .ok (.invokevirtual 171, 3) := by decide +kernel
theorem dX3_parseAtom_86 : decode cX3_parseAtom 86 = .ok (.ireturn, 1) := by decide +kernel
theorem dX3_parseAtom_87 : decode cX3_parseAtom 87 = .ok (.aload_n 0, 1) := by decide +kernel
theorem dX3_parseAtom_88 : decode cX3_parseAtom 88 = .ok (.invokevirtual 61, 3) := by decide +kernel
theorem dX3_parseAtom_91 : decode cX3_parseAtom 91 = .ok (.aload_n 0, 1) := by decide +kernel
theorem dX3_parseAtom_92 : decode cX3_parseAtom 92 = .ok (.invokevirtual 35, 3) := by decide +kernel
theorem dX3_parseAtom_95 : decode cX3_parseAtom 95 = .ok (.bipush 40, 2) := by decide +kernel
theorem dX3_parseAtom_97 : decode cX3_parseAtom 97 = .ok (.if_icmp .ne 10, 3) := by decide +kernel
theorem dX3_parseAtom_100 : decode cX3_parseAtom 100 = .ok (.aload_n 0, 1) := by decide +kernel
theorem dX3_parseAtom_101 : decode cX3_parseAtom 101 = .ok (.iload_n 2, 1) := by decide +kernel
theorem dX3_parseAtom_102 : decode cX3_parseAtom 102 = .ok (.iload_n 1, 1) := by decide +kernel
theorem dX3_parseAtom_103 : decode cX3_parseAtom 103 = .ok (.invokevirtual 174, 3) := by decide +kernel
theorem dX3_parseAtom_106 : decode cX3_parseAtom 106 = .ok (.ireturn, 1) := by decide +kernel
theorem dX3_parseAtom_107 : decode cX3_parseAtom 107 = .ok (.aload_n 0, 1) := by decide +kernel
theorem dX3_parseAtom_108 : decode cX3_parseAtom 108 = .ok (.getfield 19, 3) := by decide +kernel
theorem dX3_parseAtom_111 : decode cX3_parseAtom 111 = .ok (.iconst 2, 1) := by decide +kernel
theorem dX3_parseAtom_112 : decode cX3_parseAtom 112 = .ok (.iload_n 2, 1) := by decide +kernel
theorem dX3_parseAtom_113 : decode cX3_parseAtom 113 = .ok (.iconst (-1), 1) := by decide +kernel
theorem dX3_parseAtom_114 : decode cX3_parseAtom 114 = .ok (.iconst (-1), 1) := by decide +kernel
theorem dX3_parseAtom_115 : decode cX3_parseAtom 115 = .ok (.iconst (-1), 1) := by decide +kernel
theorem dX3_parseAtom_116 : decode cX3_parseAtom 116 = .ok (.invokevirtual 154, 3) := by decide +kernel
theorem dX3_parseAtom_119 : decode cX3_parseAtom 119 = .ok (.ireturn, 1) := by decide +kernel
theorem dX3_parseAtom_120 : decode cX3_parseAtom 120 = .ok (.aload_n 0, 1) := by decide +kernel
theorem dX3_parseAtom_121 : decode cX3_parseAtom 121 = .ok (.invokevirtual 61, 3) := by decide +kernel
theorem dX3_parseAtom_124 : decode cX3_parseAtom 124 = .ok (.aload_n 0, 1) := by decide +kernel
theorem dX3_parseAtom_125 : decode cX3_parseAtom 125 = .ok (.iload_n 2, 1) := by decide +kernel
theorem dX3_parseAtom_126 : decode cX3_parseAtom 126 = .ok (.iload_n 1, 1) := by decide +kernel
theorem dX3_parseAtom_127 : decode cX3_parseAtom 127 = .ok (.invokevirtual 177, 3) := by decide +kernel
theorem dX3_parseAtom_130 : decode cX3_parseAtom 130 = .ok (.ireturn, 1) := by decide +kernel
theorem dX3_parseAtom_131 : decode cX3_parseAtom 131 = .ok (.aload_n 0, 1) := by decide +kernel
theorem dX3_parseAtom_132 : decode cX3_parseAtom 132 = .ok (.iconst 2, 1) := by decide +kernel
theorem dX3_parseAtom_133 : decode cX3_parseAtom 133 = .ok (.invokevirtual 57, 3) := by decide +kernel
theorem dX3_parseAtom_136 : decode cX3_parseAtom 136 = .ok (.iconst (-1), 1) := by decide +kernel
theorem dX3_parseAtom_137 : decode cX3_parseAtom 137 = .ok (.ireturn, 1) := by decide +kernel
noncomputable def fX3_parseAtom (r_X3_parseCall : Int32 → Int32 → mv_M → Option (Int32 × mv_M)) (r_X3_parseInBrackets : Int32 → Int32 → mv_M → Option (Int32 × mv_M)) (a0 : Int32) (M : mv_M) : Option (Int32 × mv_M) :=
  mv_let (M.1 3 3) fun v1 =>
  mv_bind (fX3_kind M) fun r2 M3 =>
  if r2 = 2 then
    mv_bind (fX3_pass M3) fun _ M5 =>
    mv_bind (fX3_kind M5) fun r6 M7 =>
    if r6 = 40 then
      mv_bind (r_X3_parseCall v1 a0 M7) fun r11 M12 =>
      some (r11, M12)
    else
      mv_getp (M7.2.2 3 2) fun b8 =>
      mv_bind (fX4_addNode b8 2 v1 (-1) (-1) (-1) M7) fun r9 M10 =>
      some (r9, M10)
  else
    if r2 = 3 then
      mv_bind (fX3_pass M3) fun _ M14 =>
      mv_getp (M14.2.2 3 2) fun b15 =>
      mv_bind (fX8_textOf v1 M14) fun r16 M17 =>
      mv_bind (fX4_addNode b15 3 v1 (r16.toInt32) (-1) (-1) M17) fun r18 M19 =>
      some (r18, M19)
    else
      if r2 = 40 then
        mv_bind (fX3_pass M3) fun _ M21 =>
        mv_bind (r_X3_parseInBrackets v1 a0 M21) fun r22 M23 =>
        some (r22, M23)
      else
        if r2 = 308 then
          mv_bind (fX3_pass M3) fun _ M25 =>
          mv_bind (fX3_parseFail v1 M25) fun r26 M27 =>
          some (r26, M27)
        else
          mv_bind (fX3_stop 2 M3) fun _ M28 =>
          some ((-1), M28)
set_option maxRecDepth 100000 in
set_option maxHeartbeats 4000000 in
theorem zX3_parseAtom {l : Launch} {d : Nat} {Q : Int32 → mv_M → Prop} {r_X3_parseCall : Int32 → Int32 → mv_M → Option (Int32 × mv_M)} {r_X3_parseInBrackets : Int32 → Int32 → mv_M → Option (Int32 × mv_M)} (hd : 20 ≤ d) (hr_X3_parseCall : ∀ (a0 : Int32) (a1 : Int32) (M : mv_M) (Q : Int32 → mv_M → Prop), mv_ok (r_X3_parseCall a0 a1 M) Q → mv l mX3_parseCall (d - 1) 0 0 (lv_args 0 [.ref 3, .int a0, .int a1]) [] M (mv_qI Q)) (hr_X3_parseInBrackets : ∀ (a0 : Int32) (a1 : Int32) (M : mv_M) (Q : Int32 → mv_M → Prop), mv_ok (r_X3_parseInBrackets a0 a1 M) Q → mv l mX3_parseInBrackets (d - 1) 0 0 (lv_args 0 [.ref 3, .int a0, .int a1]) [] M (mv_qI Q)) (a0 : Int32) (M : mv_M) (h : mv_ok (fX3_parseAtom r_X3_parseCall r_X3_parseInBrackets a0 M) Q) : mv l mX3_parseAtom d 0 0 (lv_args 0 [.ref 3, .int a0]) [] M (mv_qI Q) := by
  unfold fX3_parseAtom at h
  show mv l mX3_parseAtom d 0 0 [(0, .ref 3), (1, .int a0)] [] M (mv_qI Q)
  refine mv_aload_n 0 dX3_parseAtom_0 rfl ?_
  refine mv_getI fX3_28 (by decide) rfl rfl dX3_parseAtom_1 ?_
  refine mv_topi (fun v1 ev1 => ?_)
  replace h := mv_letE h v1 ev1
  refine mv_istore_n [(2, .int v1), (0, .ref 3), (1, .int a0)] dX3_parseAtom_4 (by decide) rfl ?_
  refine mv_aload_n 1 dX3_parseAtom_5 rfl ?_
  refine mv_cvI (As := []) (st := []) okX3_kind lX3_35 (by decide) rfl rfl rfl (Nat.le_of_ble_eq_true rfl) rfl (Nat.le_of_ble_eq_true rfl) dX3_parseAtom_6 (by omega) rfl (zX3_kind (d := d - 1) (by omega) M (mv_bindE h)) (fun r2 M3 h => ?_)
  by_cases z4 : r2 = 2
  · replace h := mv_ifT z4 h
    refine mv_lookup (off := 78) 87 dX3_parseAtom_9 (by decide) (mv_swc (mv_eqv z4 (by decide))) (by decide) ?_
    refine mv_aload_n 1 dX3_parseAtom_87 rfl ?_
    refine mv_cvV (As := []) (st := []) okX3_pass lX3_61 (by decide) rfl rfl rfl (Nat.le_of_ble_eq_true rfl) rfl (Nat.le_of_ble_eq_true rfl) dX3_parseAtom_88 (by omega) rfl (zX3_pass (d := d - 1) (by omega) M3 (mv_bindE h)) (fun _ M5 h => ?_)
    refine mv_aload_n 1 dX3_parseAtom_91 rfl ?_
    refine mv_cvI (As := []) (st := []) okX3_kind lX3_35 (by decide) rfl rfl rfl (Nat.le_of_ble_eq_true rfl) rfl (Nat.le_of_ble_eq_true rfl) dX3_parseAtom_92 (by omega) rfl (zX3_kind (d := d - 1) (by omega) M5 (mv_bindE h)) (fun r6 M7 h => ?_)
    refine mv_bipush 40 dX3_parseAtom_95 (by decide) ?_
    refine mv_icmp_ne 107 dX3_parseAtom_97 (by decide) (fun z => ?_) (fun z => ?_)
    · replace h := mv_ifF z h
      refine mv_aload_n 1 dX3_parseAtom_107 rfl ?_
      obtain ⟨b8, eb8, hb8, h⟩ := mv_getpE h
      refine mv_getP b8 fX3_19 (by decide) rfl rfl eb8 dX3_parseAtom_108 ?_
      refine mv_iconst 2 dX3_parseAtom_111 (by decide) ?_
      refine mv_iload_n 0 dX3_parseAtom_112 rfl ?_
      refine mv_iconst (-1) dX3_parseAtom_113 (by decide) ?_
      refine mv_iconst (-1) dX3_parseAtom_114 (by decide) ?_
      refine mv_iconst (-1) dX3_parseAtom_115 (by decide) ?_
      refine mv_cvI (As := [.int 2, .int v1, .int (-1), .int (-1), .int (-1)]) (st := []) okX4_addNode lX3_154 (mv_pN (t := 0) hb8 (by decide)) (by rcases hb8 with rfl | rfl <;> rfl) rfl rfl (Nat.le_of_ble_eq_true rfl) rfl (Nat.le_of_ble_eq_true rfl) dX3_parseAtom_116 (by omega) rfl (zX4_addNode (d := d - 1) (by omega) b8 2 v1 (-1) (-1) (-1) M7 hb8 (mv_bindE h)) (fun r9 M10 h => ?_)
      exact mv_iret rfl dX3_parseAtom_119 ⟨_, rfl, h⟩
    · replace h := mv_ifT z h
      refine mv_aload_n 1 dX3_parseAtom_100 rfl ?_
      refine mv_iload_n 0 dX3_parseAtom_101 rfl ?_
      refine mv_iload_n 2 dX3_parseAtom_102 rfl ?_
      refine mv_cvI (As := [.int v1, .int a0]) (st := []) okX3_parseCall lX3_174 (by decide) rfl rfl rfl (Nat.le_of_ble_eq_true rfl) rfl (Nat.le_of_ble_eq_true rfl) dX3_parseAtom_103 (by omega) rfl (hr_X3_parseCall v1 a0 M7 _ (mv_bindE h)) (fun r11 M12 h => ?_)
      exact mv_iret rfl dX3_parseAtom_106 ⟨_, rfl, h⟩
  · replace h := mv_ifF z4 h
    by_cases z13 : r2 = 3
    · replace h := mv_ifT z13 h
      refine mv_lookup (off := 43) 52 dX3_parseAtom_9 (by decide) (mv_swn (mv_ne 2 (by decide) z4) (mv_swc (mv_eqv z13 (by decide)))) (by decide) ?_
      refine mv_aload_n 1 dX3_parseAtom_52 rfl ?_
      refine mv_cvV (As := []) (st := []) okX3_pass lX3_61 (by decide) rfl rfl rfl (Nat.le_of_ble_eq_true rfl) rfl (Nat.le_of_ble_eq_true rfl) dX3_parseAtom_53 (by omega) rfl (zX3_pass (d := d - 1) (by omega) M3 (mv_bindE h)) (fun _ M14 h => ?_)
      refine mv_aload_n 1 dX3_parseAtom_56 rfl ?_
      obtain ⟨b15, eb15, hb15, h⟩ := mv_getpE h
      refine mv_getP b15 fX3_19 (by decide) rfl rfl eb15 dX3_parseAtom_57 ?_
      refine mv_iconst 3 dX3_parseAtom_60 (by decide) ?_
      refine mv_iload_n 0 dX3_parseAtom_61 rfl ?_
      refine mv_aload_n 1 dX3_parseAtom_62 rfl ?_
      refine mv_getR 2 fX3_9 (by decide) rfl rfl rfl dX3_parseAtom_63 ?_
      refine mv_iload_n 0 dX3_parseAtom_66 rfl ?_
      refine mv_cvL (As := [.int v1]) (st := [.int v1, .int 3, .ref b15]) okX8_textOf lX3_64 (by decide) rfl rfl rfl (Nat.le_of_ble_eq_true rfl) rfl (Nat.le_of_ble_eq_true rfl) dX3_parseAtom_67 (by omega) rfl (zX8_textOf (d := d - 1) (by omega) v1 M14 (mv_bindE h)) (fun r16 M17 h => ?_)
      refine mv_l2i dX3_parseAtom_70 ?_
      refine mv_iconst (-1) dX3_parseAtom_71 (by decide) ?_
      refine mv_iconst (-1) dX3_parseAtom_72 (by decide) ?_
      refine mv_cvI (As := [.int 3, .int v1, .int (r16.toInt32), .int (-1), .int (-1)]) (st := []) okX4_addNode lX3_154 (mv_pN (t := 0) hb15 (by decide)) (by rcases hb15 with rfl | rfl <;> rfl) rfl rfl (Nat.le_of_ble_eq_true rfl) rfl (Nat.le_of_ble_eq_true rfl) dX3_parseAtom_73 (by omega) rfl (zX4_addNode (d := d - 1) (by omega) b15 3 v1 (r16.toInt32) (-1) (-1) M17 hb15 (mv_bindE h)) (fun r18 M19 h => ?_)
      exact mv_iret rfl dX3_parseAtom_76 ⟨_, rfl, h⟩
    · replace h := mv_ifF z13 h
      by_cases z20 : r2 = 40
      · replace h := mv_ifT z20 h
        refine mv_lookup (off := 111) 120 dX3_parseAtom_9 (by decide) (mv_swn (mv_ne 2 (by decide) z4) (mv_swn (mv_ne 3 (by decide) z13) (mv_swc (mv_eqv z20 (by decide))))) (by decide) ?_
        refine mv_aload_n 1 dX3_parseAtom_120 rfl ?_
        refine mv_cvV (As := []) (st := []) okX3_pass lX3_61 (by decide) rfl rfl rfl (Nat.le_of_ble_eq_true rfl) rfl (Nat.le_of_ble_eq_true rfl) dX3_parseAtom_121 (by omega) rfl (zX3_pass (d := d - 1) (by omega) M3 (mv_bindE h)) (fun _ M21 h => ?_)
        refine mv_aload_n 1 dX3_parseAtom_124 rfl ?_
        refine mv_iload_n 0 dX3_parseAtom_125 rfl ?_
        refine mv_iload_n 2 dX3_parseAtom_126 rfl ?_
        refine mv_cvI (As := [.int v1, .int a0]) (st := []) okX3_parseInBrackets lX3_177 (by decide) rfl rfl rfl (Nat.le_of_ble_eq_true rfl) rfl (Nat.le_of_ble_eq_true rfl) dX3_parseAtom_127 (by omega) rfl (hr_X3_parseInBrackets v1 a0 M21 _ (mv_bindE h)) (fun r22 M23 h => ?_)
        exact mv_iret rfl dX3_parseAtom_130 ⟨_, rfl, h⟩
      · replace h := mv_ifF z20 h
        by_cases z24 : r2 = 308
        · replace h := mv_ifT z24 h
          refine mv_lookup (off := 68) 77 dX3_parseAtom_9 (by decide) (mv_swn (mv_ne 2 (by decide) z4) (mv_swn (mv_ne 3 (by decide) z13) (mv_swn (mv_ne 40 (by decide) z20) (mv_swc (mv_eqv z24 (by decide)))))) (by decide) ?_
          refine mv_aload_n 1 dX3_parseAtom_77 rfl ?_
          refine mv_cvV (As := []) (st := []) okX3_pass lX3_61 (by decide) rfl rfl rfl (Nat.le_of_ble_eq_true rfl) rfl (Nat.le_of_ble_eq_true rfl) dX3_parseAtom_78 (by omega) rfl (zX3_pass (d := d - 1) (by omega) M3 (mv_bindE h)) (fun _ M25 h => ?_)
          refine mv_aload_n 1 dX3_parseAtom_81 rfl ?_
          refine mv_iload_n 0 dX3_parseAtom_82 rfl ?_
          refine mv_cvI (As := [.int v1]) (st := []) okX3_parseFail lX3_171 (by decide) rfl rfl rfl (Nat.le_of_ble_eq_true rfl) rfl (Nat.le_of_ble_eq_true rfl) dX3_parseAtom_83 (by omega) rfl (zX3_parseFail (d := d - 1) (by omega) v1 M25 (mv_bindE h)) (fun r26 M27 h => ?_)
          exact mv_iret rfl dX3_parseAtom_86 ⟨_, rfl, h⟩
        · replace h := mv_ifF z24 h
          refine mv_lookup (off := 122) 131 dX3_parseAtom_9 (by decide) (mv_swn (mv_ne 2 (by decide) z4) (mv_swn (mv_ne 3 (by decide) z13) (mv_swn (mv_ne 40 (by decide) z20) (mv_swn (mv_ne 308 (by decide) z24) rfl)))) (by decide) ?_
          refine mv_aload_n 1 dX3_parseAtom_131 rfl ?_
          refine mv_iconst 2 dX3_parseAtom_132 (by decide) ?_
          refine mv_cvV (As := [.int 2]) (st := []) okX3_stop lX3_57 (by decide) rfl rfl rfl (Nat.le_of_ble_eq_true rfl) rfl (Nat.le_of_ble_eq_true rfl) dX3_parseAtom_133 (by omega) rfl (zX3_stop (d := d - 1) (by omega) 2 M3 (mv_bindE h)) (fun _ M28 h => ?_)
          refine mv_iconst (-1) dX3_parseAtom_136 (by decide) ?_
          exact mv_iret rfl dX3_parseAtom_137 ⟨_, rfl, h⟩
theorem dX3_parseInBrackets_0 : decode cX3_parseInBrackets 0 = .ok (.aload_n 0, 1) := by decide +kernel
theorem dX3_parseInBrackets_1 : decode cX3_parseInBrackets 1 = .ok (.iload_n 2, 1) := by decide +kernel
theorem dX3_parseInBrackets_2 : decode cX3_parseInBrackets 2 = .ok (.invokevirtual 105, 3) := by decide +kernel
theorem dX3_parseInBrackets_5 : decode cX3_parseInBrackets 5 = .ok (.istore_n 3, 1) := by decide +kernel
theorem dX3_parseInBrackets_6 : decode cX3_parseInBrackets 6 = .ok (.aload_n 0, 1) := by decide +kernel
theorem dX3_parseInBrackets_7 : decode cX3_parseInBrackets 7 = .ok (.invokevirtual 35, 3) := by decide +kernel
theorem dX3_parseInBrackets_10 : decode cX3_parseInBrackets 10 = .ok (.bipush 44, 2) := by decide +kernel
theorem dX3_parseInBrackets_12 : decode cX3_parseInBrackets 12 = .ok (.if_icmp .eq 11, 3) := by decide +kernel
theorem dX3_parseInBrackets_15 : decode cX3_parseInBrackets 15 = .ok (.aload_n 0, 1) := by decide +kernel
theorem dX3_parseInBrackets_16 : decode cX3_parseInBrackets 16 = .ok (.bipush 41, 2) := by decide +kernel
theorem dX3_parseInBrackets_18 : decode cX3_parseInBrackets 18 = .ok (.invokevirtual 89, 3) := by decide +kernel
theorem dX3_parseInBrackets_21 : decode cX3_parseInBrackets 21 = .ok (.iload_n 3, 1) := by decide +kernel
theorem dX3_parseInBrackets_22 : decode cX3_parseInBrackets 22 = .ok (.ireturn, 1) := by decide +kernel
theorem dX3_parseInBrackets_23 : decode cX3_parseInBrackets 23 = .ok (.aload_n 0, 1) := by decide +kernel
theorem dX3_parseInBrackets_24 : decode cX3_parseInBrackets 24 = .ok (.invokevirtual 61, 3) := by decide +kernel
theorem dX3_parseInBrackets_27 : decode cX3_parseInBrackets 27 = .ok (.aload_n 0, 1) := by decide +kernel
theorem dX3_parseInBrackets_28 : decode cX3_parseInBrackets 28 = .ok (.iload_n 2, 1) := by decide +kernel
theorem dX3_parseInBrackets_29 : decode cX3_parseInBrackets 29 = .ok (.invokevirtual 105, 3) := by decide +kernel
theorem dX3_parseInBrackets_32 : decode cX3_parseInBrackets 32 = .ok (.istore 4, 2) := by decide +kernel
theorem dX3_parseInBrackets_34 : decode cX3_parseInBrackets 34 = .ok (.aload_n 0, 1) := by decide +kernel
theorem dX3_parseInBrackets_35 : decode cX3_parseInBrackets 35 = .ok (.bipush 41, 2) := by decide +kernel
theorem dX3_parseInBrackets_37 : decode cX3_parseInBrackets 37 = .ok (.invokevirtual 89, 3) := by decide +kernel
theorem dX3_parseInBrackets_40 : decode cX3_parseInBrackets 40 = .ok (.aload_n 0, 1) := by decide +kernel
theorem dX3_parseInBrackets_41 : decode cX3_parseInBrackets 41 = .ok (.getfield 19, 3) := by decide +kernel
theorem dX3_parseInBrackets_44 : decode cX3_parseInBrackets 44 = .ok (.bipush 6, 2) := by decide +kernel
theorem dX3_parseInBrackets_46 : decode cX3_parseInBrackets 46 = .ok (.iload_n 1, 1) := by decide +kernel
theorem dX3_parseInBrackets_47 : decode cX3_parseInBrackets 47 = .ok (.iload_n 3, 1) := by decide +kernel
theorem dX3_parseInBrackets_48 : decode cX3_parseInBrackets 48 = .ok (.iload 4, 2) := by decide +kernel
theorem dX3_parseInBrackets_50 : decode cX3_parseInBrackets 50 = .ok (.iconst (-1), 1) := by decide +kernel
theorem dX3_parseInBrackets_51 : decode cX3_parseInBrackets 51 = .ok (.invokevirtual 154, 3) := by decide +kernel
theorem dX3_parseInBrackets_54 : decode cX3_parseInBrackets 54 = .ok (.ireturn, 1) := by decide +kernel
noncomputable def fX3_parseInBrackets (r_X3_parseE : Int32 → mv_M → Option (Int32 × mv_M)) (a0 : Int32) (a1 : Int32) (M : mv_M) : Option (Int32 × mv_M) :=
  mv_bind (r_X3_parseE a1 M) fun r1 M2 =>
  mv_bind (fX3_kind M2) fun r3 M4 =>
  if r3 = 44 then
    mv_bind (fX3_pass M4) fun _ M5 =>
    mv_bind (r_X3_parseE a1 M5) fun r6 M7 =>
    mv_bind (fX3_take 41 M7) fun _ M8 =>
    mv_getp (M8.2.2 3 2) fun b9 =>
    mv_bind (fX4_addNode b9 6 a0 r1 r6 (-1) M8) fun r10 M11 =>
    some (r10, M11)
  else
    mv_bind (fX3_take 41 M4) fun _ M12 =>
    some (r1, M12)
set_option maxRecDepth 100000 in
set_option maxHeartbeats 4000000 in
theorem zX3_parseInBrackets {l : Launch} {d : Nat} {Q : Int32 → mv_M → Prop} {r_X3_parseE : Int32 → mv_M → Option (Int32 × mv_M)} (hd : 5 ≤ d) (hr_X3_parseE : ∀ (a0 : Int32) (M : mv_M) (Q : Int32 → mv_M → Prop), mv_ok (r_X3_parseE a0 M) Q → mv l mX3_parseE (d - 1) 0 0 (lv_args 0 [.ref 3, .int a0]) [] M (mv_qI Q)) (a0 : Int32) (a1 : Int32) (M : mv_M) (h : mv_ok (fX3_parseInBrackets r_X3_parseE a0 a1 M) Q) : mv l mX3_parseInBrackets d 0 0 (lv_args 0 [.ref 3, .int a0, .int a1]) [] M (mv_qI Q) := by
  unfold fX3_parseInBrackets at h
  show mv l mX3_parseInBrackets d 0 0 [(0, .ref 3), (1, .int a0), (2, .int a1)] [] M (mv_qI Q)
  refine mv_aload_n 0 dX3_parseInBrackets_0 rfl ?_
  refine mv_iload_n 2 dX3_parseInBrackets_1 rfl ?_
  refine mv_cvI (As := [.int a1]) (st := []) okX3_parseE lX3_105 (by decide) rfl rfl rfl (Nat.le_of_ble_eq_true rfl) rfl (Nat.le_of_ble_eq_true rfl) dX3_parseInBrackets_2 (by omega) rfl (hr_X3_parseE a1 M _ (mv_bindE h)) (fun r1 M2 h => ?_)
  refine mv_istore_n [(3, .int r1), (0, .ref 3), (1, .int a0), (2, .int a1)] dX3_parseInBrackets_5 (by decide) rfl ?_
  refine mv_aload_n 1 dX3_parseInBrackets_6 rfl ?_
  refine mv_cvI (As := []) (st := []) okX3_kind lX3_35 (by decide) rfl rfl rfl (Nat.le_of_ble_eq_true rfl) rfl (Nat.le_of_ble_eq_true rfl) dX3_parseInBrackets_7 (by omega) rfl (zX3_kind (d := d - 1) (by omega) M2 (mv_bindE h)) (fun r3 M4 h => ?_)
  refine mv_bipush 44 dX3_parseInBrackets_10 (by decide) ?_
  refine mv_icmp_eq 23 dX3_parseInBrackets_12 (by decide) (fun z => ?_) (fun z => ?_)
  · replace h := mv_ifT z h
    refine mv_aload_n 1 dX3_parseInBrackets_23 rfl ?_
    refine mv_cvV (As := []) (st := []) okX3_pass lX3_61 (by decide) rfl rfl rfl (Nat.le_of_ble_eq_true rfl) rfl (Nat.le_of_ble_eq_true rfl) dX3_parseInBrackets_24 (by omega) rfl (zX3_pass (d := d - 1) (by omega) M4 (mv_bindE h)) (fun _ M5 h => ?_)
    refine mv_aload_n 1 dX3_parseInBrackets_27 rfl ?_
    refine mv_iload_n 3 dX3_parseInBrackets_28 rfl ?_
    refine mv_cvI (As := [.int a1]) (st := []) okX3_parseE lX3_105 (by decide) rfl rfl rfl (Nat.le_of_ble_eq_true rfl) rfl (Nat.le_of_ble_eq_true rfl) dX3_parseInBrackets_29 (by omega) rfl (hr_X3_parseE a1 M5 _ (mv_bindE h)) (fun r6 M7 h => ?_)
    refine mv_istore [(4, .int r6), (3, .int r1), (0, .ref 3), (1, .int a0), (2, .int a1)] dX3_parseInBrackets_32 (by decide) rfl ?_
    refine mv_aload_n 2 dX3_parseInBrackets_34 rfl ?_
    refine mv_bipush 41 dX3_parseInBrackets_35 (by decide) ?_
    refine mv_cvV (As := [.int 41]) (st := []) okX3_take lX3_89 (by decide) rfl rfl rfl (Nat.le_of_ble_eq_true rfl) rfl (Nat.le_of_ble_eq_true rfl) dX3_parseInBrackets_37 (by omega) rfl (zX3_take (d := d - 1) (by omega) 41 M7 (mv_bindE h)) (fun _ M8 h => ?_)
    refine mv_aload_n 2 dX3_parseInBrackets_40 rfl ?_
    obtain ⟨b9, eb9, hb9, h⟩ := mv_getpE h
    refine mv_getP b9 fX3_19 (by decide) rfl rfl eb9 dX3_parseInBrackets_41 ?_
    refine mv_bipush 6 dX3_parseInBrackets_44 (by decide) ?_
    refine mv_iload_n 3 dX3_parseInBrackets_46 rfl ?_
    refine mv_iload_n 1 dX3_parseInBrackets_47 rfl ?_
    refine mv_iload 0 dX3_parseInBrackets_48 rfl ?_
    refine mv_iconst (-1) dX3_parseInBrackets_50 (by decide) ?_
    refine mv_cvI (As := [.int 6, .int a0, .int r1, .int r6, .int (-1)]) (st := []) okX4_addNode lX3_154 (mv_pN (t := 0) hb9 (by decide)) (by rcases hb9 with rfl | rfl <;> rfl) rfl rfl (Nat.le_of_ble_eq_true rfl) rfl (Nat.le_of_ble_eq_true rfl) dX3_parseInBrackets_51 (by omega) rfl (zX4_addNode (d := d - 1) (by omega) b9 6 a0 r1 r6 (-1) M8 hb9 (mv_bindE h)) (fun r10 M11 h => ?_)
    exact mv_iret rfl dX3_parseInBrackets_54 ⟨_, rfl, h⟩
  · replace h := mv_ifF z h
    refine mv_aload_n 1 dX3_parseInBrackets_15 rfl ?_
    refine mv_bipush 41 dX3_parseInBrackets_16 (by decide) ?_
    refine mv_cvV (As := [.int 41]) (st := []) okX3_take lX3_89 (by decide) rfl rfl rfl (Nat.le_of_ble_eq_true rfl) rfl (Nat.le_of_ble_eq_true rfl) dX3_parseInBrackets_18 (by omega) rfl (zX3_take (d := d - 1) (by omega) 41 M4 (mv_bindE h)) (fun _ M12 h => ?_)
    refine mv_iload_n 0 dX3_parseInBrackets_21 rfl ?_
    exact mv_iret rfl dX3_parseInBrackets_22 ⟨_, rfl, h⟩
theorem dX3_parseCall_0 : decode cX3_parseCall 0 = .ok (.aload_n 0, 1) := by decide +kernel
theorem dX3_parseCall_1 : decode cX3_parseCall 1 = .ok (.invokevirtual 61, 3) := by decide +kernel
theorem dX3_parseCall_4 : decode cX3_parseCall 4 = .ok (.iconst (-1), 1) := by decide +kernel
theorem dX3_parseCall_5 : decode cX3_parseCall 5 = .ok (.istore_n 3, 1) := by decide +kernel
theorem dX3_parseCall_6 : decode cX3_parseCall 6 = .ok (.iconst 0, 1) := by decide +kernel
theorem dX3_parseCall_7 : decode cX3_parseCall 7 = .ok (.istore 4, 2) := by decide +kernel
theorem dX3_parseCall_9 : decode cX3_parseCall 9 = .ok (.aload_n 0, 1) := by decide +kernel
theorem dX3_parseCall_10 : decode cX3_parseCall 10 = .ok (.invokevirtual 35, 3) := by decide +kernel
theorem dX3_parseCall_13 : decode cX3_parseCall 13 = .ok (.bipush 41, 2) := by decide +kernel
theorem dX3_parseCall_15 : decode cX3_parseCall 15 = .ok (.if_icmp .eq 12, 3) := by decide +kernel
theorem dX3_parseCall_18 : decode cX3_parseCall 18 = .ok (.aload_n 0, 1) := by decide +kernel
theorem dX3_parseCall_19 : decode cX3_parseCall 19 = .ok (.iload_n 2, 1) := by decide +kernel
theorem dX3_parseCall_20 : decode cX3_parseCall 20 = .ok (.invokevirtual 105, 3) := by decide +kernel
theorem dX3_parseCall_23 : decode cX3_parseCall 23 = .ok (.istore_n 3, 1) := by decide +kernel
theorem dX3_parseCall_24 : decode cX3_parseCall 24 = .ok (.iconst 1, 1) := by decide +kernel
theorem dX3_parseCall_25 : decode cX3_parseCall 25 = .ok (.istore 4, 2) := by decide +kernel
theorem dX3_parseCall_27 : decode cX3_parseCall 27 = .ok (.iload_n 3, 1) := by decide +kernel
theorem dX3_parseCall_28 : decode cX3_parseCall 28 = .ok (.istore 5, 2) := by decide +kernel
theorem dX3_parseCall_30 : decode cX3_parseCall 30 = .ok (.iload 4, 2) := by decide +kernel
theorem dX3_parseCall_32 : decode cX3_parseCall 32 = .ok (.ifCond .le 65, 3) := by decide +kernel
theorem dX3_parseCall_35 : decode cX3_parseCall 35 = .ok (.iload 4, 2) := by decide +kernel
theorem dX3_parseCall_37 : decode cX3_parseCall 37 = .ok (.sipush 1000, 3) := by decide +kernel
theorem dX3_parseCall_40 : decode cX3_parseCall 40 = .ok (.if_icmp .gt 57, 3) := by decide +kernel
theorem dX3_parseCall_43 : decode cX3_parseCall 43 = .ok (.aload_n 0, 1) := by decide +kernel
theorem dX3_parseCall_44 : decode cX3_parseCall 44 = .ok (.invokevirtual 35, 3) := by decide +kernel
theorem dX3_parseCall_47 : decode cX3_parseCall 47 = .ok (.bipush 44, 2) := by decide +kernel
theorem dX3_parseCall_49 : decode cX3_parseCall 49 = .ok (.if_icmp .ne 48, 3) := by decide +kernel
theorem dX3_parseCall_52 : decode cX3_parseCall 52 = .ok (.aload_n 0, 1) := by decide +kernel
theorem dX3_parseCall_53 : decode cX3_parseCall 53 = .ok (.invokevirtual 61, 3) := by decide +kernel
theorem dX3_parseCall_56 : decode cX3_parseCall 56 = .ok (.aload_n 0, 1) := by decide +kernel
theorem dX3_parseCall_57 : decode cX3_parseCall 57 = .ok (.iload_n 2, 1) := by decide +kernel
theorem dX3_parseCall_58 : decode cX3_parseCall 58 = .ok (.invokevirtual 105, 3) := by decide +kernel
theorem dX3_parseCall_61 : decode cX3_parseCall 61 = .ok (.istore 6, 2) := by decide +kernel
theorem dX3_parseCall_63 : decode cX3_parseCall 63 = .ok (.aload_n 0, 1) := by decide +kernel
theorem dX3_parseCall_64 : decode cX3_parseCall 64 = .ok (.getfield 19, 3) := by decide +kernel
theorem dX3_parseCall_67 : decode cX3_parseCall 67 = .ok (.iload 5, 2) := by decide +kernel
theorem dX3_parseCall_69 : decode cX3_parseCall 69 = .ok (.invokevirtual 165, 3) := by decide +kernel
theorem dX3_parseCall_72 : decode cX3_parseCall 72 = .ok (.ifCond .eq 15, 3) := by decide +kernel
theorem dX3_parseCall_75 : decode cX3_parseCall 75 = .ok (.aload_n 0, 1) := by decide +kernel
theorem dX3_parseCall_76 : decode cX3_parseCall 76 = .ok (.getfield 19, 3) := by decide +kernel
theorem dX3_parseCall_79 : decode cX3_parseCall 79 = .ok (.getfield 183, 3) := by decide +kernel
theorem dX3_parseCall_82 : decode cX3_parseCall 82 = .ok (.iload 5, 2) := by decide +kernel
theorem dX3_parseCall_84 : decode cX3_parseCall 84 = .ok (.iload 6, 2) := by decide +kernel
theorem dX3_parseCall_86 : decode cX3_parseCall 86 = .ok (.iastore, 1) := by decide +kernel
theorem dX3_parseCall_87 : decode cX3_parseCall 87 = .ok (.iload 6, 2) := by decide +kernel
theorem dX3_parseCall_89 : decode cX3_parseCall 89 = .ok (.istore 5, 2) := by decide +kernel
theorem dX3_parseCall_91 : decode cX3_parseCall 91 = .ok (.iinc 4 1, 3) := by decide +kernel
theorem dX3_parseCall_94 : decode cX3_parseCall 94 = .ok (.goto (-64), 3) := by decide +kernel
theorem dX3_parseCall_97 : decode cX3_parseCall 97 = .ok (.aload_n 0, 1) := by decide +kernel
theorem dX3_parseCall_98 : decode cX3_parseCall 98 = .ok (.bipush 41, 2) := by decide +kernel
theorem dX3_parseCall_100 : decode cX3_parseCall 100 = .ok (.invokevirtual 89, 3) := by decide +kernel
theorem dX3_parseCall_103 : decode cX3_parseCall 103 = .ok (.aload_n 0, 1) := by decide +kernel
theorem dX3_parseCall_104 : decode cX3_parseCall 104 = .ok (.getfield 19, 3) := by decide +kernel
theorem dX3_parseCall_107 : decode cX3_parseCall 107 = .ok (.iconst 5, 1) := by decide +kernel
theorem dX3_parseCall_108 : decode cX3_parseCall 108 = .ok (.iload_n 1, 1) := by decide +kernel
theorem dX3_parseCall_109 : decode cX3_parseCall 109 = .ok (.iconst (-1), 1) := by decide +kernel
theorem dX3_parseCall_110 : decode cX3_parseCall 110 = .ok (.iload_n 3, 1) := by decide +kernel
theorem dX3_parseCall_111 : decode cX3_parseCall 111 = .ok (.iload 4, 2) := by decide +kernel
theorem dX3_parseCall_113 : decode cX3_parseCall 113 = .ok (.invokevirtual 154, 3) := by decide +kernel
theorem dX3_parseCall_116 : decode cX3_parseCall 116 = .ok (.ireturn, 1) := by decide +kernel
noncomputable def fX3_parseCall_87 (r_X3_parseE : Int32 → mv_M → Option (Int32 × mv_M)) (x1 : Int32) (x2 : Int32) (x3 : Int32) (x4 : Int32) (x6 : Int32) (M : mv_M) : Option (((Int32 × Int32 × Int32 × Int32 × Int32) ⊕ Int32) × mv_M) :=
  mv_let (x4 + 1) fun v21 =>
  some (.inl (x1, x2, x3, v21, x6), M)
set_option maxRecDepth 100000 in
set_option maxHeartbeats 4000000 in
theorem zX3_parseCall_87 {l : Launch} {d : Nat} {Q : Int32 → mv_M → Prop} {r_X3_parseE : Int32 → mv_M → Option (Int32 × mv_M)} (hd : 5 ≤ d) (hr_X3_parseE : ∀ (a0 : Int32) (M : mv_M) (Q : Int32 → mv_M → Prop), mv_ok (r_X3_parseE a0 M) Q → mv l mX3_parseE (d - 1) 0 0 (lv_args 0 [.ref 3, .int a0]) [] M (mv_qI Q)) (x1 : Int32) (x2 : Int32) (x3 : Int32) (x4 : Int32) (x6 : Int32) (M : mv_M) (h : mv_ok (fX3_parseCall_87 r_X3_parseE x1 x2 x3 x4 x6 M) (mv_pq (fun (s : Int32 × Int32 × Int32 × Int32 × Int32) M => mv l mX3_parseCall d 0 30 [(0, .ref 3), (1, .int s.1), (2, .int s.2.1), (3, .int s.2.2.1), (4, .int s.2.2.2.1), (5, .int s.2.2.2.2)] [] M (mv_qI Q)) Q)) : mv l mX3_parseCall d 0 87 [(0, .ref 3), (1, .int x1), (2, .int x2), (3, .int x3), (4, .int x4), (6, .int x6)] [] M (mv_qI Q) := by
  unfold fX3_parseCall_87 at h
  refine mv_iload 5 dX3_parseCall_87 rfl ?_
  refine mv_istore [(5, .int x6), (0, .ref 3), (1, .int x1), (2, .int x2), (3, .int x3), (4, .int x4), (6, .int x6)] dX3_parseCall_89 (by decide) rfl ?_
  obtain ⟨v21, ev21⟩ : ∃ z : Int32, z = x4 + 1 := ⟨_, rfl⟩
  replace h := mv_letE h v21 ev21
  refine mv_iinc v21 5 [(4, .int v21), (5, .int x6), (0, .ref 3), (1, .int x1), (2, .int x2), (3, .int x3), (6, .int x6)] dX3_parseCall_91 rfl (by rw [ev21]; rfl) (by decide) rfl ?_
  refine mv_goto 30 dX3_parseCall_94 (by decide) ?_
  refine mv_sub [2, 3, 4, 5, 0, 1] rfl ?_
  exact h
noncomputable def fX3_parseCall_97 (r_X3_parseE : Int32 → mv_M → Option (Int32 × mv_M)) (x1 : Int32) (x3 : Int32) (x4 : Int32) (M : mv_M) : Option (Int32 × mv_M) :=
  mv_bind (fX3_take 41 M) fun _ M17 =>
  mv_getp (M17.2.2 3 2) fun b18 =>
  mv_bind (fX4_addNode b18 5 x1 (-1) x3 x4 M17) fun r19 M20 =>
  some (r19, M20)
set_option maxRecDepth 100000 in
set_option maxHeartbeats 4000000 in
theorem zX3_parseCall_97 {l : Launch} {d : Nat} {Q : Int32 → mv_M → Prop} {r_X3_parseE : Int32 → mv_M → Option (Int32 × mv_M)} (hd : 5 ≤ d) (hr_X3_parseE : ∀ (a0 : Int32) (M : mv_M) (Q : Int32 → mv_M → Prop), mv_ok (r_X3_parseE a0 M) Q → mv l mX3_parseE (d - 1) 0 0 (lv_args 0 [.ref 3, .int a0]) [] M (mv_qI Q)) (x1 : Int32) (x3 : Int32) (x4 : Int32) (M : mv_M) (h : mv_ok (fX3_parseCall_97 r_X3_parseE x1 x3 x4 M) Q) : mv l mX3_parseCall d 0 97 [(0, .ref 3), (1, .int x1), (3, .int x3), (4, .int x4)] [] M (mv_qI Q) := by
  unfold fX3_parseCall_97 at h
  refine mv_aload_n 0 dX3_parseCall_97 rfl ?_
  refine mv_bipush 41 dX3_parseCall_98 (by decide) ?_
  refine mv_cvV (As := [.int 41]) (st := []) okX3_take lX3_89 (by decide) rfl rfl rfl (Nat.le_of_ble_eq_true rfl) rfl (Nat.le_of_ble_eq_true rfl) dX3_parseCall_100 (by omega) rfl (zX3_take (d := d - 1) (by omega) 41 M (mv_bindE h)) (fun _ M17 h => ?_)
  refine mv_aload_n 0 dX3_parseCall_103 rfl ?_
  obtain ⟨b18, eb18, hb18, h⟩ := mv_getpE h
  refine mv_getP b18 fX3_19 (by decide) rfl rfl eb18 dX3_parseCall_104 ?_
  refine mv_iconst 5 dX3_parseCall_107 (by decide) ?_
  refine mv_iload_n 1 dX3_parseCall_108 rfl ?_
  refine mv_iconst (-1) dX3_parseCall_109 (by decide) ?_
  refine mv_iload_n 2 dX3_parseCall_110 rfl ?_
  refine mv_iload 3 dX3_parseCall_111 rfl ?_
  refine mv_cvI (As := [.int 5, .int x1, .int (-1), .int x3, .int x4]) (st := []) okX4_addNode lX3_154 (mv_pN (t := 0) hb18 (by decide)) (by rcases hb18 with rfl | rfl <;> rfl) rfl rfl (Nat.le_of_ble_eq_true rfl) rfl (Nat.le_of_ble_eq_true rfl) dX3_parseCall_113 (by omega) rfl (zX4_addNode (d := d - 1) (by omega) b18 5 x1 (-1) x3 x4 M17 hb18 (mv_bindE h)) (fun r19 M20 h => ?_)
  exact mv_iret rfl dX3_parseCall_116 ⟨_, rfl, h⟩
noncomputable def gX3_parseCall_30 (r_X3_parseE : Int32 → mv_M → Option (Int32 × mv_M)) (x1 : Int32) (x2 : Int32) (x3 : Int32) (x4 : Int32) (x5 : Int32) (M : mv_M) : Option (((Int32 × Int32 × Int32 × Int32 × Int32) ⊕ Int32) × mv_M) :=
  if x4 ≤ 0 then
    mv_inr (fX3_parseCall_97 r_X3_parseE x1 x3 x4 M)
  else
    if 1000 < x4 then
      mv_inr (fX3_parseCall_97 r_X3_parseE x1 x3 x4 M)
    else
      mv_bind (fX3_kind M) fun r6 M7 =>
      if r6 = 44 then
        mv_bind (fX3_pass M7) fun _ M8 =>
        mv_bind (r_X3_parseE x2 M8) fun r9 M10 =>
        mv_getp (M10.2.2 3 2) fun b11 =>
        mv_bind (fX4_hasNode b11 x5 M10) fun r12 M13 =>
        if r12 = 0 then
          fX3_parseCall_87 r_X3_parseE x1 x2 x3 x4 r9 M13
        else
          mv_getp (M13.2.2 3 2) fun b14 =>
          mv_chk (mv_inb x5 1000) <|
          mv_let (mv_si M13 (b14 + 12) x5.toNatClampNeg r9) fun M16 =>
          fX3_parseCall_87 r_X3_parseE x1 x2 x3 x4 r9 M16
      else
        mv_inr (fX3_parseCall_97 r_X3_parseE x1 x3 x4 M7)
noncomputable def fX3_parseCall_30 (r_X3_parseE : Int32 → mv_M → Option (Int32 × mv_M)) (x1 : Int32) (x2 : Int32) (x3 : Int32) (x4 : Int32) (x5 : Int32) (M : mv_M) : Option (Int32 × mv_M) := mv_loop (fun (s : Int32 × Int32 × Int32 × Int32 × Int32) M => gX3_parseCall_30 r_X3_parseE s.1 s.2.1 s.2.2.1 s.2.2.2.1 s.2.2.2.2 M) (x1, x2, x3, x4, x5) M
set_option maxRecDepth 100000 in
set_option maxHeartbeats 4000000 in
theorem zX3_parseCall_30 {l : Launch} {d : Nat} {Q : Int32 → mv_M → Prop} {r_X3_parseE : Int32 → mv_M → Option (Int32 × mv_M)} (hd : 5 ≤ d) (hr_X3_parseE : ∀ (a0 : Int32) (M : mv_M) (Q : Int32 → mv_M → Prop), mv_ok (r_X3_parseE a0 M) Q → mv l mX3_parseE (d - 1) 0 0 (lv_args 0 [.ref 3, .int a0]) [] M (mv_qI Q)) (x1 : Int32) (x2 : Int32) (x3 : Int32) (x4 : Int32) (x5 : Int32) (M : mv_M) (h : mv_ok (fX3_parseCall_30 r_X3_parseE x1 x2 x3 x4 x5 M) Q) : mv l mX3_parseCall d 0 30 [(0, .ref 3), (1, .int x1), (2, .int x2), (3, .int x3), (4, .int x4), (5, .int x5)] [] M (mv_qI Q) := by
  unfold fX3_parseCall_30 at h
  refine mv_loopE (A := (fun (s : Int32 × Int32 × Int32 × Int32 × Int32) M => mv l mX3_parseCall d 0 30 [(0, .ref 3), (1, .int s.1), (2, .int s.2.1), (3, .int s.2.2.1), (4, .int s.2.2.2.1), (5, .int s.2.2.2.2)] [] M (mv_qI Q))) ?_ (x1, x2, x3, x4, x5) M h
  · rintro ⟨x1, x2, x3, x4, x5⟩ M h
    try dsimp only at h
    show mv l mX3_parseCall d 0 30 [(0, .ref 3), (1, .int x1), (2, .int x2), (3, .int x3), (4, .int x4), (5, .int x5)] [] M (mv_qI Q)
    unfold gX3_parseCall_30 at h
    refine mv_iload 4 dX3_parseCall_30 rfl ?_
    refine mv_if_le 97 dX3_parseCall_32 (by decide) (fun z => ?_) (fun z => ?_)
    · replace h := mv_ifT z h
      refine mv_sub [0, 1, 3, 4] rfl ?_
      exact zX3_parseCall_97 hd hr_X3_parseE x1 x3 x4 M (mv_inrE h)
    · replace h := mv_ifF z h
      refine mv_iload 4 dX3_parseCall_35 rfl ?_
      refine mv_sipush 1000 dX3_parseCall_37 (by decide) ?_
      refine mv_icmp_gt 97 dX3_parseCall_40 (by decide) (fun z => ?_) (fun z => ?_)
      · replace h := mv_ifT z h
        refine mv_sub [0, 1, 3, 4] rfl ?_
        exact zX3_parseCall_97 hd hr_X3_parseE x1 x3 x4 M (mv_inrE h)
      · replace h := mv_ifF z h
        refine mv_aload_n 0 dX3_parseCall_43 rfl ?_
        refine mv_cvI (As := []) (st := []) okX3_kind lX3_35 (by decide) rfl rfl rfl (Nat.le_of_ble_eq_true rfl) rfl (Nat.le_of_ble_eq_true rfl) dX3_parseCall_44 (by omega) rfl (zX3_kind (d := d - 1) (by omega) M (mv_bindE h)) (fun r6 M7 h => ?_)
        refine mv_bipush 44 dX3_parseCall_47 (by decide) ?_
        refine mv_icmp_ne 97 dX3_parseCall_49 (by decide) (fun z => ?_) (fun z => ?_)
        · replace h := mv_ifF z h
          refine mv_sub [0, 1, 3, 4] rfl ?_
          exact zX3_parseCall_97 hd hr_X3_parseE x1 x3 x4 M7 (mv_inrE h)
        · replace h := mv_ifT z h
          refine mv_aload_n 0 dX3_parseCall_52 rfl ?_
          refine mv_cvV (As := []) (st := []) okX3_pass lX3_61 (by decide) rfl rfl rfl (Nat.le_of_ble_eq_true rfl) rfl (Nat.le_of_ble_eq_true rfl) dX3_parseCall_53 (by omega) rfl (zX3_pass (d := d - 1) (by omega) M7 (mv_bindE h)) (fun _ M8 h => ?_)
          refine mv_aload_n 0 dX3_parseCall_56 rfl ?_
          refine mv_iload_n 2 dX3_parseCall_57 rfl ?_
          refine mv_cvI (As := [.int x2]) (st := []) okX3_parseE lX3_105 (by decide) rfl rfl rfl (Nat.le_of_ble_eq_true rfl) rfl (Nat.le_of_ble_eq_true rfl) dX3_parseCall_58 (by omega) rfl (hr_X3_parseE x2 M8 _ (mv_bindE h)) (fun r9 M10 h => ?_)
          refine mv_istore [(6, .int r9), (0, .ref 3), (1, .int x1), (2, .int x2), (3, .int x3), (4, .int x4), (5, .int x5)] dX3_parseCall_61 (by decide) rfl ?_
          refine mv_aload_n 1 dX3_parseCall_63 rfl ?_
          obtain ⟨b11, eb11, hb11, h⟩ := mv_getpE h
          refine mv_getP b11 fX3_19 (by decide) rfl rfl eb11 dX3_parseCall_64 ?_
          refine mv_iload 6 dX3_parseCall_67 rfl ?_
          refine mv_cvI (As := [.int x5]) (st := []) okX4_hasNode lX3_165 (mv_pN (t := 0) hb11 (by decide)) (by rcases hb11 with rfl | rfl <;> rfl) rfl rfl (Nat.le_of_ble_eq_true rfl) rfl (Nat.le_of_ble_eq_true rfl) dX3_parseCall_69 (by omega) rfl (zX4_hasNode (d := d - 1) (by omega) b11 x5 M10 hb11 (mv_bindE h)) (fun r12 M13 h => ?_)
          refine mv_if_eq 87 dX3_parseCall_72 (by decide) (fun z => ?_) (fun z => ?_)
          · replace h := mv_ifT z h
            refine mv_sub [1, 2, 3, 4, 5, 0] rfl ?_
            exact zX3_parseCall_87 hd hr_X3_parseE x1 x2 x3 x4 r9 M13 h
          · replace h := mv_ifF z h
            refine mv_aload_n 1 dX3_parseCall_75 rfl ?_
            obtain ⟨b14, eb14, hb14, h⟩ := mv_getpE h
            refine mv_getP b14 fX3_19 (by decide) rfl rfl eb14 dX3_parseCall_76 ?_
            refine mv_getR (b14 + 12) fX3_183 (mv_pN (t := 0) hb14 (by decide)) (by rcases hb14 with rfl | rfl <;> rfl) rfl (by rcases hb14 with rfl | rfl <;> rfl) dX3_parseCall_79 ?_
            refine mv_iload 6 dX3_parseCall_82 rfl ?_
            refine mv_iload 0 dX3_parseCall_84 rfl ?_
            obtain ⟨hi15, h⟩ := mv_chkE h
            refine mv_ist (mv_pN (t := 12) hb14 (by decide)) (by rcases hb14 with rfl | rfl <;> rfl) (mv_inE hi15) dX3_parseCall_86 (fun M16 eM16 => ?_)
            replace h := mv_letE h M16 eM16
            refine mv_sub [1, 2, 3, 4, 5, 0] rfl ?_
            exact zX3_parseCall_87 hd hr_X3_parseE x1 x2 x3 x4 r9 M16 h
noncomputable def fX3_parseCall_27 (r_X3_parseE : Int32 → mv_M → Option (Int32 × mv_M)) (x1 : Int32) (x2 : Int32) (x3 : Int32) (x4 : Int32) (M : mv_M) : Option (Int32 × mv_M) :=
  fX3_parseCall_30 r_X3_parseE x1 x2 x3 x4 x3 M
set_option maxRecDepth 100000 in
set_option maxHeartbeats 4000000 in
theorem zX3_parseCall_27 {l : Launch} {d : Nat} {Q : Int32 → mv_M → Prop} {r_X3_parseE : Int32 → mv_M → Option (Int32 × mv_M)} (hd : 5 ≤ d) (hr_X3_parseE : ∀ (a0 : Int32) (M : mv_M) (Q : Int32 → mv_M → Prop), mv_ok (r_X3_parseE a0 M) Q → mv l mX3_parseE (d - 1) 0 0 (lv_args 0 [.ref 3, .int a0]) [] M (mv_qI Q)) (x1 : Int32) (x2 : Int32) (x3 : Int32) (x4 : Int32) (M : mv_M) (h : mv_ok (fX3_parseCall_27 r_X3_parseE x1 x2 x3 x4 M) Q) : mv l mX3_parseCall d 0 27 [(0, .ref 3), (1, .int x1), (2, .int x2), (3, .int x3), (4, .int x4)] [] M (mv_qI Q) := by
  unfold fX3_parseCall_27 at h
  refine mv_iload_n 3 dX3_parseCall_27 rfl ?_
  refine mv_istore [(5, .int x3), (0, .ref 3), (1, .int x1), (2, .int x2), (3, .int x3), (4, .int x4)] dX3_parseCall_28 (by decide) rfl ?_
  refine mv_sub [1, 2, 3, 4, 5, 0] rfl ?_
  exact zX3_parseCall_30 hd hr_X3_parseE x1 x2 x3 x4 x3 M h
noncomputable def fX3_parseCall (r_X3_parseE : Int32 → mv_M → Option (Int32 × mv_M)) (a0 : Int32) (a1 : Int32) (M : mv_M) : Option (Int32 × mv_M) :=
  mv_bind (fX3_pass M) fun _ M1 =>
  mv_bind (fX3_kind M1) fun r2 M3 =>
  if r2 = 41 then
    fX3_parseCall_27 r_X3_parseE a0 a1 (-1) 0 M3
  else
    mv_bind (r_X3_parseE a1 M3) fun r4 M5 =>
    fX3_parseCall_27 r_X3_parseE a0 a1 r4 1 M5
set_option maxRecDepth 100000 in
set_option maxHeartbeats 4000000 in
theorem zX3_parseCall {l : Launch} {d : Nat} {Q : Int32 → mv_M → Prop} {r_X3_parseE : Int32 → mv_M → Option (Int32 × mv_M)} (hd : 5 ≤ d) (hr_X3_parseE : ∀ (a0 : Int32) (M : mv_M) (Q : Int32 → mv_M → Prop), mv_ok (r_X3_parseE a0 M) Q → mv l mX3_parseE (d - 1) 0 0 (lv_args 0 [.ref 3, .int a0]) [] M (mv_qI Q)) (a0 : Int32) (a1 : Int32) (M : mv_M) (h : mv_ok (fX3_parseCall r_X3_parseE a0 a1 M) Q) : mv l mX3_parseCall d 0 0 (lv_args 0 [.ref 3, .int a0, .int a1]) [] M (mv_qI Q) := by
  unfold fX3_parseCall at h
  show mv l mX3_parseCall d 0 0 [(0, .ref 3), (1, .int a0), (2, .int a1)] [] M (mv_qI Q)
  refine mv_aload_n 0 dX3_parseCall_0 rfl ?_
  refine mv_cvV (As := []) (st := []) okX3_pass lX3_61 (by decide) rfl rfl rfl (Nat.le_of_ble_eq_true rfl) rfl (Nat.le_of_ble_eq_true rfl) dX3_parseCall_1 (by omega) rfl (zX3_pass (d := d - 1) (by omega) M (mv_bindE h)) (fun _ M1 h => ?_)
  refine mv_iconst (-1) dX3_parseCall_4 (by decide) ?_
  refine mv_istore_n [(3, .int (-1)), (0, .ref 3), (1, .int a0), (2, .int a1)] dX3_parseCall_5 (by decide) rfl ?_
  refine mv_iconst 0 dX3_parseCall_6 (by decide) ?_
  refine mv_istore [(4, .int 0), (3, .int (-1)), (0, .ref 3), (1, .int a0), (2, .int a1)] dX3_parseCall_7 (by decide) rfl ?_
  refine mv_aload_n 2 dX3_parseCall_9 rfl ?_
  refine mv_cvI (As := []) (st := []) okX3_kind lX3_35 (by decide) rfl rfl rfl (Nat.le_of_ble_eq_true rfl) rfl (Nat.le_of_ble_eq_true rfl) dX3_parseCall_10 (by omega) rfl (zX3_kind (d := d - 1) (by omega) M1 (mv_bindE h)) (fun r2 M3 h => ?_)
  refine mv_bipush 41 dX3_parseCall_13 (by decide) ?_
  refine mv_icmp_eq 27 dX3_parseCall_15 (by decide) (fun z => ?_) (fun z => ?_)
  · replace h := mv_ifT z h
    refine mv_sub [2, 3, 4, 1, 0] rfl ?_
    exact zX3_parseCall_27 hd hr_X3_parseE a0 a1 (-1) 0 M3 h
  · replace h := mv_ifF z h
    refine mv_aload_n 2 dX3_parseCall_18 rfl ?_
    refine mv_iload_n 4 dX3_parseCall_19 rfl ?_
    refine mv_cvI (As := [.int a1]) (st := []) okX3_parseE lX3_105 (by decide) rfl rfl rfl (Nat.le_of_ble_eq_true rfl) rfl (Nat.le_of_ble_eq_true rfl) dX3_parseCall_20 (by omega) rfl (hr_X3_parseE a1 M3 _ (mv_bindE h)) (fun r4 M5 h => ?_)
    refine mv_istore_n [(3, .int r4), (4, .int 0), (0, .ref 3), (1, .int a0), (2, .int a1)] dX3_parseCall_23 (by decide) rfl ?_
    refine mv_iconst 1 dX3_parseCall_24 (by decide) ?_
    refine mv_istore [(4, .int 1), (3, .int r4), (0, .ref 3), (1, .int a0), (2, .int a1)] dX3_parseCall_25 (by decide) rfl ?_
    refine mv_sub [2, 3, 4, 1, 0] rfl ?_
    exact zX3_parseCall_27 hd hr_X3_parseE a0 a1 r4 1 M5 h
noncomputable def RX3_parseE : Nat → Nat → Int32 → Int32 → mv_M → Option (Int32 × mv_M)
  | 0, _, _, _, _ => none
  | n + 1, s, a0, a1, M =>
    if s = 0 then fX3_parseE (fun a0 M => RX3_parseE n 2 a0 0 M) (fun a0 M => RX3_parseE n 3 a0 0 M) (fun a0 M => RX3_parseE n 1 a0 0 M) (fun a0 a1 M => RX3_parseE n 4 a0 a1 M) a0 M else
    if s = 1 then fX3_parseLet (fun a0 M => RX3_parseE n 0 a0 0 M) a0 M else
    if s = 2 then fX3_parseCase (fun a0 M => RX3_parseE n 0 a0 0 M) a0 M else
    if s = 3 then fX3_parseIf (fun a0 M => RX3_parseE n 0 a0 0 M) a0 M else
    if s = 4 then fX3_parseSides (fun a0 M => RX3_parseE n 5 a0 0 M) (fun a0 a1 M => RX3_parseE n 4 a0 a1 M) a0 a1 M else
    if s = 5 then fX3_parseAtom (fun a0 a1 M => RX3_parseE n 7 a0 a1 M) (fun a0 a1 M => RX3_parseE n 6 a0 a1 M) a0 M else
    if s = 6 then fX3_parseInBrackets (fun a0 M => RX3_parseE n 0 a0 0 M) a0 a1 M else
    fX3_parseCall (fun a0 M => RX3_parseE n 0 a0 0 M) a0 a1 M
set_option maxRecDepth 100000 in
theorem zRX3_parseE {l : Launch} : ∀ (n d : Nat), n + 21 ≤ d → (∀ (a0 : Int32) (M : mv_M) (Q : Int32 → mv_M → Prop), mv_ok (RX3_parseE n 0 a0 0 M) Q → mv l mX3_parseE d 0 0 (lv_args 0 [.ref 3, .int a0]) [] M (mv_qI Q)) ∧ (∀ (a0 : Int32) (M : mv_M) (Q : Int32 → mv_M → Prop), mv_ok (RX3_parseE n 1 a0 0 M) Q → mv l mX3_parseLet d 0 0 (lv_args 0 [.ref 3, .int a0]) [] M (mv_qI Q)) ∧ (∀ (a0 : Int32) (M : mv_M) (Q : Int32 → mv_M → Prop), mv_ok (RX3_parseE n 2 a0 0 M) Q → mv l mX3_parseCase d 0 0 (lv_args 0 [.ref 3, .int a0]) [] M (mv_qI Q)) ∧ (∀ (a0 : Int32) (M : mv_M) (Q : Int32 → mv_M → Prop), mv_ok (RX3_parseE n 3 a0 0 M) Q → mv l mX3_parseIf d 0 0 (lv_args 0 [.ref 3, .int a0]) [] M (mv_qI Q)) ∧ (∀ (a0 : Int32) (a1 : Int32) (M : mv_M) (Q : Int32 → mv_M → Prop), mv_ok (RX3_parseE n 4 a0 a1 M) Q → mv l mX3_parseSides d 0 0 (lv_args 0 [.ref 3, .int a0, .int a1]) [] M (mv_qI Q)) ∧ (∀ (a0 : Int32) (M : mv_M) (Q : Int32 → mv_M → Prop), mv_ok (RX3_parseE n 5 a0 0 M) Q → mv l mX3_parseAtom d 0 0 (lv_args 0 [.ref 3, .int a0]) [] M (mv_qI Q)) ∧ (∀ (a0 : Int32) (a1 : Int32) (M : mv_M) (Q : Int32 → mv_M → Prop), mv_ok (RX3_parseE n 6 a0 a1 M) Q → mv l mX3_parseInBrackets d 0 0 (lv_args 0 [.ref 3, .int a0, .int a1]) [] M (mv_qI Q)) ∧ (∀ (a0 : Int32) (a1 : Int32) (M : mv_M) (Q : Int32 → mv_M → Prop), mv_ok (RX3_parseE n 7 a0 a1 M) Q → mv l mX3_parseCall d 0 0 (lv_args 0 [.ref 3, .int a0, .int a1]) [] M (mv_qI Q)) := by
  intro n
  induction n with
  | zero =>
    intro d hd
    exact ⟨(fun _ _ _ h => by rw [RX3_parseE] at h; exact False.elim h), (fun _ _ _ h => by rw [RX3_parseE] at h; exact False.elim h), (fun _ _ _ h => by rw [RX3_parseE] at h; exact False.elim h), (fun _ _ _ h => by rw [RX3_parseE] at h; exact False.elim h), (fun _ _ _ _ h => by rw [RX3_parseE] at h; exact False.elim h), (fun _ _ _ h => by rw [RX3_parseE] at h; exact False.elim h), (fun _ _ _ _ h => by rw [RX3_parseE] at h; exact False.elim h), (fun _ _ _ _ h => by rw [RX3_parseE] at h; exact False.elim h)⟩
  | succ n ih =>
    intro d hd
    have hi := ih (d - 1) (by omega)
    refine ⟨?_, ?_, ?_, ?_, ?_, ?_, ?_, ?_⟩
    · intro a0 M Q h
      rw [RX3_parseE] at h
      replace h := mv_ifT rfl h
      exact zX3_parseE (by omega) hi.2.2.1 hi.2.2.2.1 hi.2.1 hi.2.2.2.2.1 a0 M h
    · intro a0 M Q h
      rw [RX3_parseE] at h
      replace h := mv_ifF (by decide) h
      replace h := mv_ifT rfl h
      exact zX3_parseLet (by omega) hi.1 a0 M h
    · intro a0 M Q h
      rw [RX3_parseE] at h
      replace h := mv_ifF (by decide) h
      replace h := mv_ifF (by decide) h
      replace h := mv_ifT rfl h
      exact zX3_parseCase (by omega) hi.1 a0 M h
    · intro a0 M Q h
      rw [RX3_parseE] at h
      replace h := mv_ifF (by decide) h
      replace h := mv_ifF (by decide) h
      replace h := mv_ifF (by decide) h
      replace h := mv_ifT rfl h
      exact zX3_parseIf (by omega) hi.1 a0 M h
    · intro a0 a1 M Q h
      rw [RX3_parseE] at h
      replace h := mv_ifF (by decide) h
      replace h := mv_ifF (by decide) h
      replace h := mv_ifF (by decide) h
      replace h := mv_ifF (by decide) h
      replace h := mv_ifT rfl h
      exact zX3_parseSides (by omega) hi.2.2.2.2.2.1 hi.2.2.2.2.1 a0 a1 M h
    · intro a0 M Q h
      rw [RX3_parseE] at h
      replace h := mv_ifF (by decide) h
      replace h := mv_ifF (by decide) h
      replace h := mv_ifF (by decide) h
      replace h := mv_ifF (by decide) h
      replace h := mv_ifF (by decide) h
      replace h := mv_ifT rfl h
      exact zX3_parseAtom (by omega) hi.2.2.2.2.2.2.2 hi.2.2.2.2.2.2.1 a0 M h
    · intro a0 a1 M Q h
      rw [RX3_parseE] at h
      replace h := mv_ifF (by decide) h
      replace h := mv_ifF (by decide) h
      replace h := mv_ifF (by decide) h
      replace h := mv_ifF (by decide) h
      replace h := mv_ifF (by decide) h
      replace h := mv_ifF (by decide) h
      replace h := mv_ifT rfl h
      exact zX3_parseInBrackets (by omega) hi.1 a0 a1 M h
    · intro a0 a1 M Q h
      rw [RX3_parseE] at h
      replace h := mv_ifF (by decide) h
      replace h := mv_ifF (by decide) h
      replace h := mv_ifF (by decide) h
      replace h := mv_ifF (by decide) h
      replace h := mv_ifF (by decide) h
      replace h := mv_ifF (by decide) h
      replace h := mv_ifF (by decide) h
      exact zX3_parseCall (by omega) hi.1 a0 a1 M h

noncomputable def tX3_parseE (a0 : Int32) (M : mv_M) : Option (Int32 × mv_M) := RX3_parseE 220 0 a0 0 M
theorem ztX3_parseE {l : Launch} {d : Nat} {Q : Int32 → mv_M → Prop} (hd : 241 ≤ d) (a0 : Int32) (M : mv_M) (h : mv_ok (tX3_parseE a0 M) Q) : mv l mX3_parseE d 0 0 (lv_args 0 [.ref 3, .int a0]) [] M (mv_qI Q) := (zRX3_parseE 220 d hd).1 a0 M Q h
noncomputable def tX3_parseLet (a0 : Int32) (M : mv_M) : Option (Int32 × mv_M) := RX3_parseE 220 1 a0 0 M
theorem ztX3_parseLet {l : Launch} {d : Nat} {Q : Int32 → mv_M → Prop} (hd : 241 ≤ d) (a0 : Int32) (M : mv_M) (h : mv_ok (tX3_parseLet a0 M) Q) : mv l mX3_parseLet d 0 0 (lv_args 0 [.ref 3, .int a0]) [] M (mv_qI Q) := (zRX3_parseE 220 d hd).2.1 a0 M Q h
noncomputable def tX3_parseCase (a0 : Int32) (M : mv_M) : Option (Int32 × mv_M) := RX3_parseE 220 2 a0 0 M
theorem ztX3_parseCase {l : Launch} {d : Nat} {Q : Int32 → mv_M → Prop} (hd : 241 ≤ d) (a0 : Int32) (M : mv_M) (h : mv_ok (tX3_parseCase a0 M) Q) : mv l mX3_parseCase d 0 0 (lv_args 0 [.ref 3, .int a0]) [] M (mv_qI Q) := (zRX3_parseE 220 d hd).2.2.1 a0 M Q h
noncomputable def tX3_parseIf (a0 : Int32) (M : mv_M) : Option (Int32 × mv_M) := RX3_parseE 220 3 a0 0 M
theorem ztX3_parseIf {l : Launch} {d : Nat} {Q : Int32 → mv_M → Prop} (hd : 241 ≤ d) (a0 : Int32) (M : mv_M) (h : mv_ok (tX3_parseIf a0 M) Q) : mv l mX3_parseIf d 0 0 (lv_args 0 [.ref 3, .int a0]) [] M (mv_qI Q) := (zRX3_parseE 220 d hd).2.2.2.1 a0 M Q h
noncomputable def tX3_parseSides (a0 : Int32) (a1 : Int32) (M : mv_M) : Option (Int32 × mv_M) := RX3_parseE 220 4 a0 a1 M
theorem ztX3_parseSides {l : Launch} {d : Nat} {Q : Int32 → mv_M → Prop} (hd : 241 ≤ d) (a0 : Int32) (a1 : Int32) (M : mv_M) (h : mv_ok (tX3_parseSides a0 a1 M) Q) : mv l mX3_parseSides d 0 0 (lv_args 0 [.ref 3, .int a0, .int a1]) [] M (mv_qI Q) := (zRX3_parseE 220 d hd).2.2.2.2.1 a0 a1 M Q h
noncomputable def tX3_parseAtom (a0 : Int32) (M : mv_M) : Option (Int32 × mv_M) := RX3_parseE 220 5 a0 0 M
theorem ztX3_parseAtom {l : Launch} {d : Nat} {Q : Int32 → mv_M → Prop} (hd : 241 ≤ d) (a0 : Int32) (M : mv_M) (h : mv_ok (tX3_parseAtom a0 M) Q) : mv l mX3_parseAtom d 0 0 (lv_args 0 [.ref 3, .int a0]) [] M (mv_qI Q) := (zRX3_parseE 220 d hd).2.2.2.2.2.1 a0 M Q h
noncomputable def tX3_parseInBrackets (a0 : Int32) (a1 : Int32) (M : mv_M) : Option (Int32 × mv_M) := RX3_parseE 220 6 a0 a1 M
theorem ztX3_parseInBrackets {l : Launch} {d : Nat} {Q : Int32 → mv_M → Prop} (hd : 241 ≤ d) (a0 : Int32) (a1 : Int32) (M : mv_M) (h : mv_ok (tX3_parseInBrackets a0 a1 M) Q) : mv l mX3_parseInBrackets d 0 0 (lv_args 0 [.ref 3, .int a0, .int a1]) [] M (mv_qI Q) := (zRX3_parseE 220 d hd).2.2.2.2.2.2.1 a0 a1 M Q h
noncomputable def tX3_parseCall (a0 : Int32) (a1 : Int32) (M : mv_M) : Option (Int32 × mv_M) := RX3_parseE 220 7 a0 a1 M
theorem ztX3_parseCall {l : Launch} {d : Nat} {Q : Int32 → mv_M → Prop} (hd : 241 ≤ d) (a0 : Int32) (a1 : Int32) (M : mv_M) (h : mv_ok (tX3_parseCall a0 a1 M) Q) : mv l mX3_parseCall d 0 0 (lv_args 0 [.ref 3, .int a0, .int a1]) [] M (mv_qI Q) := (zRX3_parseE 220 d hd).2.2.2.2.2.2.2 a0 a1 M Q h
