theorem dX6_pairOf_0 : decode cX6_pairOf 0 = .ok (.iload_n 0, 1) := by decide +kernel
theorem dX6_pairOf_1 : decode cX6_pairOf 1 = .ok (.iconst 1, 1) := by decide +kernel
theorem dX6_pairOf_2 : decode cX6_pairOf 2 = .ok (.if_icmp .gt 8, 3) := by decide +kernel
theorem dX6_pairOf_5 : decode cX6_pairOf 5 = .ok (.iload_n 1, 1) := by decide +kernel
theorem dX6_pairOf_6 : decode cX6_pairOf 6 = .ok (.iconst 1, 1) := by decide +kernel
theorem dX6_pairOf_7 : decode cX6_pairOf 7 = .ok (.if_icmp .le 7, 3) := by decide +kernel
theorem dX6_pairOf_10 : decode cX6_pairOf 10 = .ok (.iconst (-1), 1) := by decide +kernel
theorem dX6_pairOf_11 : decode cX6_pairOf 11 = .ok (.goto 10, 3) := by decide +kernel
theorem dX6_pairOf_14 : decode cX6_pairOf 14 = .ok (.iconst 1, 1) := by decide +kernel
theorem dX6_pairOf_15 : decode cX6_pairOf 15 = .ok (.iconst 2, 1) := by decide +kernel
theorem dX6_pairOf_16 : decode cX6_pairOf 16 = .ok (.iload_n 0, 1) := by decide +kernel
theorem dX6_pairOf_17 : decode cX6_pairOf 17 = .ok (.imul, 1) := by decide +kernel
theorem dX6_pairOf_18 : decode cX6_pairOf 18 = .ok (.iadd, 1) := by decide +kernel
theorem dX6_pairOf_19 : decode cX6_pairOf 19 = .ok (.iload_n 1, 1) := by decide +kernel
theorem dX6_pairOf_20 : decode cX6_pairOf 20 = .ok (.iadd, 1) := by decide +kernel
theorem dX6_pairOf_21 : decode cX6_pairOf 21 = .ok (.ireturn, 1) := by decide +kernel
noncomputable def fX6_pairOf_10 (M : mv_M) : Option (Int32 × mv_M) :=
  some ((-1), M)
set_option maxRecDepth 100000 in
set_option maxHeartbeats 4000000 in
theorem zX6_pairOf_10 {l : Launch} {d : Nat} {Q : Int32 → mv_M → Prop} (hd : 0 ≤ d) (M : mv_M) (h : mv_ok (fX6_pairOf_10 M) Q) : mv l mX6_pairOf d 0 10 [] [] M (mv_qI Q) := by
  unfold fX6_pairOf_10 at h
  refine mv_iconst (-1) dX6_pairOf_10 (by decide) ?_
  refine mv_goto 21 dX6_pairOf_11 (by decide) ?_
  exact mv_iret rfl dX6_pairOf_21 ⟨_, rfl, h⟩
noncomputable def fX6_pairOf (a0 : Int32) (a1 : Int32) (M : mv_M) : Option (Int32 × mv_M) :=
  if 1 < a0 then
    fX6_pairOf_10 M
  else
    if a1 ≤ 1 then
      some ((1 + (2 * a0)) + a1, M)
    else
      fX6_pairOf_10 M
set_option maxRecDepth 100000 in
set_option maxHeartbeats 4000000 in
theorem zX6_pairOf {l : Launch} {d : Nat} {Q : Int32 → mv_M → Prop} (hd : 0 ≤ d) (a0 : Int32) (a1 : Int32) (M : mv_M) (h : mv_ok (fX6_pairOf a0 a1 M) Q) : mv l mX6_pairOf d 0 0 (lv_args 0 [.int a0, .int a1]) [] M (mv_qI Q) := by
  unfold fX6_pairOf at h
  show mv l mX6_pairOf d 0 0 [(0, .int a0), (1, .int a1)] [] M (mv_qI Q)
  refine mv_iload_n 0 dX6_pairOf_0 rfl ?_
  refine mv_iconst 1 dX6_pairOf_1 (by decide) ?_
  refine mv_icmp_gt 10 dX6_pairOf_2 (by decide) (fun z => ?_) (fun z => ?_)
  · replace h := mv_ifT z h
    refine mv_sub [] rfl ?_
    exact zX6_pairOf_10 hd M h
  · replace h := mv_ifF z h
    refine mv_iload_n 1 dX6_pairOf_5 rfl ?_
    refine mv_iconst 1 dX6_pairOf_6 (by decide) ?_
    refine mv_icmp_le 14 dX6_pairOf_7 (by decide) (fun z => ?_) (fun z => ?_)
    · replace h := mv_ifT z h
      refine mv_iconst 1 dX6_pairOf_14 (by decide) ?_
      refine mv_iconst 2 dX6_pairOf_15 (by decide) ?_
      refine mv_iload_n 0 dX6_pairOf_16 rfl ?_
      refine mv_imul dX6_pairOf_17 ?_
      refine mv_iadd dX6_pairOf_18 ?_
      refine mv_iload_n 1 dX6_pairOf_19 rfl ?_
      refine mv_iadd dX6_pairOf_20 ?_
      exact mv_iret rfl dX6_pairOf_21 ⟨_, rfl, h⟩
    · replace h := mv_ifF z h
      refine mv_sub [] rfl ?_
      exact zX6_pairOf_10 hd M h
theorem dX6_firstOf_0 : decode cX6_firstOf 0 = .ok (.iload_n 0, 1) := by decide +kernel
theorem dX6_firstOf_1 : decode cX6_firstOf 1 = .ok (.ifCond .gt 7, 3) := by decide +kernel
theorem dX6_firstOf_4 : decode cX6_firstOf 4 = .ok (.iconst 0, 1) := by decide +kernel
theorem dX6_firstOf_5 : decode cX6_firstOf 5 = .ok (.goto 8, 3) := by decide +kernel
theorem dX6_firstOf_8 : decode cX6_firstOf 8 = .ok (.iload_n 0, 1) := by decide +kernel
theorem dX6_firstOf_9 : decode cX6_firstOf 9 = .ok (.iconst 1, 1) := by decide +kernel
theorem dX6_firstOf_10 : decode cX6_firstOf 10 = .ok (.isub, 1) := by decide +kernel
theorem dX6_firstOf_11 : decode cX6_firstOf 11 = .ok (.iconst 2, 1) := by decide +kernel
theorem dX6_firstOf_12 : decode cX6_firstOf 12 = .ok (.idiv, 1) := by decide +kernel
theorem dX6_firstOf_13 : decode cX6_firstOf 13 = .ok (.ireturn, 1) := by decide +kernel
noncomputable def fX6_firstOf (a0 : Int32) (M : mv_M) : Option (Int32 × mv_M) :=
  if 0 < a0 then
    some ((a0 - 1) / 2, M)
  else
    some (0, M)
set_option maxRecDepth 100000 in
set_option maxHeartbeats 4000000 in
theorem zX6_firstOf {l : Launch} {d : Nat} {Q : Int32 → mv_M → Prop} (hd : 0 ≤ d) (a0 : Int32) (M : mv_M) (h : mv_ok (fX6_firstOf a0 M) Q) : mv l mX6_firstOf d 0 0 (lv_args 0 [.int a0]) [] M (mv_qI Q) := by
  unfold fX6_firstOf at h
  show mv l mX6_firstOf d 0 0 [(0, .int a0)] [] M (mv_qI Q)
  refine mv_iload_n 0 dX6_firstOf_0 rfl ?_
  refine mv_if_gt 8 dX6_firstOf_1 (by decide) (fun z => ?_) (fun z => ?_)
  · replace h := mv_ifT z h
    refine mv_iload_n 0 dX6_firstOf_8 rfl ?_
    refine mv_iconst 1 dX6_firstOf_9 (by decide) ?_
    refine mv_isub dX6_firstOf_10 ?_
    refine mv_iconst 2 dX6_firstOf_11 (by decide) ?_
    refine mv_idiv dX6_firstOf_12 (by decide) ?_
    exact mv_iret rfl dX6_firstOf_13 ⟨_, rfl, h⟩
  · replace h := mv_ifF z h
    refine mv_iconst 0 dX6_firstOf_4 (by decide) ?_
    refine mv_goto 13 dX6_firstOf_5 (by decide) ?_
    exact mv_iret rfl dX6_firstOf_13 ⟨_, rfl, h⟩
theorem dX6_secondOf_0 : decode cX6_secondOf 0 = .ok (.iload_n 0, 1) := by decide +kernel
theorem dX6_secondOf_1 : decode cX6_secondOf 1 = .ok (.ifCond .gt 7, 3) := by decide +kernel
theorem dX6_secondOf_4 : decode cX6_secondOf 4 = .ok (.iconst 0, 1) := by decide +kernel
theorem dX6_secondOf_5 : decode cX6_secondOf 5 = .ok (.goto 8, 3) := by decide +kernel
theorem dX6_secondOf_8 : decode cX6_secondOf 8 = .ok (.iload_n 0, 1) := by decide +kernel
theorem dX6_secondOf_9 : decode cX6_secondOf 9 = .ok (.iconst 1, 1) := by decide +kernel
theorem dX6_secondOf_10 : decode cX6_secondOf 10 = .ok (.isub, 1) := by decide +kernel
theorem dX6_secondOf_11 : decode cX6_secondOf 11 = .ok (.iconst 2, 1) := by decide +kernel
theorem dX6_secondOf_12 : decode cX6_secondOf 12 = .ok (.irem, 1) := by decide +kernel
theorem dX6_secondOf_13 : decode cX6_secondOf 13 = .ok (.ireturn, 1) := by decide +kernel
noncomputable def fX6_secondOf (a0 : Int32) (M : mv_M) : Option (Int32 × mv_M) :=
  if 0 < a0 then
    some ((a0 - 1) - (a0 - 1) / 2 * 2, M)
  else
    some (0, M)
set_option maxRecDepth 100000 in
set_option maxHeartbeats 4000000 in
theorem zX6_secondOf {l : Launch} {d : Nat} {Q : Int32 → mv_M → Prop} (hd : 0 ≤ d) (a0 : Int32) (M : mv_M) (h : mv_ok (fX6_secondOf a0 M) Q) : mv l mX6_secondOf d 0 0 (lv_args 0 [.int a0]) [] M (mv_qI Q) := by
  unfold fX6_secondOf at h
  show mv l mX6_secondOf d 0 0 [(0, .int a0)] [] M (mv_qI Q)
  refine mv_iload_n 0 dX6_secondOf_0 rfl ?_
  refine mv_if_gt 8 dX6_secondOf_1 (by decide) (fun z => ?_) (fun z => ?_)
  · replace h := mv_ifT z h
    refine mv_iload_n 0 dX6_secondOf_8 rfl ?_
    refine mv_iconst 1 dX6_secondOf_9 (by decide) ?_
    refine mv_isub dX6_secondOf_10 ?_
    refine mv_iconst 2 dX6_secondOf_11 (by decide) ?_
    refine mv_irem dX6_secondOf_12 (by decide) ?_
    exact mv_iret rfl dX6_secondOf_13 ⟨_, rfl, h⟩
  · replace h := mv_ifF z h
    refine mv_iconst 0 dX6_secondOf_4 (by decide) ?_
    refine mv_goto 13 dX6_secondOf_5 (by decide) ?_
    exact mv_iret rfl dX6_secondOf_13 ⟨_, rfl, h⟩
theorem dX6_demandsOf_0 : decode cX6_demandsOf 0 = .ok (.iload_n 0, 1) := by decide +kernel
theorem dX6_demandsOf_1 : decode cX6_demandsOf 1 = .ok (.ifCond .lt 11, 3) := by decide +kernel
theorem dX6_demandsOf_4 : decode cX6_demandsOf 4 = .ok (.iload_n 0, 1) := by decide +kernel
theorem dX6_demandsOf_5 : decode cX6_demandsOf 5 = .ok (.getstatic 9, 3) := by decide +kernel
theorem dX6_demandsOf_8 : decode cX6_demandsOf 8 = .ok (.arraylength, 1) := by decide +kernel
theorem dX6_demandsOf_9 : decode cX6_demandsOf 9 = .ok (.if_icmp .lt 11, 3) := by decide +kernel
theorem dX6_demandsOf_12 : decode cX6_demandsOf 12 = .ok (.getstatic 9, 3) := by decide +kernel
theorem dX6_demandsOf_15 : decode cX6_demandsOf 15 = .ok (.iconst 0, 1) := by decide +kernel
theorem dX6_demandsOf_16 : decode cX6_demandsOf 16 = .ok (.iaload, 1) := by decide +kernel
theorem dX6_demandsOf_17 : decode cX6_demandsOf 17 = .ok (.goto 8, 3) := by decide +kernel
theorem dX6_demandsOf_20 : decode cX6_demandsOf 20 = .ok (.getstatic 9, 3) := by decide +kernel
theorem dX6_demandsOf_23 : decode cX6_demandsOf 23 = .ok (.iload_n 0, 1) := by decide +kernel
theorem dX6_demandsOf_24 : decode cX6_demandsOf 24 = .ok (.iaload, 1) := by decide +kernel
theorem dX6_demandsOf_25 : decode cX6_demandsOf 25 = .ok (.ireturn, 1) := by decide +kernel
noncomputable def fX6_demandsOf_12 (M : mv_M) : Option (Int32 × mv_M) :=
  some (mv_dem (0 : Int32).toNatClampNeg, M)
set_option maxRecDepth 100000 in
set_option maxHeartbeats 4000000 in
theorem zX6_demandsOf_12 {l : Launch} {d : Nat} {Q : Int32 → mv_M → Prop} (hd : 0 ≤ d) (M : mv_M) (h : mv_ok (fX6_demandsOf_12 M) Q) : mv l mX6_demandsOf d 0 12 [] [] M (mv_qI Q) := by
  unfold fX6_demandsOf_12 at h
  refine mv_getD gX6_9 dX6_demandsOf_12 ?_
  refine mv_iconst 0 dX6_demandsOf_15 (by decide) ?_
  refine mv_ldD (mv_inE (by decide)) dX6_demandsOf_16 ?_
  refine mv_goto 25 dX6_demandsOf_17 (by decide) ?_
  exact mv_iret rfl dX6_demandsOf_25 ⟨_, rfl, h⟩
noncomputable def fX6_demandsOf (a0 : Int32) (M : mv_M) : Option (Int32 × mv_M) :=
  if a0 < 0 then
    fX6_demandsOf_12 M
  else
    if a0 < 5 then
      mv_chk (mv_inb a0 5) <|
      some (mv_dem a0.toNatClampNeg, M)
    else
      fX6_demandsOf_12 M
set_option maxRecDepth 100000 in
set_option maxHeartbeats 4000000 in
theorem zX6_demandsOf {l : Launch} {d : Nat} {Q : Int32 → mv_M → Prop} (hd : 0 ≤ d) (a0 : Int32) (M : mv_M) (h : mv_ok (fX6_demandsOf a0 M) Q) : mv l mX6_demandsOf d 0 0 (lv_args 0 [.int a0]) [] M (mv_qI Q) := by
  unfold fX6_demandsOf at h
  show mv l mX6_demandsOf d 0 0 [(0, .int a0)] [] M (mv_qI Q)
  refine mv_iload_n 0 dX6_demandsOf_0 rfl ?_
  refine mv_if_lt 12 dX6_demandsOf_1 (by decide) (fun z => ?_) (fun z => ?_)
  · replace h := mv_ifT z h
    refine mv_sub [] rfl ?_
    exact zX6_demandsOf_12 hd M h
  · replace h := mv_ifF z h
    refine mv_iload_n 0 dX6_demandsOf_4 rfl ?_
    refine mv_getD gX6_9 dX6_demandsOf_5 ?_
    refine mv_lenD dX6_demandsOf_8 ?_
    refine mv_icmp_lt 20 dX6_demandsOf_9 (by decide) (fun z => ?_) (fun z => ?_)
    · replace h := mv_ifT z h
      refine mv_getD gX6_9 dX6_demandsOf_20 ?_
      refine mv_iload_n 0 dX6_demandsOf_23 rfl ?_
      obtain ⟨hi1, h⟩ := mv_chkE h
      refine mv_ldD (mv_inE hi1) dX6_demandsOf_24 ?_
      exact mv_iret rfl dX6_demandsOf_25 ⟨_, rfl, h⟩
    · replace h := mv_ifF z h
      refine mv_sub [] rfl ?_
      exact zX6_demandsOf_12 hd M h
theorem dX6_allOf_0 : decode cX6_allOf 0 = .ok (.iload_n 0, 1) := by decide +kernel
theorem dX6_allOf_1 : decode cX6_allOf 1 = .ok (.invokestatic 13, 3) := by decide +kernel
theorem dX6_allOf_4 : decode cX6_allOf 4 = .ok (.iconst 1, 1) := by decide +kernel
theorem dX6_allOf_5 : decode cX6_allOf 5 = .ok (.isub, 1) := by decide +kernel
theorem dX6_allOf_6 : decode cX6_allOf 6 = .ok (.ireturn, 1) := by decide +kernel
noncomputable def fX6_allOf (a0 : Int32) (M : mv_M) : Option (Int32 × mv_M) :=
  mv_bind (fX6_demandsOf a0 M) fun r1 M2 =>
  some (r1 - 1, M2)
set_option maxRecDepth 100000 in
set_option maxHeartbeats 4000000 in
theorem zX6_allOf {l : Launch} {d : Nat} {Q : Int32 → mv_M → Prop} (hd : 1 ≤ d) (a0 : Int32) (M : mv_M) (h : mv_ok (fX6_allOf a0 M) Q) : mv l mX6_allOf d 0 0 (lv_args 0 [.int a0]) [] M (mv_qI Q) := by
  unfold fX6_allOf at h
  show mv l mX6_allOf d 0 0 [(0, .int a0)] [] M (mv_qI Q)
  refine mv_iload_n 0 dX6_allOf_0 rfl ?_
  refine mv_csI (As := [.int a0]) (st := []) okX6_demandsOf lX6_13 rfl (Nat.le_of_ble_eq_true rfl) rfl (Nat.le_of_ble_eq_true rfl) dX6_allOf_1 (by omega) rfl (zX6_demandsOf (d := d - 1) (by omega) a0 M (mv_bindE h)) (fun r1 M2 h => ?_)
  refine mv_iconst 1 dX6_allOf_4 (by decide) ?_
  refine mv_isub dX6_allOf_5 ?_
  exact mv_iret rfl dX6_allOf_6 ⟨_, rfl, h⟩
theorem dX6_askedOfFirst_0 : decode cX6_askedOfFirst 0 = .ok (.iload_n 0, 1) := by decide +kernel
theorem dX6_askedOfFirst_1 : decode cX6_askedOfFirst 1 = .ok (.invokestatic 19, 3) := by decide +kernel
theorem dX6_askedOfFirst_4 : decode cX6_askedOfFirst 4 = .ok (.invokestatic 13, 3) := by decide +kernel
theorem dX6_askedOfFirst_7 : decode cX6_askedOfFirst 7 = .ok (.istore_n 2, 1) := by decide +kernel
theorem dX6_askedOfFirst_8 : decode cX6_askedOfFirst 8 = .ok (.iload_n 1, 1) := by decide +kernel
theorem dX6_askedOfFirst_9 : decode cX6_askedOfFirst 9 = .ok (.ifCond .le 7, 3) := by decide +kernel
theorem dX6_askedOfFirst_12 : decode cX6_askedOfFirst 12 = .ok (.iload_n 2, 1) := by decide +kernel
theorem dX6_askedOfFirst_13 : decode cX6_askedOfFirst 13 = .ok (.ifCond .gt 7, 3) := by decide +kernel
theorem dX6_askedOfFirst_16 : decode cX6_askedOfFirst 16 = .ok (.iconst 0, 1) := by decide +kernel
theorem dX6_askedOfFirst_17 : decode cX6_askedOfFirst 17 = .ok (.goto 8, 3) := by decide +kernel
theorem dX6_askedOfFirst_20 : decode cX6_askedOfFirst 20 = .ok (.iload_n 1, 1) := by decide +kernel
theorem dX6_askedOfFirst_21 : decode cX6_askedOfFirst 21 = .ok (.iconst 1, 1) := by decide +kernel
theorem dX6_askedOfFirst_22 : decode cX6_askedOfFirst 22 = .ok (.isub, 1) := by decide +kernel
theorem dX6_askedOfFirst_23 : decode cX6_askedOfFirst 23 = .ok (.iload_n 2, 1) := by decide +kernel
theorem dX6_askedOfFirst_24 : decode cX6_askedOfFirst 24 = .ok (.idiv, 1) := by decide +kernel
theorem dX6_askedOfFirst_25 : decode cX6_askedOfFirst 25 = .ok (.ireturn, 1) := by decide +kernel
noncomputable def fX6_askedOfFirst_16 (M : mv_M) : Option (Int32 × mv_M) :=
  some (0, M)
set_option maxRecDepth 100000 in
set_option maxHeartbeats 4000000 in
theorem zX6_askedOfFirst_16 {l : Launch} {d : Nat} {Q : Int32 → mv_M → Prop} (hd : 1 ≤ d) (M : mv_M) (h : mv_ok (fX6_askedOfFirst_16 M) Q) : mv l mX6_askedOfFirst d 0 16 [] [] M (mv_qI Q) := by
  unfold fX6_askedOfFirst_16 at h
  refine mv_iconst 0 dX6_askedOfFirst_16 (by decide) ?_
  refine mv_goto 25 dX6_askedOfFirst_17 (by decide) ?_
  exact mv_iret rfl dX6_askedOfFirst_25 ⟨_, rfl, h⟩
noncomputable def fX6_askedOfFirst (a0 : Int32) (a1 : Int32) (M : mv_M) : Option (Int32 × mv_M) :=
  mv_bind (fX6_secondOf a0 M) fun r1 M2 =>
  mv_bind (fX6_demandsOf r1 M2) fun r3 M4 =>
  if a1 ≤ 0 then
    fX6_askedOfFirst_16 M4
  else
    if 0 < r3 then
      mv_chk (mv_nz r3) <|
      some ((a1 - 1) / r3, M4)
    else
      fX6_askedOfFirst_16 M4
set_option maxRecDepth 100000 in
set_option maxHeartbeats 4000000 in
theorem zX6_askedOfFirst {l : Launch} {d : Nat} {Q : Int32 → mv_M → Prop} (hd : 1 ≤ d) (a0 : Int32) (a1 : Int32) (M : mv_M) (h : mv_ok (fX6_askedOfFirst a0 a1 M) Q) : mv l mX6_askedOfFirst d 0 0 (lv_args 0 [.int a0, .int a1]) [] M (mv_qI Q) := by
  unfold fX6_askedOfFirst at h
  show mv l mX6_askedOfFirst d 0 0 [(0, .int a0), (1, .int a1)] [] M (mv_qI Q)
  refine mv_iload_n 0 dX6_askedOfFirst_0 rfl ?_
  refine mv_csI (As := [.int a0]) (st := []) okX6_secondOf lX6_19 rfl (Nat.le_of_ble_eq_true rfl) rfl (Nat.le_of_ble_eq_true rfl) dX6_askedOfFirst_1 (by omega) rfl (zX6_secondOf (d := d - 1) (by omega) a0 M (mv_bindE h)) (fun r1 M2 h => ?_)
  refine mv_csI (As := [.int r1]) (st := []) okX6_demandsOf lX6_13 rfl (Nat.le_of_ble_eq_true rfl) rfl (Nat.le_of_ble_eq_true rfl) dX6_askedOfFirst_4 (by omega) rfl (zX6_demandsOf (d := d - 1) (by omega) r1 M2 (mv_bindE h)) (fun r3 M4 h => ?_)
  refine mv_istore_n [(2, .int r3), (0, .int a0), (1, .int a1)] dX6_askedOfFirst_7 (by decide) rfl ?_
  refine mv_iload_n 2 dX6_askedOfFirst_8 rfl ?_
  refine mv_if_le 16 dX6_askedOfFirst_9 (by decide) (fun z => ?_) (fun z => ?_)
  · replace h := mv_ifT z h
    refine mv_sub [] rfl ?_
    exact zX6_askedOfFirst_16 hd M4 h
  · replace h := mv_ifF z h
    refine mv_iload_n 0 dX6_askedOfFirst_12 rfl ?_
    refine mv_if_gt 20 dX6_askedOfFirst_13 (by decide) (fun z => ?_) (fun z => ?_)
    · replace h := mv_ifT z h
      refine mv_iload_n 2 dX6_askedOfFirst_20 rfl ?_
      refine mv_iconst 1 dX6_askedOfFirst_21 (by decide) ?_
      refine mv_isub dX6_askedOfFirst_22 ?_
      refine mv_iload_n 0 dX6_askedOfFirst_23 rfl ?_
      obtain ⟨hz5, h⟩ := mv_chkE h
      refine mv_idiv dX6_askedOfFirst_24 (mv_nzE hz5) ?_
      exact mv_iret rfl dX6_askedOfFirst_25 ⟨_, rfl, h⟩
    · replace h := mv_ifF z h
      refine mv_sub [] rfl ?_
      exact zX6_askedOfFirst_16 hd M4 h
theorem dX6_askedOfSecond_0 : decode cX6_askedOfSecond 0 = .ok (.iload_n 0, 1) := by decide +kernel
theorem dX6_askedOfSecond_1 : decode cX6_askedOfSecond 1 = .ok (.invokestatic 19, 3) := by decide +kernel
theorem dX6_askedOfSecond_4 : decode cX6_askedOfSecond 4 = .ok (.invokestatic 13, 3) := by decide +kernel
theorem dX6_askedOfSecond_7 : decode cX6_askedOfSecond 7 = .ok (.istore_n 2, 1) := by decide +kernel
theorem dX6_askedOfSecond_8 : decode cX6_askedOfSecond 8 = .ok (.iload_n 1, 1) := by decide +kernel
theorem dX6_askedOfSecond_9 : decode cX6_askedOfSecond 9 = .ok (.ifCond .le 7, 3) := by decide +kernel
theorem dX6_askedOfSecond_12 : decode cX6_askedOfSecond 12 = .ok (.iload_n 2, 1) := by decide +kernel
theorem dX6_askedOfSecond_13 : decode cX6_askedOfSecond 13 = .ok (.ifCond .gt 7, 3) := by decide +kernel
theorem dX6_askedOfSecond_16 : decode cX6_askedOfSecond 16 = .ok (.iconst 0, 1) := by decide +kernel
theorem dX6_askedOfSecond_17 : decode cX6_askedOfSecond 17 = .ok (.goto 8, 3) := by decide +kernel
theorem dX6_askedOfSecond_20 : decode cX6_askedOfSecond 20 = .ok (.iload_n 1, 1) := by decide +kernel
theorem dX6_askedOfSecond_21 : decode cX6_askedOfSecond 21 = .ok (.iconst 1, 1) := by decide +kernel
theorem dX6_askedOfSecond_22 : decode cX6_askedOfSecond 22 = .ok (.isub, 1) := by decide +kernel
theorem dX6_askedOfSecond_23 : decode cX6_askedOfSecond 23 = .ok (.iload_n 2, 1) := by decide +kernel
theorem dX6_askedOfSecond_24 : decode cX6_askedOfSecond 24 = .ok (.irem, 1) := by decide +kernel
theorem dX6_askedOfSecond_25 : decode cX6_askedOfSecond 25 = .ok (.ireturn, 1) := by decide +kernel
noncomputable def fX6_askedOfSecond_16 (M : mv_M) : Option (Int32 × mv_M) :=
  some (0, M)
set_option maxRecDepth 100000 in
set_option maxHeartbeats 4000000 in
theorem zX6_askedOfSecond_16 {l : Launch} {d : Nat} {Q : Int32 → mv_M → Prop} (hd : 1 ≤ d) (M : mv_M) (h : mv_ok (fX6_askedOfSecond_16 M) Q) : mv l mX6_askedOfSecond d 0 16 [] [] M (mv_qI Q) := by
  unfold fX6_askedOfSecond_16 at h
  refine mv_iconst 0 dX6_askedOfSecond_16 (by decide) ?_
  refine mv_goto 25 dX6_askedOfSecond_17 (by decide) ?_
  exact mv_iret rfl dX6_askedOfSecond_25 ⟨_, rfl, h⟩
noncomputable def fX6_askedOfSecond (a0 : Int32) (a1 : Int32) (M : mv_M) : Option (Int32 × mv_M) :=
  mv_bind (fX6_secondOf a0 M) fun r1 M2 =>
  mv_bind (fX6_demandsOf r1 M2) fun r3 M4 =>
  if a1 ≤ 0 then
    fX6_askedOfSecond_16 M4
  else
    if 0 < r3 then
      mv_chk (mv_nz r3) <|
      some ((a1 - 1) - (a1 - 1) / r3 * r3, M4)
    else
      fX6_askedOfSecond_16 M4
set_option maxRecDepth 100000 in
set_option maxHeartbeats 4000000 in
theorem zX6_askedOfSecond {l : Launch} {d : Nat} {Q : Int32 → mv_M → Prop} (hd : 1 ≤ d) (a0 : Int32) (a1 : Int32) (M : mv_M) (h : mv_ok (fX6_askedOfSecond a0 a1 M) Q) : mv l mX6_askedOfSecond d 0 0 (lv_args 0 [.int a0, .int a1]) [] M (mv_qI Q) := by
  unfold fX6_askedOfSecond at h
  show mv l mX6_askedOfSecond d 0 0 [(0, .int a0), (1, .int a1)] [] M (mv_qI Q)
  refine mv_iload_n 0 dX6_askedOfSecond_0 rfl ?_
  refine mv_csI (As := [.int a0]) (st := []) okX6_secondOf lX6_19 rfl (Nat.le_of_ble_eq_true rfl) rfl (Nat.le_of_ble_eq_true rfl) dX6_askedOfSecond_1 (by omega) rfl (zX6_secondOf (d := d - 1) (by omega) a0 M (mv_bindE h)) (fun r1 M2 h => ?_)
  refine mv_csI (As := [.int r1]) (st := []) okX6_demandsOf lX6_13 rfl (Nat.le_of_ble_eq_true rfl) rfl (Nat.le_of_ble_eq_true rfl) dX6_askedOfSecond_4 (by omega) rfl (zX6_demandsOf (d := d - 1) (by omega) r1 M2 (mv_bindE h)) (fun r3 M4 h => ?_)
  refine mv_istore_n [(2, .int r3), (0, .int a0), (1, .int a1)] dX6_askedOfSecond_7 (by decide) rfl ?_
  refine mv_iload_n 2 dX6_askedOfSecond_8 rfl ?_
  refine mv_if_le 16 dX6_askedOfSecond_9 (by decide) (fun z => ?_) (fun z => ?_)
  · replace h := mv_ifT z h
    refine mv_sub [] rfl ?_
    exact zX6_askedOfSecond_16 hd M4 h
  · replace h := mv_ifF z h
    refine mv_iload_n 0 dX6_askedOfSecond_12 rfl ?_
    refine mv_if_gt 20 dX6_askedOfSecond_13 (by decide) (fun z => ?_) (fun z => ?_)
    · replace h := mv_ifT z h
      refine mv_iload_n 2 dX6_askedOfSecond_20 rfl ?_
      refine mv_iconst 1 dX6_askedOfSecond_21 (by decide) ?_
      refine mv_isub dX6_askedOfSecond_22 ?_
      refine mv_iload_n 0 dX6_askedOfSecond_23 rfl ?_
      obtain ⟨hz5, h⟩ := mv_chkE h
      refine mv_irem dX6_askedOfSecond_24 (mv_nzE hz5) ?_
      exact mv_iret rfl dX6_askedOfSecond_25 ⟨_, rfl, h⟩
    · replace h := mv_ifF z h
      refine mv_sub [] rfl ?_
      exact zX6_askedOfSecond_16 hd M4 h
theorem dX6_pairDemand_0 : decode cX6_pairDemand 0 = .ok (.iconst 1, 1) := by decide +kernel
theorem dX6_pairDemand_1 : decode cX6_pairDemand 1 = .ok (.iload_n 1, 1) := by decide +kernel
theorem dX6_pairDemand_2 : decode cX6_pairDemand 2 = .ok (.iload_n 0, 1) := by decide +kernel
theorem dX6_pairDemand_3 : decode cX6_pairDemand 3 = .ok (.invokestatic 19, 3) := by decide +kernel
theorem dX6_pairDemand_6 : decode cX6_pairDemand 6 = .ok (.invokestatic 13, 3) := by decide +kernel
theorem dX6_pairDemand_9 : decode cX6_pairDemand 9 = .ok (.imul, 1) := by decide +kernel
theorem dX6_pairDemand_10 : decode cX6_pairDemand 10 = .ok (.iadd, 1) := by decide +kernel
theorem dX6_pairDemand_11 : decode cX6_pairDemand 11 = .ok (.iload_n 2, 1) := by decide +kernel
theorem dX6_pairDemand_12 : decode cX6_pairDemand 12 = .ok (.iadd, 1) := by decide +kernel
theorem dX6_pairDemand_13 : decode cX6_pairDemand 13 = .ok (.ireturn, 1) := by decide +kernel
noncomputable def fX6_pairDemand (a0 : Int32) (a1 : Int32) (a2 : Int32) (M : mv_M) : Option (Int32 × mv_M) :=
  mv_bind (fX6_secondOf a0 M) fun r1 M2 =>
  mv_bind (fX6_demandsOf r1 M2) fun r3 M4 =>
  some ((1 + (a1 * r3)) + a2, M4)
set_option maxRecDepth 100000 in
set_option maxHeartbeats 4000000 in
theorem zX6_pairDemand {l : Launch} {d : Nat} {Q : Int32 → mv_M → Prop} (hd : 1 ≤ d) (a0 : Int32) (a1 : Int32) (a2 : Int32) (M : mv_M) (h : mv_ok (fX6_pairDemand a0 a1 a2 M) Q) : mv l mX6_pairDemand d 0 0 (lv_args 0 [.int a0, .int a1, .int a2]) [] M (mv_qI Q) := by
  unfold fX6_pairDemand at h
  show mv l mX6_pairDemand d 0 0 [(0, .int a0), (1, .int a1), (2, .int a2)] [] M (mv_qI Q)
  refine mv_iconst 1 dX6_pairDemand_0 (by decide) ?_
  refine mv_iload_n 1 dX6_pairDemand_1 rfl ?_
  refine mv_iload_n 0 dX6_pairDemand_2 rfl ?_
  refine mv_csI (As := [.int a0]) (st := [.int a1, .int 1]) okX6_secondOf lX6_19 rfl (Nat.le_of_ble_eq_true rfl) rfl (Nat.le_of_ble_eq_true rfl) dX6_pairDemand_3 (by omega) rfl (zX6_secondOf (d := d - 1) (by omega) a0 M (mv_bindE h)) (fun r1 M2 h => ?_)
  refine mv_csI (As := [.int r1]) (st := [.int a1, .int 1]) okX6_demandsOf lX6_13 rfl (Nat.le_of_ble_eq_true rfl) rfl (Nat.le_of_ble_eq_true rfl) dX6_pairDemand_6 (by omega) rfl (zX6_demandsOf (d := d - 1) (by omega) r1 M2 (mv_bindE h)) (fun r3 M4 h => ?_)
  refine mv_imul dX6_pairDemand_9 ?_
  refine mv_iadd dX6_pairDemand_10 ?_
  refine mv_iload_n 2 dX6_pairDemand_11 rfl ?_
  refine mv_iadd dX6_pairDemand_12 ?_
  exact mv_iret rfl dX6_pairDemand_13 ⟨_, rfl, h⟩
theorem dX6_either_0 : decode cX6_either 0 = .ok (.iload_n 1, 1) := by decide +kernel
theorem dX6_either_1 : decode cX6_either 1 = .ok (.ifCond .eq 7, 3) := by decide +kernel
theorem dX6_either_4 : decode cX6_either 4 = .ok (.iload_n 2, 1) := by decide +kernel
theorem dX6_either_5 : decode cX6_either 5 = .ok (.ifCond .ne 5, 3) := by decide +kernel
theorem dX6_either_8 : decode cX6_either 8 = .ok (.iconst 0, 1) := by decide +kernel
theorem dX6_either_9 : decode cX6_either 9 = .ok (.ireturn, 1) := by decide +kernel
theorem dX6_either_10 : decode cX6_either 10 = .ok (.iload_n 0, 1) := by decide +kernel
theorem dX6_either_11 : decode cX6_either 11 = .ok (.ifCond .gt 5, 3) := by decide +kernel
theorem dX6_either_14 : decode cX6_either 14 = .ok (.iconst 1, 1) := by decide +kernel
theorem dX6_either_15 : decode cX6_either 15 = .ok (.ireturn, 1) := by decide +kernel
theorem dX6_either_16 : decode cX6_either 16 = .ok (.iload_n 0, 1) := by decide +kernel
theorem dX6_either_17 : decode cX6_either 17 = .ok (.invokestatic 22, 3) := by decide +kernel
theorem dX6_either_20 : decode cX6_either 20 = .ok (.iload_n 0, 1) := by decide +kernel
theorem dX6_either_21 : decode cX6_either 21 = .ok (.iload_n 1, 1) := by decide +kernel
theorem dX6_either_22 : decode cX6_either 22 = .ok (.invokestatic 25, 3) := by decide +kernel
theorem dX6_either_25 : decode cX6_either 25 = .ok (.iload_n 0, 1) := by decide +kernel
theorem dX6_either_26 : decode cX6_either 26 = .ok (.iload_n 2, 1) := by decide +kernel
theorem dX6_either_27 : decode cX6_either 27 = .ok (.invokestatic 25, 3) := by decide +kernel
theorem dX6_either_30 : decode cX6_either 30 = .ok (.invokestatic 39, 3) := by decide +kernel
theorem dX6_either_33 : decode cX6_either 33 = .ok (.istore_n 3, 1) := by decide +kernel
theorem dX6_either_34 : decode cX6_either 34 = .ok (.iload_n 0, 1) := by decide +kernel
theorem dX6_either_35 : decode cX6_either 35 = .ok (.invokestatic 19, 3) := by decide +kernel
theorem dX6_either_38 : decode cX6_either 38 = .ok (.iload_n 0, 1) := by decide +kernel
theorem dX6_either_39 : decode cX6_either 39 = .ok (.iload_n 1, 1) := by decide +kernel
theorem dX6_either_40 : decode cX6_either 40 = .ok (.invokestatic 33, 3) := by decide +kernel
theorem dX6_either_43 : decode cX6_either 43 = .ok (.iload_n 0, 1) := by decide +kernel
theorem dX6_either_44 : decode cX6_either 44 = .ok (.iload_n 2, 1) := by decide +kernel
theorem dX6_either_45 : decode cX6_either 45 = .ok (.invokestatic 33, 3) := by decide +kernel
theorem dX6_either_48 : decode cX6_either 48 = .ok (.invokestatic 39, 3) := by decide +kernel
theorem dX6_either_51 : decode cX6_either 51 = .ok (.istore 4, 2) := by decide +kernel
theorem dX6_either_53 : decode cX6_either 53 = .ok (.iload_n 0, 1) := by decide +kernel
theorem dX6_either_54 : decode cX6_either 54 = .ok (.iload_n 3, 1) := by decide +kernel
theorem dX6_either_55 : decode cX6_either 55 = .ok (.iload 4, 2) := by decide +kernel
theorem dX6_either_57 : decode cX6_either 57 = .ok (.invokestatic 36, 3) := by decide +kernel
theorem dX6_either_60 : decode cX6_either 60 = .ok (.ireturn, 1) := by decide +kernel
noncomputable def fX6_either (r_X6_either : Int32 → Int32 → Int32 → mv_M → Option (Int32 × mv_M)) (a0 : Int32) (a1 : Int32) (a2 : Int32) (M : mv_M) : Option (Int32 × mv_M) :=
  if a1 = 0 then
    some (0, M)
  else
    if a2 = 0 then
      some (0, M)
    else
      if 0 < a0 then
        mv_bind (fX6_firstOf a0 M) fun r1 M2 =>
        mv_bind (fX6_askedOfFirst a0 a1 M2) fun r3 M4 =>
        mv_bind (fX6_askedOfFirst a0 a2 M4) fun r5 M6 =>
        mv_bind (r_X6_either r1 r3 r5 M6) fun r7 M8 =>
        mv_bind (fX6_secondOf a0 M8) fun r9 M10 =>
        mv_bind (fX6_askedOfSecond a0 a1 M10) fun r11 M12 =>
        mv_bind (fX6_askedOfSecond a0 a2 M12) fun r13 M14 =>
        mv_bind (r_X6_either r9 r11 r13 M14) fun r15 M16 =>
        mv_bind (fX6_pairDemand a0 r7 r15 M16) fun r17 M18 =>
        some (r17, M18)
      else
        some (1, M)
set_option maxRecDepth 100000 in
set_option maxHeartbeats 4000000 in
theorem zX6_either {l : Launch} {d : Nat} {Q : Int32 → mv_M → Prop} {r_X6_either : Int32 → Int32 → Int32 → mv_M → Option (Int32 × mv_M)} (hd : 2 ≤ d) (hr_X6_either : ∀ (a0 : Int32) (a1 : Int32) (a2 : Int32) (M : mv_M) (Q : Int32 → mv_M → Prop), mv_ok (r_X6_either a0 a1 a2 M) Q → mv l mX6_either (d - 1) 0 0 (lv_args 0 [.int a0, .int a1, .int a2]) [] M (mv_qI Q)) (a0 : Int32) (a1 : Int32) (a2 : Int32) (M : mv_M) (h : mv_ok (fX6_either r_X6_either a0 a1 a2 M) Q) : mv l mX6_either d 0 0 (lv_args 0 [.int a0, .int a1, .int a2]) [] M (mv_qI Q) := by
  unfold fX6_either at h
  show mv l mX6_either d 0 0 [(0, .int a0), (1, .int a1), (2, .int a2)] [] M (mv_qI Q)
  refine mv_iload_n 1 dX6_either_0 rfl ?_
  refine mv_if_eq 8 dX6_either_1 (by decide) (fun z => ?_) (fun z => ?_)
  · replace h := mv_ifT z h
    refine mv_iconst 0 dX6_either_8 (by decide) ?_
    exact mv_iret rfl dX6_either_9 ⟨_, rfl, h⟩
  · replace h := mv_ifF z h
    refine mv_iload_n 2 dX6_either_4 rfl ?_
    refine mv_if_ne 10 dX6_either_5 (by decide) (fun z => ?_) (fun z => ?_)
    · replace h := mv_ifF z h
      refine mv_iload_n 0 dX6_either_10 rfl ?_
      refine mv_if_gt 16 dX6_either_11 (by decide) (fun z => ?_) (fun z => ?_)
      · replace h := mv_ifT z h
        refine mv_iload_n 0 dX6_either_16 rfl ?_
        refine mv_csI (As := [.int a0]) (st := []) okX6_firstOf lX6_22 rfl (Nat.le_of_ble_eq_true rfl) rfl (Nat.le_of_ble_eq_true rfl) dX6_either_17 (by omega) rfl (zX6_firstOf (d := d - 1) (by omega) a0 M (mv_bindE h)) (fun r1 M2 h => ?_)
        refine mv_iload_n 0 dX6_either_20 rfl ?_
        refine mv_iload_n 1 dX6_either_21 rfl ?_
        refine mv_csI (As := [.int a0, .int a1]) (st := [.int r1]) okX6_askedOfFirst lX6_25 rfl (Nat.le_of_ble_eq_true rfl) rfl (Nat.le_of_ble_eq_true rfl) dX6_either_22 (by omega) rfl (zX6_askedOfFirst (d := d - 1) (by omega) a0 a1 M2 (mv_bindE h)) (fun r3 M4 h => ?_)
        refine mv_iload_n 0 dX6_either_25 rfl ?_
        refine mv_iload_n 2 dX6_either_26 rfl ?_
        refine mv_csI (As := [.int a0, .int a2]) (st := [.int r3, .int r1]) okX6_askedOfFirst lX6_25 rfl (Nat.le_of_ble_eq_true rfl) rfl (Nat.le_of_ble_eq_true rfl) dX6_either_27 (by omega) rfl (zX6_askedOfFirst (d := d - 1) (by omega) a0 a2 M4 (mv_bindE h)) (fun r5 M6 h => ?_)
        refine mv_csI (As := [.int r1, .int r3, .int r5]) (st := []) okX6_either lX6_39 rfl (Nat.le_of_ble_eq_true rfl) rfl (Nat.le_of_ble_eq_true rfl) dX6_either_30 (by omega) rfl (hr_X6_either r1 r3 r5 M6 _ (mv_bindE h)) (fun r7 M8 h => ?_)
        refine mv_istore_n [(3, .int r7), (0, .int a0), (1, .int a1), (2, .int a2)] dX6_either_33 (by decide) rfl ?_
        refine mv_iload_n 1 dX6_either_34 rfl ?_
        refine mv_csI (As := [.int a0]) (st := []) okX6_secondOf lX6_19 rfl (Nat.le_of_ble_eq_true rfl) rfl (Nat.le_of_ble_eq_true rfl) dX6_either_35 (by omega) rfl (zX6_secondOf (d := d - 1) (by omega) a0 M8 (mv_bindE h)) (fun r9 M10 h => ?_)
        refine mv_iload_n 1 dX6_either_38 rfl ?_
        refine mv_iload_n 2 dX6_either_39 rfl ?_
        refine mv_csI (As := [.int a0, .int a1]) (st := [.int r9]) okX6_askedOfSecond lX6_33 rfl (Nat.le_of_ble_eq_true rfl) rfl (Nat.le_of_ble_eq_true rfl) dX6_either_40 (by omega) rfl (zX6_askedOfSecond (d := d - 1) (by omega) a0 a1 M10 (mv_bindE h)) (fun r11 M12 h => ?_)
        refine mv_iload_n 1 dX6_either_43 rfl ?_
        refine mv_iload_n 3 dX6_either_44 rfl ?_
        refine mv_csI (As := [.int a0, .int a2]) (st := [.int r11, .int r9]) okX6_askedOfSecond lX6_33 rfl (Nat.le_of_ble_eq_true rfl) rfl (Nat.le_of_ble_eq_true rfl) dX6_either_45 (by omega) rfl (zX6_askedOfSecond (d := d - 1) (by omega) a0 a2 M12 (mv_bindE h)) (fun r13 M14 h => ?_)
        refine mv_csI (As := [.int r9, .int r11, .int r13]) (st := []) okX6_either lX6_39 rfl (Nat.le_of_ble_eq_true rfl) rfl (Nat.le_of_ble_eq_true rfl) dX6_either_48 (by omega) rfl (hr_X6_either r9 r11 r13 M14 _ (mv_bindE h)) (fun r15 M16 h => ?_)
        refine mv_istore [(4, .int r15), (3, .int r7), (0, .int a0), (1, .int a1), (2, .int a2)] dX6_either_51 (by decide) rfl ?_
        refine mv_iload_n 2 dX6_either_53 rfl ?_
        refine mv_iload_n 1 dX6_either_54 rfl ?_
        refine mv_iload 0 dX6_either_55 rfl ?_
        refine mv_csI (As := [.int a0, .int r7, .int r15]) (st := []) okX6_pairDemand lX6_36 rfl (Nat.le_of_ble_eq_true rfl) rfl (Nat.le_of_ble_eq_true rfl) dX6_either_57 (by omega) rfl (zX6_pairDemand (d := d - 1) (by omega) a0 r7 r15 M16 (mv_bindE h)) (fun r17 M18 h => ?_)
        exact mv_iret rfl dX6_either_60 ⟨_, rfl, h⟩
      · replace h := mv_ifF z h
        refine mv_iconst 1 dX6_either_14 (by decide) ?_
        exact mv_iret rfl dX6_either_15 ⟨_, rfl, h⟩
    · replace h := mv_ifT z h
      refine mv_iconst 0 dX6_either_8 (by decide) ?_
      exact mv_iret rfl dX6_either_9 ⟨_, rfl, h⟩
noncomputable def RX6_either : Nat → Nat → Int32 → Int32 → Int32 → mv_M → Option (Int32 × mv_M)
  | 0, _, _, _, _, _ => none
  | n + 1, s, a0, a1, a2, M =>
    fX6_either (fun a0 a1 a2 M => RX6_either n 0 a0 a1 a2 M) a0 a1 a2 M
set_option maxRecDepth 100000 in
theorem zRX6_either {l : Launch} : ∀ (n d : Nat), n + 3 ≤ d → (∀ (a0 : Int32) (a1 : Int32) (a2 : Int32) (M : mv_M) (Q : Int32 → mv_M → Prop), mv_ok (RX6_either n 0 a0 a1 a2 M) Q → mv l mX6_either d 0 0 (lv_args 0 [.int a0, .int a1, .int a2]) [] M (mv_qI Q)) := by
  intro n
  induction n with
  | zero =>
    intro d hd
    intro a0 a1 a2 M Q h
    rw [RX6_either] at h
    exact False.elim h
  | succ n ih =>
    intro d hd
    have hi := ih (d - 1) (by omega)
    intro a0 a1 a2 M Q h
    rw [RX6_either] at h
    exact zX6_either (by omega) hi a0 a1 a2 M h

noncomputable def tX6_either (a0 : Int32) (a1 : Int32) (a2 : Int32) (M : mv_M) : Option (Int32 × mv_M) := RX6_either 12 0 a0 a1 a2 M
theorem ztX6_either {l : Launch} {d : Nat} {Q : Int32 → mv_M → Prop} (hd : 15 ≤ d) (a0 : Int32) (a1 : Int32) (a2 : Int32) (M : mv_M) (h : mv_ok (tX6_either a0 a1 a2 M) Q) : mv l mX6_either d 0 0 (lv_args 0 [.int a0, .int a1, .int a2]) [] M (mv_qI Q) := (zRX6_either 12 d hd) a0 a1 a2 M Q h
theorem dX6_together_0 : decode cX6_together 0 = .ok (.iload_n 1, 1) := by decide +kernel
theorem dX6_together_1 : decode cX6_together 1 = .ok (.ifCond .eq 7, 3) := by decide +kernel
theorem dX6_together_4 : decode cX6_together 4 = .ok (.iload_n 2, 1) := by decide +kernel
theorem dX6_together_5 : decode cX6_together 5 = .ok (.ifCond .ne 7, 3) := by decide +kernel
theorem dX6_together_8 : decode cX6_together 8 = .ok (.iload_n 1, 1) := by decide +kernel
theorem dX6_together_9 : decode cX6_together 9 = .ok (.iload_n 2, 1) := by decide +kernel
theorem dX6_together_10 : decode cX6_together 10 = .ok (.iadd, 1) := by decide +kernel
theorem dX6_together_11 : decode cX6_together 11 = .ok (.ireturn, 1) := by decide +kernel
theorem dX6_together_12 : decode cX6_together 12 = .ok (.iload_n 0, 1) := by decide +kernel
theorem dX6_together_13 : decode cX6_together 13 = .ok (.ifCond .gt 5, 3) := by decide +kernel
theorem dX6_together_16 : decode cX6_together 16 = .ok (.iconst 1, 1) := by decide +kernel
theorem dX6_together_17 : decode cX6_together 17 = .ok (.ireturn, 1) := by decide +kernel
theorem dX6_together_18 : decode cX6_together 18 = .ok (.iload_n 0, 1) := by decide +kernel
theorem dX6_together_19 : decode cX6_together 19 = .ok (.invokestatic 22, 3) := by decide +kernel
theorem dX6_together_22 : decode cX6_together 22 = .ok (.iload_n 0, 1) := by decide +kernel
theorem dX6_together_23 : decode cX6_together 23 = .ok (.iload_n 1, 1) := by decide +kernel
theorem dX6_together_24 : decode cX6_together 24 = .ok (.invokestatic 25, 3) := by decide +kernel
theorem dX6_together_27 : decode cX6_together 27 = .ok (.iload_n 0, 1) := by decide +kernel
theorem dX6_together_28 : decode cX6_together 28 = .ok (.iload_n 2, 1) := by decide +kernel
theorem dX6_together_29 : decode cX6_together 29 = .ok (.invokestatic 25, 3) := by decide +kernel
theorem dX6_together_32 : decode cX6_together 32 = .ok (.invokestatic 29, 3) := by decide +kernel
theorem dX6_together_35 : decode cX6_together 35 = .ok (.istore_n 3, 1) := by decide +kernel
theorem dX6_together_36 : decode cX6_together 36 = .ok (.iload_n 0, 1) := by decide +kernel
theorem dX6_together_37 : decode cX6_together 37 = .ok (.invokestatic 19, 3) := by decide +kernel
theorem dX6_together_40 : decode cX6_together 40 = .ok (.iload_n 0, 1) := by decide +kernel
theorem dX6_together_41 : decode cX6_together 41 = .ok (.iload_n 1, 1) := by decide +kernel
theorem dX6_together_42 : decode cX6_together 42 = .ok (.invokestatic 33, 3) := by decide +kernel
theorem dX6_together_45 : decode cX6_together 45 = .ok (.iload_n 0, 1) := by decide +kernel
theorem dX6_together_46 : decode cX6_together 46 = .ok (.iload_n 2, 1) := by decide +kernel
theorem dX6_together_47 : decode cX6_together 47 = .ok (.invokestatic 33, 3) := by decide +kernel
theorem dX6_together_50 : decode cX6_together 50 = .ok (.invokestatic 29, 3) := by decide +kernel
theorem dX6_together_53 : decode cX6_together 53 = .ok (.istore 4, 2) := by decide +kernel
theorem dX6_together_55 : decode cX6_together 55 = .ok (.iload_n 0, 1) := by decide +kernel
theorem dX6_together_56 : decode cX6_together 56 = .ok (.iload_n 3, 1) := by decide +kernel
theorem dX6_together_57 : decode cX6_together 57 = .ok (.iload 4, 2) := by decide +kernel
theorem dX6_together_59 : decode cX6_together 59 = .ok (.invokestatic 36, 3) := by decide +kernel
theorem dX6_together_62 : decode cX6_together 62 = .ok (.ireturn, 1) := by decide +kernel
noncomputable def fX6_together_8 (r_X6_together : Int32 → Int32 → Int32 → mv_M → Option (Int32 × mv_M)) (x1 : Int32) (x2 : Int32) (M : mv_M) : Option (Int32 × mv_M) :=
  some (x1 + x2, M)
set_option maxRecDepth 100000 in
set_option maxHeartbeats 4000000 in
theorem zX6_together_8 {l : Launch} {d : Nat} {Q : Int32 → mv_M → Prop} {r_X6_together : Int32 → Int32 → Int32 → mv_M → Option (Int32 × mv_M)} (hd : 2 ≤ d) (hr_X6_together : ∀ (a0 : Int32) (a1 : Int32) (a2 : Int32) (M : mv_M) (Q : Int32 → mv_M → Prop), mv_ok (r_X6_together a0 a1 a2 M) Q → mv l mX6_together (d - 1) 0 0 (lv_args 0 [.int a0, .int a1, .int a2]) [] M (mv_qI Q)) (x1 : Int32) (x2 : Int32) (M : mv_M) (h : mv_ok (fX6_together_8 r_X6_together x1 x2 M) Q) : mv l mX6_together d 0 8 [(1, .int x1), (2, .int x2)] [] M (mv_qI Q) := by
  unfold fX6_together_8 at h
  refine mv_iload_n 0 dX6_together_8 rfl ?_
  refine mv_iload_n 1 dX6_together_9 rfl ?_
  refine mv_iadd dX6_together_10 ?_
  exact mv_iret rfl dX6_together_11 ⟨_, rfl, h⟩
noncomputable def fX6_together (r_X6_together : Int32 → Int32 → Int32 → mv_M → Option (Int32 × mv_M)) (a0 : Int32) (a1 : Int32) (a2 : Int32) (M : mv_M) : Option (Int32 × mv_M) :=
  if a1 = 0 then
    fX6_together_8 r_X6_together a1 a2 M
  else
    if a2 = 0 then
      fX6_together_8 r_X6_together a1 a2 M
    else
      if 0 < a0 then
        mv_bind (fX6_firstOf a0 M) fun r1 M2 =>
        mv_bind (fX6_askedOfFirst a0 a1 M2) fun r3 M4 =>
        mv_bind (fX6_askedOfFirst a0 a2 M4) fun r5 M6 =>
        mv_bind (r_X6_together r1 r3 r5 M6) fun r7 M8 =>
        mv_bind (fX6_secondOf a0 M8) fun r9 M10 =>
        mv_bind (fX6_askedOfSecond a0 a1 M10) fun r11 M12 =>
        mv_bind (fX6_askedOfSecond a0 a2 M12) fun r13 M14 =>
        mv_bind (r_X6_together r9 r11 r13 M14) fun r15 M16 =>
        mv_bind (fX6_pairDemand a0 r7 r15 M16) fun r17 M18 =>
        some (r17, M18)
      else
        some (1, M)
set_option maxRecDepth 100000 in
set_option maxHeartbeats 4000000 in
theorem zX6_together {l : Launch} {d : Nat} {Q : Int32 → mv_M → Prop} {r_X6_together : Int32 → Int32 → Int32 → mv_M → Option (Int32 × mv_M)} (hd : 2 ≤ d) (hr_X6_together : ∀ (a0 : Int32) (a1 : Int32) (a2 : Int32) (M : mv_M) (Q : Int32 → mv_M → Prop), mv_ok (r_X6_together a0 a1 a2 M) Q → mv l mX6_together (d - 1) 0 0 (lv_args 0 [.int a0, .int a1, .int a2]) [] M (mv_qI Q)) (a0 : Int32) (a1 : Int32) (a2 : Int32) (M : mv_M) (h : mv_ok (fX6_together r_X6_together a0 a1 a2 M) Q) : mv l mX6_together d 0 0 (lv_args 0 [.int a0, .int a1, .int a2]) [] M (mv_qI Q) := by
  unfold fX6_together at h
  show mv l mX6_together d 0 0 [(0, .int a0), (1, .int a1), (2, .int a2)] [] M (mv_qI Q)
  refine mv_iload_n 1 dX6_together_0 rfl ?_
  refine mv_if_eq 8 dX6_together_1 (by decide) (fun z => ?_) (fun z => ?_)
  · replace h := mv_ifT z h
    refine mv_sub [1, 2] rfl ?_
    exact zX6_together_8 hd hr_X6_together a1 a2 M h
  · replace h := mv_ifF z h
    refine mv_iload_n 2 dX6_together_4 rfl ?_
    refine mv_if_ne 12 dX6_together_5 (by decide) (fun z => ?_) (fun z => ?_)
    · replace h := mv_ifF z h
      refine mv_iload_n 0 dX6_together_12 rfl ?_
      refine mv_if_gt 18 dX6_together_13 (by decide) (fun z => ?_) (fun z => ?_)
      · replace h := mv_ifT z h
        refine mv_iload_n 0 dX6_together_18 rfl ?_
        refine mv_csI (As := [.int a0]) (st := []) okX6_firstOf lX6_22 rfl (Nat.le_of_ble_eq_true rfl) rfl (Nat.le_of_ble_eq_true rfl) dX6_together_19 (by omega) rfl (zX6_firstOf (d := d - 1) (by omega) a0 M (mv_bindE h)) (fun r1 M2 h => ?_)
        refine mv_iload_n 0 dX6_together_22 rfl ?_
        refine mv_iload_n 1 dX6_together_23 rfl ?_
        refine mv_csI (As := [.int a0, .int a1]) (st := [.int r1]) okX6_askedOfFirst lX6_25 rfl (Nat.le_of_ble_eq_true rfl) rfl (Nat.le_of_ble_eq_true rfl) dX6_together_24 (by omega) rfl (zX6_askedOfFirst (d := d - 1) (by omega) a0 a1 M2 (mv_bindE h)) (fun r3 M4 h => ?_)
        refine mv_iload_n 0 dX6_together_27 rfl ?_
        refine mv_iload_n 2 dX6_together_28 rfl ?_
        refine mv_csI (As := [.int a0, .int a2]) (st := [.int r3, .int r1]) okX6_askedOfFirst lX6_25 rfl (Nat.le_of_ble_eq_true rfl) rfl (Nat.le_of_ble_eq_true rfl) dX6_together_29 (by omega) rfl (zX6_askedOfFirst (d := d - 1) (by omega) a0 a2 M4 (mv_bindE h)) (fun r5 M6 h => ?_)
        refine mv_csI (As := [.int r1, .int r3, .int r5]) (st := []) okX6_together lX6_29 rfl (Nat.le_of_ble_eq_true rfl) rfl (Nat.le_of_ble_eq_true rfl) dX6_together_32 (by omega) rfl (hr_X6_together r1 r3 r5 M6 _ (mv_bindE h)) (fun r7 M8 h => ?_)
        refine mv_istore_n [(3, .int r7), (0, .int a0), (1, .int a1), (2, .int a2)] dX6_together_35 (by decide) rfl ?_
        refine mv_iload_n 1 dX6_together_36 rfl ?_
        refine mv_csI (As := [.int a0]) (st := []) okX6_secondOf lX6_19 rfl (Nat.le_of_ble_eq_true rfl) rfl (Nat.le_of_ble_eq_true rfl) dX6_together_37 (by omega) rfl (zX6_secondOf (d := d - 1) (by omega) a0 M8 (mv_bindE h)) (fun r9 M10 h => ?_)
        refine mv_iload_n 1 dX6_together_40 rfl ?_
        refine mv_iload_n 2 dX6_together_41 rfl ?_
        refine mv_csI (As := [.int a0, .int a1]) (st := [.int r9]) okX6_askedOfSecond lX6_33 rfl (Nat.le_of_ble_eq_true rfl) rfl (Nat.le_of_ble_eq_true rfl) dX6_together_42 (by omega) rfl (zX6_askedOfSecond (d := d - 1) (by omega) a0 a1 M10 (mv_bindE h)) (fun r11 M12 h => ?_)
        refine mv_iload_n 1 dX6_together_45 rfl ?_
        refine mv_iload_n 3 dX6_together_46 rfl ?_
        refine mv_csI (As := [.int a0, .int a2]) (st := [.int r11, .int r9]) okX6_askedOfSecond lX6_33 rfl (Nat.le_of_ble_eq_true rfl) rfl (Nat.le_of_ble_eq_true rfl) dX6_together_47 (by omega) rfl (zX6_askedOfSecond (d := d - 1) (by omega) a0 a2 M12 (mv_bindE h)) (fun r13 M14 h => ?_)
        refine mv_csI (As := [.int r9, .int r11, .int r13]) (st := []) okX6_together lX6_29 rfl (Nat.le_of_ble_eq_true rfl) rfl (Nat.le_of_ble_eq_true rfl) dX6_together_50 (by omega) rfl (hr_X6_together r9 r11 r13 M14 _ (mv_bindE h)) (fun r15 M16 h => ?_)
        refine mv_istore [(4, .int r15), (3, .int r7), (0, .int a0), (1, .int a1), (2, .int a2)] dX6_together_53 (by decide) rfl ?_
        refine mv_iload_n 2 dX6_together_55 rfl ?_
        refine mv_iload_n 1 dX6_together_56 rfl ?_
        refine mv_iload 0 dX6_together_57 rfl ?_
        refine mv_csI (As := [.int a0, .int r7, .int r15]) (st := []) okX6_pairDemand lX6_36 rfl (Nat.le_of_ble_eq_true rfl) rfl (Nat.le_of_ble_eq_true rfl) dX6_together_59 (by omega) rfl (zX6_pairDemand (d := d - 1) (by omega) a0 r7 r15 M16 (mv_bindE h)) (fun r17 M18 h => ?_)
        exact mv_iret rfl dX6_together_62 ⟨_, rfl, h⟩
      · replace h := mv_ifF z h
        refine mv_iconst 1 dX6_together_16 (by decide) ?_
        exact mv_iret rfl dX6_together_17 ⟨_, rfl, h⟩
    · replace h := mv_ifT z h
      refine mv_sub [1, 2] rfl ?_
      exact zX6_together_8 hd hr_X6_together a1 a2 M h
noncomputable def RX6_together : Nat → Nat → Int32 → Int32 → Int32 → mv_M → Option (Int32 × mv_M)
  | 0, _, _, _, _, _ => none
  | n + 1, s, a0, a1, a2, M =>
    fX6_together (fun a0 a1 a2 M => RX6_together n 0 a0 a1 a2 M) a0 a1 a2 M
set_option maxRecDepth 100000 in
theorem zRX6_together {l : Launch} : ∀ (n d : Nat), n + 3 ≤ d → (∀ (a0 : Int32) (a1 : Int32) (a2 : Int32) (M : mv_M) (Q : Int32 → mv_M → Prop), mv_ok (RX6_together n 0 a0 a1 a2 M) Q → mv l mX6_together d 0 0 (lv_args 0 [.int a0, .int a1, .int a2]) [] M (mv_qI Q)) := by
  intro n
  induction n with
  | zero =>
    intro d hd
    intro a0 a1 a2 M Q h
    rw [RX6_together] at h
    exact False.elim h
  | succ n ih =>
    intro d hd
    have hi := ih (d - 1) (by omega)
    intro a0 a1 a2 M Q h
    rw [RX6_together] at h
    exact zX6_together (by omega) hi a0 a1 a2 M h

noncomputable def tX6_together (a0 : Int32) (a1 : Int32) (a2 : Int32) (M : mv_M) : Option (Int32 × mv_M) := RX6_together 12 0 a0 a1 a2 M
theorem ztX6_together {l : Launch} {d : Nat} {Q : Int32 → mv_M → Prop} (hd : 15 ≤ d) (a0 : Int32) (a1 : Int32) (a2 : Int32) (M : mv_M) (h : mv_ok (tX6_together a0 a1 a2 M) Q) : mv l mX6_together d 0 0 (lv_args 0 [.int a0, .int a1, .int a2]) [] M (mv_qI Q) := (zRX6_together 12 d hd) a0 a1 a2 M Q h
