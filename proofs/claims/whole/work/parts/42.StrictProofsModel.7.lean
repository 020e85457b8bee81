theorem dX11_need_0 : decode cX11_need 0 = .ok (.aload_n 0, 1) := by decide +kernel
theorem dX11_need_1 : decode cX11_need 1 = .ok (.getfield 127, 3) := by decide +kernel
theorem dX11_need_4 : decode cX11_need 4 = .ok (.iload_n 1, 1) := by decide +kernel
theorem dX11_need_5 : decode cX11_need 5 = .ok (.iconst 1, 1) := by decide +kernel
theorem dX11_need_6 : decode cX11_need 6 = .ok (.bastore, 1) := by decide +kernel
theorem dX11_need_7 : decode cX11_need 7 = .ok (.aload_n 0, 1) := by decide +kernel
theorem dX11_need_8 : decode cX11_need 8 = .ok (.getfield 118, 3) := by decide +kernel
theorem dX11_need_11 : decode cX11_need 11 = .ok (.iload_n 1, 1) := by decide +kernel
theorem dX11_need_12 : decode cX11_need 12 = .ok (.iaload, 1) := by decide +kernel
theorem dX11_need_13 : decode cX11_need 13 = .ok (.ifCond .ne 37, 3) := by decide +kernel
theorem dX11_need_16 : decode cX11_need 16 = .ok (.aload_n 0, 1) := by decide +kernel
theorem dX11_need_17 : decode cX11_need 17 = .ok (.getfield 118, 3) := by decide +kernel
theorem dX11_need_20 : decode cX11_need 20 = .ok (.iload_n 1, 1) := by decide +kernel
theorem dX11_need_21 : decode cX11_need 21 = .ok (.iconst 1, 1) := by decide +kernel
theorem dX11_need_22 : decode cX11_need 22 = .ok (.iastore, 1) := by decide +kernel
theorem dX11_need_23 : decode cX11_need 23 = .ok (.aload_n 0, 1) := by decide +kernel
theorem dX11_need_24 : decode cX11_need 24 = .ok (.iconst 3, 1) := by decide +kernel
theorem dX11_need_25 : decode cX11_need 25 = .ok (.iload_n 1, 1) := by decide +kernel
theorem dX11_need_26 : decode cX11_need 26 = .ok (.iconst 0, 1) := by decide +kernel
theorem dX11_need_27 : decode cX11_need 27 = .ok (.invokevirtual 322, 3) := by decide +kernel
theorem dX11_need_30 : decode cX11_need 30 = .ok (.aload_n 0, 1) := by decide +kernel
theorem dX11_need_31 : decode cX11_need 31 = .ok (.iconst 1, 1) := by decide +kernel
theorem dX11_need_32 : decode cX11_need 32 = .ok (.aload_n 0, 1) := by decide +kernel
theorem dX11_need_33 : decode cX11_need 33 = .ok (.getfield 112, 3) := by decide +kernel
theorem dX11_need_36 : decode cX11_need 36 = .ok (.iload_n 1, 1) := by decide +kernel
theorem dX11_need_37 : decode cX11_need 37 = .ok (.iaload, 1) := by decide +kernel
theorem dX11_need_38 : decode cX11_need 38 = .ok (.aload_n 0, 1) := by decide +kernel
theorem dX11_need_39 : decode cX11_need 39 = .ok (.getfield 115, 3) := by decide +kernel
theorem dX11_need_42 : decode cX11_need 42 = .ok (.iload_n 1, 1) := by decide +kernel
theorem dX11_need_43 : decode cX11_need 43 = .ok (.iaload, 1) := by decide +kernel
theorem dX11_need_44 : decode cX11_need 44 = .ok (.invokevirtual 322, 3) := by decide +kernel
theorem dX11_need_47 : decode cX11_need 47 = .ok (.goto 37, 3) := by decide +kernel
theorem dX11_need_50 : decode cX11_need 50 = .ok (.aload_n 0, 1) := by decide +kernel
theorem dX11_need_51 : decode cX11_need 51 = .ok (.getfield 118, 3) := by decide +kernel
theorem dX11_need_54 : decode cX11_need 54 = .ok (.iload_n 1, 1) := by decide +kernel
theorem dX11_need_55 : decode cX11_need 55 = .ok (.iaload, 1) := by decide +kernel
theorem dX11_need_56 : decode cX11_need 56 = .ok (.iconst 2, 1) := by decide +kernel
theorem dX11_need_57 : decode cX11_need 57 = .ok (.if_icmp .ne 22, 3) := by decide +kernel
theorem dX11_need_60 : decode cX11_need 60 = .ok (.aload_n 0, 1) := by decide +kernel
theorem dX11_need_61 : decode cX11_need 61 = .ok (.aload_n 0, 1) := by decide +kernel
theorem dX11_need_62 : decode cX11_need 62 = .ok (.getfield 121, 3) := by decide +kernel
theorem dX11_need_65 : decode cX11_need 65 = .ok (.iload_n 1, 1) := by decide +kernel
theorem dX11_need_66 : decode cX11_need 66 = .ok (.iaload, 1) := by decide +kernel
theorem dX11_need_67 : decode cX11_need 67 = .ok (.aload_n 0, 1) := by decide +kernel
theorem dX11_need_68 : decode cX11_need 68 = .ok (.getfield 124, 3) := by decide +kernel
theorem dX11_need_71 : decode cX11_need 71 = .ok (.iload_n 1, 1) := by decide +kernel
theorem dX11_need_72 : decode cX11_need 72 = .ok (.iaload, 1) := by decide +kernel
theorem dX11_need_73 : decode cX11_need 73 = .ok (.invokevirtual 420, 3) := by decide +kernel
theorem dX11_need_76 : decode cX11_need 76 = .ok (.goto 8, 3) := by decide +kernel
theorem dX11_need_79 : decode cX11_need 79 = .ok (.aload_n 0, 1) := by decide +kernel
theorem dX11_need_80 : decode cX11_need 80 = .ok (.iconst 2, 1) := by decide +kernel
theorem dX11_need_81 : decode cX11_need 81 = .ok (.putfield 408, 3) := by decide +kernel
theorem dX11_need_84 : decode cX11_need 84 = .ok (.return_, 1) := by decide +kernel
noncomputable def fX11_need (a0 : Int32) (M : mv_M) : Option (Unit × mv_M) :=
  mv_chk (mv_inb a0 1540) <|
  mv_let (mv_si M 100 a0.toNatClampNeg (vp_nar .boolean 1)) fun M2 =>
  mv_chk (mv_inb a0 1540) <|
  if (M2.1 97 a0.toNatClampNeg) = 0 then
    mv_chk (mv_inb a0 1540) <|
    mv_let (mv_si M2 97 a0.toNatClampNeg 1) fun M10 =>
    mv_bind (fX11_task 3 a0 0 M10) fun _ M11 =>
    mv_chk (mv_inb a0 1540) <|
    mv_chk (mv_inb a0 1540) <|
    mv_bind (fX11_task 1 (M11.1 95 a0.toNatClampNeg) (M11.1 96 a0.toNatClampNeg) M11) fun _ M14 =>
    some ((), M14)
  else
    mv_chk (mv_inb a0 1540) <|
    if (M2.1 97 a0.toNatClampNeg) = 2 then
      mv_chk (mv_inb a0 1540) <|
      mv_chk (mv_inb a0 1540) <|
      mv_bind (fX11_gives (M2.1 98 a0.toNatClampNeg) (M2.1 99 a0.toNatClampNeg) M2) fun _ M8 =>
      some ((), M8)
    else
      mv_let (mv_si M2 62 74 2) fun M5 =>
      some ((), M5)
set_option maxRecDepth 100000 in
set_option maxHeartbeats 4000000 in
theorem zX11_need {l : Launch} {d : Nat} {Q : Unit → mv_M → Prop} (hd : 2 ≤ d) (a0 : Int32) (M : mv_M) (h : mv_ok (fX11_need a0 M) Q) : mv l mX11_need d 0 0 (lv_args 0 [.ref 62, .int a0]) [] M (mv_qV Q) := by
  unfold fX11_need at h
  show mv l mX11_need d 0 0 [(0, .ref 62), (1, .int a0)] [] M (mv_qV Q)
  refine mv_aload_n 0 dX11_need_0 rfl ?_
  refine mv_getR 100 fX11_127 (by decide) rfl rfl rfl dX11_need_1 ?_
  refine mv_iload_n 1 dX11_need_4 rfl ?_
  refine mv_iconst 1 dX11_need_5 (by decide) ?_
  obtain ⟨hi1, h⟩ := mv_chkE h
  refine mv_zst (by decide) rfl (mv_inE hi1) dX11_need_6 (fun M2 eM2 => ?_)
  replace h := mv_letE h M2 eM2
  refine mv_aload_n 0 dX11_need_7 rfl ?_
  refine mv_getR 97 fX11_118 (by decide) rfl rfl rfl dX11_need_8 ?_
  refine mv_iload_n 1 dX11_need_11 rfl ?_
  obtain ⟨hi3, h⟩ := mv_chkE h
  refine mv_ild (by decide) rfl (mv_inE hi3) dX11_need_12 ?_
  refine mv_if_ne 50 dX11_need_13 (by decide) (fun z => ?_) (fun z => ?_)
  · replace h := mv_ifF z h
    refine mv_aload_n 0 dX11_need_50 rfl ?_
    refine mv_getR 97 fX11_118 (by decide) rfl rfl rfl dX11_need_51 ?_
    refine mv_iload_n 1 dX11_need_54 rfl ?_
    obtain ⟨hi4, h⟩ := mv_chkE h
    refine mv_ild (by decide) rfl (mv_inE hi4) dX11_need_55 ?_
    refine mv_iconst 2 dX11_need_56 (by decide) ?_
    refine mv_icmp_ne 79 dX11_need_57 (by decide) (fun z => ?_) (fun z => ?_)
    · replace h := mv_ifF z h
      refine mv_aload_n 0 dX11_need_79 rfl ?_
      refine mv_iconst 2 dX11_need_80 (by decide) ?_
      refine mv_putI fX11_408 (by decide) rfl rfl dX11_need_81 (fun M5 eM5 => ?_)
      replace h := mv_letE h M5 eM5
      exact mv_vret rfl dX11_need_84 ⟨rfl, h⟩
    · replace h := mv_ifT z h
      refine mv_aload_n 0 dX11_need_60 rfl ?_
      refine mv_aload_n 0 dX11_need_61 rfl ?_
      refine mv_getR 98 fX11_121 (by decide) rfl rfl rfl dX11_need_62 ?_
      refine mv_iload_n 1 dX11_need_65 rfl ?_
      obtain ⟨hi6, h⟩ := mv_chkE h
      refine mv_ild (by decide) rfl (mv_inE hi6) dX11_need_66 ?_
      refine mv_aload_n 0 dX11_need_67 rfl ?_
      refine mv_getR 99 fX11_124 (by decide) rfl rfl rfl dX11_need_68 ?_
      refine mv_iload_n 1 dX11_need_71 rfl ?_
      obtain ⟨hi7, h⟩ := mv_chkE h
      refine mv_ild (by decide) rfl (mv_inE hi7) dX11_need_72 ?_
      refine mv_cvV (As := [.int (M2.1 98 a0.toNatClampNeg), .int (M2.1 99 a0.toNatClampNeg)]) (st := []) okX11_gives lX11_420 (by decide) rfl rfl rfl (Nat.le_of_ble_eq_true rfl) rfl (Nat.le_of_ble_eq_true rfl) dX11_need_73 (by omega) rfl (zX11_gives (d := d - 1) (by omega) (M2.1 98 a0.toNatClampNeg) (M2.1 99 a0.toNatClampNeg) M2 (mv_bindE h)) (fun _ M8 h => ?_)
      refine mv_goto 84 dX11_need_76 (by decide) ?_
      exact mv_vret rfl dX11_need_84 ⟨rfl, h⟩
  · replace h := mv_ifT z h
    refine mv_aload_n 0 dX11_need_16 rfl ?_
    refine mv_getR 97 fX11_118 (by decide) rfl rfl rfl dX11_need_17 ?_
    refine mv_iload_n 1 dX11_need_20 rfl ?_
    refine mv_iconst 1 dX11_need_21 (by decide) ?_
    obtain ⟨hi9, h⟩ := mv_chkE h
    refine mv_ist (by decide) rfl (mv_inE hi9) dX11_need_22 (fun M10 eM10 => ?_)
    replace h := mv_letE h M10 eM10
    refine mv_aload_n 0 dX11_need_23 rfl ?_
    refine mv_iconst 3 dX11_need_24 (by decide) ?_
    refine mv_iload_n 1 dX11_need_25 rfl ?_
    refine mv_iconst 0 dX11_need_26 (by decide) ?_
    refine mv_cvV (As := [.int 3, .int a0, .int 0]) (st := []) okX11_task lX11_322 (by decide) rfl rfl rfl (Nat.le_of_ble_eq_true rfl) rfl (Nat.le_of_ble_eq_true rfl) dX11_need_27 (by omega) rfl (zX11_task (d := d - 1) (by omega) 3 a0 0 M10 (mv_bindE h)) (fun _ M11 h => ?_)
    refine mv_aload_n 0 dX11_need_30 rfl ?_
    refine mv_iconst 1 dX11_need_31 (by decide) ?_
    refine mv_aload_n 0 dX11_need_32 rfl ?_
    refine mv_getR 95 fX11_112 (by decide) rfl rfl rfl dX11_need_33 ?_
    refine mv_iload_n 1 dX11_need_36 rfl ?_
    obtain ⟨hi12, h⟩ := mv_chkE h
    refine mv_ild (by decide) rfl (mv_inE hi12) dX11_need_37 ?_
    refine mv_aload_n 0 dX11_need_38 rfl ?_
    refine mv_getR 96 fX11_115 (by decide) rfl rfl rfl dX11_need_39 ?_
    refine mv_iload_n 1 dX11_need_42 rfl ?_
    obtain ⟨hi13, h⟩ := mv_chkE h
    refine mv_ild (by decide) rfl (mv_inE hi13) dX11_need_43 ?_
    refine mv_cvV (As := [.int 1, .int (M11.1 95 a0.toNatClampNeg), .int (M11.1 96 a0.toNatClampNeg)]) (st := []) okX11_task lX11_322 (by decide) rfl rfl rfl (Nat.le_of_ble_eq_true rfl) rfl (Nat.le_of_ble_eq_true rfl) dX11_need_44 (by omega) rfl (zX11_task (d := d - 1) (by omega) 1 (M11.1 95 a0.toNatClampNeg) (M11.1 96 a0.toNatClampNeg) M11 (mv_bindE h)) (fun _ M14 h => ?_)
    refine mv_goto 84 dX11_need_47 (by decide) ?_
    exact mv_vret rfl dX11_need_84 ⟨rfl, h⟩
theorem dX11_called_0 : decode cX11_called 0 = .ok (.aload_n 0, 1) := by decide +kernel
theorem dX11_called_1 : decode cX11_called 1 = .ok (.getfield 456, 3) := by decide +kernel
theorem dX11_called_4 : decode cX11_called 4 = .ok (.sipush 1500, 3) := by decide +kernel
theorem dX11_called_7 : decode cX11_called 7 = .ok (.if_icmp .ne 9, 3) := by decide +kernel
theorem dX11_called_10 : decode cX11_called 10 = .ok (.aload_n 0, 1) := by decide +kernel
theorem dX11_called_11 : decode cX11_called 11 = .ok (.iconst 5, 1) := by decide +kernel
theorem dX11_called_12 : decode cX11_called 12 = .ok (.putfield 408, 3) := by decide +kernel
theorem dX11_called_15 : decode cX11_called 15 = .ok (.return_, 1) := by decide +kernel
theorem dX11_called_16 : decode cX11_called 16 = .ok (.aload_n 0, 1) := by decide +kernel
theorem dX11_called_17 : decode cX11_called 17 = .ok (.dup, 1) := by decide +kernel
theorem dX11_called_18 : decode cX11_called 18 = .ok (.getfield 456, 3) := by decide +kernel
theorem dX11_called_21 : decode cX11_called 21 = .ok (.iconst 1, 1) := by decide +kernel
theorem dX11_called_22 : decode cX11_called 22 = .ok (.iadd, 1) := by decide +kernel
theorem dX11_called_23 : decode cX11_called 23 = .ok (.putfield 456, 3) := by decide +kernel
theorem dX11_called_26 : decode cX11_called 26 = .ok (.aload_n 0, 1) := by decide +kernel
theorem dX11_called_27 : decode cX11_called 27 = .ok (.getfield 456, 3) := by decide +kernel
theorem dX11_called_30 : decode cX11_called 30 = .ok (.istore_n 3, 1) := by decide +kernel
theorem dX11_called_31 : decode cX11_called 31 = .ok (.iconst 0, 1) := by decide +kernel
theorem dX11_called_32 : decode cX11_called 32 = .ok (.istore 4, 2) := by decide +kernel
theorem dX11_called_34 : decode cX11_called 34 = .ok (.iload 4, 2) := by decide +kernel
theorem dX11_called_36 : decode cX11_called 36 = .ok (.aload_n 0, 1) := by decide +kernel
theorem dX11_called_37 : decode cX11_called 37 = .ok (.getfield 45, 3) := by decide +kernel
theorem dX11_called_40 : decode cX11_called 40 = .ok (.iload_n 1, 1) := by decide +kernel
theorem dX11_called_41 : decode cX11_called 41 = .ok (.iaload, 1) := by decide +kernel
theorem dX11_called_42 : decode cX11_called 42 = .ok (.if_icmp .ge 40, 3) := by decide +kernel
theorem dX11_called_45 : decode cX11_called 45 = .ok (.aload_n 0, 1) := by decide +kernel
theorem dX11_called_46 : decode cX11_called 46 = .ok (.getfield 136, 3) := by decide +kernel
theorem dX11_called_49 : decode cX11_called 49 = .ok (.bipush 16, 2) := by decide +kernel
theorem dX11_called_51 : decode cX11_called 51 = .ok (.iload_n 3, 1) := by decide +kernel
theorem dX11_called_52 : decode cX11_called 52 = .ok (.imul, 1) := by decide +kernel
theorem dX11_called_53 : decode cX11_called 53 = .ok (.iload 4, 2) := by decide +kernel
theorem dX11_called_55 : decode cX11_called 55 = .ok (.iadd, 1) := by decide +kernel
theorem dX11_called_56 : decode cX11_called 56 = .ok (.aload_n 0, 1) := by decide +kernel
theorem dX11_called_57 : decode cX11_called 57 = .ok (.aload_n 0, 1) := by decide +kernel
theorem dX11_called_58 : decode cX11_called 58 = .ok (.getfield 60, 3) := by decide +kernel
theorem dX11_called_61 : decode cX11_called 61 = .ok (.aload_n 0, 1) := by decide +kernel
theorem dX11_called_62 : decode cX11_called 62 = .ok (.getfield 42, 3) := by decide +kernel
theorem dX11_called_65 : decode cX11_called 65 = .ok (.iload_n 1, 1) := by decide +kernel
theorem dX11_called_66 : decode cX11_called 66 = .ok (.iaload, 1) := by decide +kernel
theorem dX11_called_67 : decode cX11_called 67 = .ok (.iload 4, 2) := by decide +kernel
theorem dX11_called_69 : decode cX11_called 69 = .ok (.iadd, 1) := by decide +kernel
theorem dX11_called_70 : decode cX11_called 70 = .ok (.iaload, 1) := by decide +kernel
theorem dX11_called_71 : decode cX11_called 71 = .ok (.iload_n 2, 1) := by decide +kernel
theorem dX11_called_72 : decode cX11_called 72 = .ok (.invokevirtual 447, 3) := by decide +kernel
theorem dX11_called_75 : decode cX11_called 75 = .ok (.iastore, 1) := by decide +kernel
theorem dX11_called_76 : decode cX11_called 76 = .ok (.iinc 4 1, 3) := by decide +kernel
theorem dX11_called_79 : decode cX11_called 79 = .ok (.goto (-45), 3) := by decide +kernel
theorem dX11_called_82 : decode cX11_called 82 = .ok (.aload_n 0, 1) := by decide +kernel
theorem dX11_called_83 : decode cX11_called 83 = .ok (.iconst 1, 1) := by decide +kernel
theorem dX11_called_84 : decode cX11_called 84 = .ok (.aload_n 0, 1) := by decide +kernel
theorem dX11_called_85 : decode cX11_called 85 = .ok (.getfield 30, 3) := by decide +kernel
theorem dX11_called_88 : decode cX11_called 88 = .ok (.aload_n 0, 1) := by decide +kernel
theorem dX11_called_89 : decode cX11_called 89 = .ok (.getfield 48, 3) := by decide +kernel
theorem dX11_called_92 : decode cX11_called 92 = .ok (.iload_n 1, 1) := by decide +kernel
theorem dX11_called_93 : decode cX11_called 93 = .ok (.iaload, 1) := by decide +kernel
theorem dX11_called_94 : decode cX11_called 94 = .ok (.iaload, 1) := by decide +kernel
theorem dX11_called_95 : decode cX11_called 95 = .ok (.iload_n 3, 1) := by decide +kernel
theorem dX11_called_96 : decode cX11_called 96 = .ok (.invokevirtual 322, 3) := by decide +kernel
theorem dX11_called_99 : decode cX11_called 99 = .ok (.return_, 1) := by decide +kernel
noncomputable def gX11_called_34 (x1 : Int32) (x2 : Int32) (x3 : Int32) (x4 : Int32) (M : mv_M) : Option (((Int32 × Int32 × Int32 × Int32) ⊕ Unit) × mv_M) :=
  mv_chk (mv_inb x1 2002) <|
  if (M.1 73 x1.toNatClampNeg) ≤ x4 then
    mv_chk (mv_inb x1 2002) <|
    mv_chk (mv_inb (M.1 74 x1.toNatClampNeg) 24) <|
    mv_bind (fX11_task 1 (M.1 68 (M.1 74 x1.toNatClampNeg).toNatClampNeg) x3 M) fun _ M7 =>
    some (.inr (()), M7)
  else
    mv_chk (mv_inb x1 2002) <|
    mv_chk (mv_inb ((M.1 72 x1.toNatClampNeg) + x4) 2002) <|
    mv_bind (fX11_thing (M.1 78 ((M.1 72 x1.toNatClampNeg) + x4).toNatClampNeg) x2 M) fun r10 M11 =>
    mv_chk (mv_inb ((16 * x3) + x4) 24032) <|
    mv_let (mv_si M11 103 ((16 * x3) + x4).toNatClampNeg r10) fun M13 =>
    mv_let (x4 + 1) fun v14 =>
    some (.inl (x1, x2, x3, v14), M13)
noncomputable def fX11_called_34 (x1 : Int32) (x2 : Int32) (x3 : Int32) (x4 : Int32) (M : mv_M) : Option (Unit × mv_M) := mv_loop (fun (s : Int32 × Int32 × Int32 × Int32) M => gX11_called_34 s.1 s.2.1 s.2.2.1 s.2.2.2 M) (x1, x2, x3, x4) M
set_option maxRecDepth 100000 in
set_option maxHeartbeats 4000000 in
theorem zX11_called_34 {l : Launch} {d : Nat} {Q : Unit → mv_M → Prop} (hd : 2 ≤ d) (x1 : Int32) (x2 : Int32) (x3 : Int32) (x4 : Int32) (M : mv_M) (h : mv_ok (fX11_called_34 x1 x2 x3 x4 M) Q) : mv l mX11_called d 0 34 [(0, .ref 62), (1, .int x1), (2, .int x2), (3, .int x3), (4, .int x4)] [] M (mv_qV Q) := by
  unfold fX11_called_34 at h
  refine mv_loopE (A := (fun (s : Int32 × Int32 × Int32 × Int32) M => mv l mX11_called d 0 34 [(0, .ref 62), (1, .int s.1), (2, .int s.2.1), (3, .int s.2.2.1), (4, .int s.2.2.2)] [] M (mv_qV Q))) ?_ (x1, x2, x3, x4) M h
  · rintro ⟨x1, x2, x3, x4⟩ M h
    try dsimp only at h
    show mv l mX11_called d 0 34 [(0, .ref 62), (1, .int x1), (2, .int x2), (3, .int x3), (4, .int x4)] [] M (mv_qV Q)
    unfold gX11_called_34 at h
    refine mv_iload 4 dX11_called_34 rfl ?_
    refine mv_aload_n 0 dX11_called_36 rfl ?_
    refine mv_getR 73 fX11_45 (by decide) rfl rfl rfl dX11_called_37 ?_
    refine mv_iload_n 1 dX11_called_40 rfl ?_
    obtain ⟨hi4, h⟩ := mv_chkE h
    refine mv_ild (by decide) rfl (mv_inE hi4) dX11_called_41 ?_
    refine mv_icmp_ge 82 dX11_called_42 (by decide) (fun z => ?_) (fun z => ?_)
    · replace h := mv_ifT z h
      refine mv_aload_n 0 dX11_called_82 rfl ?_
      refine mv_iconst 1 dX11_called_83 (by decide) ?_
      refine mv_aload_n 0 dX11_called_84 rfl ?_
      refine mv_getR 68 fX11_30 (by decide) rfl rfl rfl dX11_called_85 ?_
      refine mv_aload_n 0 dX11_called_88 rfl ?_
      refine mv_getR 74 fX11_48 (by decide) rfl rfl rfl dX11_called_89 ?_
      refine mv_iload_n 1 dX11_called_92 rfl ?_
      obtain ⟨hi5, h⟩ := mv_chkE h
      refine mv_ild (by decide) rfl (mv_inE hi5) dX11_called_93 ?_
      obtain ⟨hi6, h⟩ := mv_chkE h
      refine mv_ild (by decide) rfl (mv_inE hi6) dX11_called_94 ?_
      refine mv_iload_n 3 dX11_called_95 rfl ?_
      refine mv_cvV (As := [.int 1, .int (M.1 68 (M.1 74 x1.toNatClampNeg).toNatClampNeg), .int x3]) (st := []) okX11_task lX11_322 (by decide) rfl rfl rfl (Nat.le_of_ble_eq_true rfl) rfl (Nat.le_of_ble_eq_true rfl) dX11_called_96 (by omega) rfl (zX11_task (d := d - 1) (by omega) 1 (M.1 68 (M.1 74 x1.toNatClampNeg).toNatClampNeg) x3 M (mv_bindE h)) (fun _ M7 h => ?_)
      exact mv_vret rfl dX11_called_99 ⟨rfl, h⟩
    · replace h := mv_ifF z h
      refine mv_aload_n 0 dX11_called_45 rfl ?_
      refine mv_getR 103 fX11_136 (by decide) rfl rfl rfl dX11_called_46 ?_
      refine mv_bipush 16 dX11_called_49 (by decide) ?_
      refine mv_iload_n 3 dX11_called_51 rfl ?_
      refine mv_imul dX11_called_52 ?_
      refine mv_iload 4 dX11_called_53 rfl ?_
      refine mv_iadd dX11_called_55 ?_
      refine mv_aload_n 0 dX11_called_56 rfl ?_
      refine mv_aload_n 0 dX11_called_57 rfl ?_
      refine mv_getR 78 fX11_60 (by decide) rfl rfl rfl dX11_called_58 ?_
      refine mv_aload_n 0 dX11_called_61 rfl ?_
      refine mv_getR 72 fX11_42 (by decide) rfl rfl rfl dX11_called_62 ?_
      refine mv_iload_n 1 dX11_called_65 rfl ?_
      obtain ⟨hi8, h⟩ := mv_chkE h
      refine mv_ild (by decide) rfl (mv_inE hi8) dX11_called_66 ?_
      refine mv_iload 4 dX11_called_67 rfl ?_
      refine mv_iadd dX11_called_69 ?_
      obtain ⟨hi9, h⟩ := mv_chkE h
      refine mv_ild (by decide) rfl (mv_inE hi9) dX11_called_70 ?_
      refine mv_iload_n 2 dX11_called_71 rfl ?_
      refine mv_cvI (As := [.int (M.1 78 ((M.1 72 x1.toNatClampNeg) + x4).toNatClampNeg), .int x2]) (st := [.int ((16 * x3) + x4), .ref 103]) okX11_thing lX11_447 (by decide) rfl rfl rfl (Nat.le_of_ble_eq_true rfl) rfl (Nat.le_of_ble_eq_true rfl) dX11_called_72 (by omega) rfl (zX11_thing (d := d - 1) (by omega) (M.1 78 ((M.1 72 x1.toNatClampNeg) + x4).toNatClampNeg) x2 M (mv_bindE h)) (fun r10 M11 h => ?_)
      obtain ⟨hi12, h⟩ := mv_chkE h
      refine mv_ist (by decide) rfl (mv_inE hi12) dX11_called_75 (fun M13 eM13 => ?_)
      replace h := mv_letE h M13 eM13
      obtain ⟨v14, ev14⟩ : ∃ z : Int32, z = x4 + 1 := ⟨_, rfl⟩
      replace h := mv_letE h v14 ev14
      refine mv_iinc v14 4 [(4, .int v14), (0, .ref 62), (1, .int x1), (2, .int x2), (3, .int x3)] dX11_called_76 rfl (by rw [ev14]; rfl) (by decide) rfl ?_
      refine mv_goto 34 dX11_called_79 (by decide) ?_
      refine mv_sub [1, 2, 3, 4, 0] rfl ?_
      exact h
noncomputable def fX11_called (a0 : Int32) (a1 : Int32) (M : mv_M) : Option (Unit × mv_M) :=
  if (M.1 62 69) = 1500 then
    mv_let (mv_si M 62 74 5) fun M3 =>
    some ((), M3)
  else
    mv_let (mv_si M 62 69 ((M.1 62 69) + 1)) fun M1 =>
    mv_let (M1.1 62 69) fun v2 =>
    fX11_called_34 a0 a1 v2 0 M1
set_option maxRecDepth 100000 in
set_option maxHeartbeats 4000000 in
theorem zX11_called {l : Launch} {d : Nat} {Q : Unit → mv_M → Prop} (hd : 2 ≤ d) (a0 : Int32) (a1 : Int32) (M : mv_M) (h : mv_ok (fX11_called a0 a1 M) Q) : mv l mX11_called d 0 0 (lv_args 0 [.ref 62, .int a0, .int a1]) [] M (mv_qV Q) := by
  unfold fX11_called at h
  show mv l mX11_called d 0 0 [(0, .ref 62), (1, .int a0), (2, .int a1)] [] M (mv_qV Q)
  refine mv_aload_n 0 dX11_called_0 rfl ?_
  refine mv_getI fX11_456 (by decide) rfl rfl dX11_called_1 ?_
  refine mv_sipush 1500 dX11_called_4 (by decide) ?_
  refine mv_icmp_ne 16 dX11_called_7 (by decide) (fun z => ?_) (fun z => ?_)
  · replace h := mv_ifF z h
    refine mv_aload_n 0 dX11_called_16 rfl ?_
    refine mv_dup dX11_called_17 rfl ?_
    refine mv_getI fX11_456 (by decide) rfl rfl dX11_called_18 ?_
    refine mv_iconst 1 dX11_called_21 (by decide) ?_
    refine mv_iadd dX11_called_22 ?_
    refine mv_putI fX11_456 (by decide) rfl rfl dX11_called_23 (fun M1 eM1 => ?_)
    replace h := mv_letE h M1 eM1
    refine mv_aload_n 0 dX11_called_26 rfl ?_
    refine mv_getI fX11_456 (by decide) rfl rfl dX11_called_27 ?_
    refine mv_topi (fun v2 ev2 => ?_)
    replace h := mv_letE h v2 ev2
    refine mv_istore_n [(3, .int v2), (0, .ref 62), (1, .int a0), (2, .int a1)] dX11_called_30 (by decide) rfl ?_
    refine mv_iconst 0 dX11_called_31 (by decide) ?_
    refine mv_istore [(4, .int 0), (3, .int v2), (0, .ref 62), (1, .int a0), (2, .int a1)] dX11_called_32 (by decide) rfl ?_
    refine mv_sub [2, 3, 4, 1, 0] rfl ?_
    exact zX11_called_34 hd a0 a1 v2 0 M1 h
  · replace h := mv_ifT z h
    refine mv_aload_n 0 dX11_called_10 rfl ?_
    refine mv_iconst 5 dX11_called_11 (by decide) ?_
    refine mv_putI fX11_408 (by decide) rfl rfl dX11_called_12 (fun M3 eM3 => ?_)
    replace h := mv_letE h M3 eM3
    exact mv_vret rfl dX11_called_15 ⟨rfl, h⟩
theorem dX11_paired_0 : decode cX11_paired 0 = .ok (.aload_n 0, 1) := by decide +kernel
theorem dX11_paired_1 : decode cX11_paired 1 = .ok (.getfield 459, 3) := by decide +kernel
theorem dX11_paired_4 : decode cX11_paired 4 = .ok (.sipush 1500, 3) := by decide +kernel
theorem dX11_paired_7 : decode cX11_paired 7 = .ok (.if_icmp .ne 9, 3) := by decide +kernel
theorem dX11_paired_10 : decode cX11_paired 10 = .ok (.aload_n 0, 1) := by decide +kernel
theorem dX11_paired_11 : decode cX11_paired 11 = .ok (.iconst 5, 1) := by decide +kernel
theorem dX11_paired_12 : decode cX11_paired 12 = .ok (.putfield 408, 3) := by decide +kernel
theorem dX11_paired_15 : decode cX11_paired 15 = .ok (.return_, 1) := by decide +kernel
theorem dX11_paired_16 : decode cX11_paired 16 = .ok (.aload_n 0, 1) := by decide +kernel
theorem dX11_paired_17 : decode cX11_paired 17 = .ok (.getfield 459, 3) := by decide +kernel
theorem dX11_paired_20 : decode cX11_paired 20 = .ok (.istore_n 3, 1) := by decide +kernel
theorem dX11_paired_21 : decode cX11_paired 21 = .ok (.aload_n 0, 1) := by decide +kernel
theorem dX11_paired_22 : decode cX11_paired 22 = .ok (.dup, 1) := by decide +kernel
theorem dX11_paired_23 : decode cX11_paired 23 = .ok (.getfield 459, 3) := by decide +kernel
theorem dX11_paired_26 : decode cX11_paired 26 = .ok (.iconst 1, 1) := by decide +kernel
theorem dX11_paired_27 : decode cX11_paired 27 = .ok (.iadd, 1) := by decide +kernel
theorem dX11_paired_28 : decode cX11_paired 28 = .ok (.putfield 459, 3) := by decide +kernel
theorem dX11_paired_31 : decode cX11_paired 31 = .ok (.aload_n 0, 1) := by decide +kernel
theorem dX11_paired_32 : decode cX11_paired 32 = .ok (.getfield 130, 3) := by decide +kernel
theorem dX11_paired_35 : decode cX11_paired 35 = .ok (.iload_n 3, 1) := by decide +kernel
theorem dX11_paired_36 : decode cX11_paired 36 = .ok (.aload_n 0, 1) := by decide +kernel
theorem dX11_paired_37 : decode cX11_paired 37 = .ok (.aload_n 0, 1) := by decide +kernel
theorem dX11_paired_38 : decode cX11_paired 38 = .ok (.getfield 42, 3) := by decide +kernel
theorem dX11_paired_41 : decode cX11_paired 41 = .ok (.iload_n 1, 1) := by decide +kernel
theorem dX11_paired_42 : decode cX11_paired 42 = .ok (.iaload, 1) := by decide +kernel
theorem dX11_paired_43 : decode cX11_paired 43 = .ok (.iload_n 2, 1) := by decide +kernel
theorem dX11_paired_44 : decode cX11_paired 44 = .ok (.invokevirtual 447, 3) := by decide +kernel
theorem dX11_paired_47 : decode cX11_paired 47 = .ok (.iastore, 1) := by decide +kernel
theorem dX11_paired_48 : decode cX11_paired 48 = .ok (.aload_n 0, 1) := by decide +kernel
theorem dX11_paired_49 : decode cX11_paired 49 = .ok (.getfield 133, 3) := by decide +kernel
theorem dX11_paired_52 : decode cX11_paired 52 = .ok (.iload_n 3, 1) := by decide +kernel
theorem dX11_paired_53 : decode cX11_paired 53 = .ok (.aload_n 0, 1) := by decide +kernel
theorem dX11_paired_54 : decode cX11_paired 54 = .ok (.aload_n 0, 1) := by decide +kernel
theorem dX11_paired_55 : decode cX11_paired 55 = .ok (.getfield 45, 3) := by decide +kernel
theorem dX11_paired_58 : decode cX11_paired 58 = .ok (.iload_n 1, 1) := by decide +kernel
theorem dX11_paired_59 : decode cX11_paired 59 = .ok (.iaload, 1) := by decide +kernel
theorem dX11_paired_60 : decode cX11_paired 60 = .ok (.iload_n 2, 1) := by decide +kernel
theorem dX11_paired_61 : decode cX11_paired 61 = .ok (.invokevirtual 447, 3) := by decide +kernel
theorem dX11_paired_64 : decode cX11_paired 64 = .ok (.iastore, 1) := by decide +kernel
theorem dX11_paired_65 : decode cX11_paired 65 = .ok (.aload_n 0, 1) := by decide +kernel
theorem dX11_paired_66 : decode cX11_paired 66 = .ok (.iconst 1, 1) := by decide +kernel
theorem dX11_paired_67 : decode cX11_paired 67 = .ok (.iload_n 3, 1) := by decide +kernel
theorem dX11_paired_68 : decode cX11_paired 68 = .ok (.invokevirtual 420, 3) := by decide +kernel
theorem dX11_paired_71 : decode cX11_paired 71 = .ok (.return_, 1) := by decide +kernel
noncomputable def fX11_paired (a0 : Int32) (a1 : Int32) (M : mv_M) : Option (Unit × mv_M) :=
  if (M.1 62 68) = 1500 then
    mv_let (mv_si M 62 74 5) fun M14 =>
    some ((), M14)
  else
    mv_let (M.1 62 68) fun v1 =>
    mv_let (mv_si M 62 68 ((M.1 62 68) + 1)) fun M2 =>
    mv_chk (mv_inb a0 2002) <|
    mv_bind (fX11_thing (M2.1 72 a0.toNatClampNeg) a1 M2) fun r4 M5 =>
    mv_chk (mv_inb v1 1540) <|
    mv_let (mv_si M5 101 v1.toNatClampNeg r4) fun M7 =>
    mv_chk (mv_inb a0 2002) <|
    mv_bind (fX11_thing (M7.1 73 a0.toNatClampNeg) a1 M7) fun r9 M10 =>
    mv_chk (mv_inb v1 1540) <|
    mv_let (mv_si M10 102 v1.toNatClampNeg r9) fun M12 =>
    mv_bind (fX11_gives 1 v1 M12) fun _ M13 =>
    some ((), M13)
set_option maxRecDepth 100000 in
set_option maxHeartbeats 4000000 in
theorem zX11_paired {l : Launch} {d : Nat} {Q : Unit → mv_M → Prop} (hd : 1 ≤ d) (a0 : Int32) (a1 : Int32) (M : mv_M) (h : mv_ok (fX11_paired a0 a1 M) Q) : mv l mX11_paired d 0 0 (lv_args 0 [.ref 62, .int a0, .int a1]) [] M (mv_qV Q) := by
  unfold fX11_paired at h
  show mv l mX11_paired d 0 0 [(0, .ref 62), (1, .int a0), (2, .int a1)] [] M (mv_qV Q)
  refine mv_aload_n 0 dX11_paired_0 rfl ?_
  refine mv_getI fX11_459 (by decide) rfl rfl dX11_paired_1 ?_
  refine mv_sipush 1500 dX11_paired_4 (by decide) ?_
  refine mv_icmp_ne 16 dX11_paired_7 (by decide) (fun z => ?_) (fun z => ?_)
  · replace h := mv_ifF z h
    refine mv_aload_n 0 dX11_paired_16 rfl ?_
    refine mv_getI fX11_459 (by decide) rfl rfl dX11_paired_17 ?_
    refine mv_topi (fun v1 ev1 => ?_)
    replace h := mv_letE h v1 ev1
    refine mv_istore_n [(3, .int v1), (0, .ref 62), (1, .int a0), (2, .int a1)] dX11_paired_20 (by decide) rfl ?_
    refine mv_aload_n 1 dX11_paired_21 rfl ?_
    refine mv_dup dX11_paired_22 rfl ?_
    refine mv_getI fX11_459 (by decide) rfl rfl dX11_paired_23 ?_
    refine mv_iconst 1 dX11_paired_26 (by decide) ?_
    refine mv_iadd dX11_paired_27 ?_
    refine mv_putI fX11_459 (by decide) rfl rfl dX11_paired_28 (fun M2 eM2 => ?_)
    replace h := mv_letE h M2 eM2
    refine mv_aload_n 1 dX11_paired_31 rfl ?_
    refine mv_getR 101 fX11_130 (by decide) rfl rfl rfl dX11_paired_32 ?_
    refine mv_iload_n 0 dX11_paired_35 rfl ?_
    refine mv_aload_n 1 dX11_paired_36 rfl ?_
    refine mv_aload_n 1 dX11_paired_37 rfl ?_
    refine mv_getR 72 fX11_42 (by decide) rfl rfl rfl dX11_paired_38 ?_
    refine mv_iload_n 2 dX11_paired_41 rfl ?_
    obtain ⟨hi3, h⟩ := mv_chkE h
    refine mv_ild (by decide) rfl (mv_inE hi3) dX11_paired_42 ?_
    refine mv_iload_n 3 dX11_paired_43 rfl ?_
    refine mv_cvI (As := [.int (M2.1 72 a0.toNatClampNeg), .int a1]) (st := [.int v1, .ref 101]) okX11_thing lX11_447 (by decide) rfl rfl rfl (Nat.le_of_ble_eq_true rfl) rfl (Nat.le_of_ble_eq_true rfl) dX11_paired_44 (by omega) rfl (zX11_thing (d := d - 1) (by omega) (M2.1 72 a0.toNatClampNeg) a1 M2 (mv_bindE h)) (fun r4 M5 h => ?_)
    obtain ⟨hi6, h⟩ := mv_chkE h
    refine mv_ist (by decide) rfl (mv_inE hi6) dX11_paired_47 (fun M7 eM7 => ?_)
    replace h := mv_letE h M7 eM7
    refine mv_aload_n 1 dX11_paired_48 rfl ?_
    refine mv_getR 102 fX11_133 (by decide) rfl rfl rfl dX11_paired_49 ?_
    refine mv_iload_n 0 dX11_paired_52 rfl ?_
    refine mv_aload_n 1 dX11_paired_53 rfl ?_
    refine mv_aload_n 1 dX11_paired_54 rfl ?_
    refine mv_getR 73 fX11_45 (by decide) rfl rfl rfl dX11_paired_55 ?_
    refine mv_iload_n 2 dX11_paired_58 rfl ?_
    obtain ⟨hi8, h⟩ := mv_chkE h
    refine mv_ild (by decide) rfl (mv_inE hi8) dX11_paired_59 ?_
    refine mv_iload_n 3 dX11_paired_60 rfl ?_
    refine mv_cvI (As := [.int (M7.1 73 a0.toNatClampNeg), .int a1]) (st := [.int v1, .ref 102]) okX11_thing lX11_447 (by decide) rfl rfl rfl (Nat.le_of_ble_eq_true rfl) rfl (Nat.le_of_ble_eq_true rfl) dX11_paired_61 (by omega) rfl (zX11_thing (d := d - 1) (by omega) (M7.1 73 a0.toNatClampNeg) a1 M7 (mv_bindE h)) (fun r9 M10 h => ?_)
    obtain ⟨hi11, h⟩ := mv_chkE h
    refine mv_ist (by decide) rfl (mv_inE hi11) dX11_paired_64 (fun M12 eM12 => ?_)
    replace h := mv_letE h M12 eM12
    refine mv_aload_n 1 dX11_paired_65 rfl ?_
    refine mv_iconst 1 dX11_paired_66 (by decide) ?_
    refine mv_iload_n 0 dX11_paired_67 rfl ?_
    refine mv_cvV (As := [.int 1, .int v1]) (st := []) okX11_gives lX11_420 (by decide) rfl rfl rfl (Nat.le_of_ble_eq_true rfl) rfl (Nat.le_of_ble_eq_true rfl) dX11_paired_68 (by omega) rfl (zX11_gives (d := d - 1) (by omega) 1 v1 M12 (mv_bindE h)) (fun _ M13 h => ?_)
    exact mv_vret rfl dX11_paired_71 ⟨rfl, h⟩
  · replace h := mv_ifT z h
    refine mv_aload_n 0 dX11_paired_10 rfl ?_
    refine mv_iconst 5 dX11_paired_11 (by decide) ?_
    refine mv_putI fX11_408 (by decide) rfl rfl dX11_paired_12 (fun M14 eM14 => ?_)
    replace h := mv_letE h M14 eM14
    exact mv_vret rfl dX11_paired_15 ⟨rfl, h⟩
theorem dX11_work_0 : decode cX11_work 0 = .ok (.aload_n 0, 1) := by decide +kernel
theorem dX11_work_1 : decode cX11_work 1 = .ok (.aload_n 0, 1) := by decide +kernel
theorem dX11_work_2 : decode cX11_work 2 = .ok (.getfield 438, 3) := by decide +kernel
theorem dX11_work_5 : decode cX11_work 5 = .ok (.aload_n 0, 1) := by decide +kernel
theorem dX11_work_6 : decode cX11_work 6 = .ok (.getfield 441, 3) := by decide +kernel
theorem dX11_work_9 : decode cX11_work 9 = .ok (.if_icmp .ne 7, 3) := by decide +kernel
theorem dX11_work_12 : decode cX11_work 12 = .ok (.iconst 3, 1) := by decide +kernel
theorem dX11_work_13 : decode cX11_work 13 = .ok (.goto 18, 3) := by decide +kernel
theorem dX11_work_16 : decode cX11_work 16 = .ok (.aload_n 0, 1) := by decide +kernel
theorem dX11_work_17 : decode cX11_work 17 = .ok (.getfield 426, 3) := by decide +kernel
theorem dX11_work_20 : decode cX11_work 20 = .ok (.sipush 150, 3) := by decide +kernel
theorem dX11_work_23 : decode cX11_work 23 = .ok (.if_icmp .ne 7, 3) := by decide +kernel
theorem dX11_work_26 : decode cX11_work 26 = .ok (.iconst 4, 1) := by decide +kernel
theorem dX11_work_27 : decode cX11_work 27 = .ok (.goto 4, 3) := by decide +kernel
theorem dX11_work_30 : decode cX11_work 30 = .ok (.iconst 0, 1) := by decide +kernel
theorem dX11_work_31 : decode cX11_work 31 = .ok (.putfield 408, 3) := by decide +kernel
theorem dX11_work_34 : decode cX11_work 34 = .ok (.aload_n 0, 1) := by decide +kernel
theorem dX11_work_35 : decode cX11_work 35 = .ok (.getfield 408, 3) := by decide +kernel
theorem dX11_work_38 : decode cX11_work 38 = .ok (.ifCond .eq 4, 3) := by decide +kernel
theorem dX11_work_41 : decode cX11_work 41 = .ok (.return_, 1) := by decide +kernel
theorem dX11_work_42 : decode cX11_work 42 = .ok (.aload_n 0, 1) := by decide +kernel
theorem dX11_work_43 : decode cX11_work 43 = .ok (.dup, 1) := by decide +kernel
theorem dX11_work_44 : decode cX11_work 44 = .ok (.getfield 438, 3) := by decide +kernel
theorem dX11_work_47 : decode cX11_work 47 = .ok (.iconst 1, 1) := by decide +kernel
theorem dX11_work_48 : decode cX11_work 48 = .ok (.iadd, 1) := by decide +kernel
theorem dX11_work_49 : decode cX11_work 49 = .ok (.putfield 438, 3) := by decide +kernel
theorem dX11_work_52 : decode cX11_work 52 = .ok (.aload_n 0, 1) := by decide +kernel
theorem dX11_work_53 : decode cX11_work 53 = .ok (.dup, 1) := by decide +kernel
theorem dX11_work_54 : decode cX11_work 54 = .ok (.getfield 426, 3) := by decide +kernel
theorem dX11_work_57 : decode cX11_work 57 = .ok (.iconst 1, 1) := by decide +kernel
theorem dX11_work_58 : decode cX11_work 58 = .ok (.iadd, 1) := by decide +kernel
theorem dX11_work_59 : decode cX11_work 59 = .ok (.putfield 426, 3) := by decide +kernel
theorem dX11_work_62 : decode cX11_work 62 = .ok (.aload_n 0, 1) := by decide +kernel
theorem dX11_work_63 : decode cX11_work 63 = .ok (.aload_n 0, 1) := by decide +kernel
theorem dX11_work_64 : decode cX11_work 64 = .ok (.getfield 426, 3) := by decide +kernel
theorem dX11_work_67 : decode cX11_work 67 = .ok (.aload_n 0, 1) := by decide +kernel
theorem dX11_work_68 : decode cX11_work 68 = .ok (.getfield 444, 3) := by decide +kernel
theorem dX11_work_71 : decode cX11_work 71 = .ok (.if_icmp .le 10, 3) := by decide +kernel
theorem dX11_work_74 : decode cX11_work 74 = .ok (.aload_n 0, 1) := by decide +kernel
theorem dX11_work_75 : decode cX11_work 75 = .ok (.getfield 426, 3) := by decide +kernel
theorem dX11_work_78 : decode cX11_work 78 = .ok (.goto 7, 3) := by decide +kernel
theorem dX11_work_81 : decode cX11_work 81 = .ok (.aload_n 0, 1) := by decide +kernel
theorem dX11_work_82 : decode cX11_work 82 = .ok (.getfield 444, 3) := by decide +kernel
theorem dX11_work_85 : decode cX11_work 85 = .ok (.putfield 444, 3) := by decide +kernel
theorem dX11_work_88 : decode cX11_work 88 = .ok (.aload_n 0, 1) := by decide +kernel
theorem dX11_work_89 : decode cX11_work 89 = .ok (.iconst 2, 1) := by decide +kernel
theorem dX11_work_90 : decode cX11_work 90 = .ok (.iconst 0, 1) := by decide +kernel
theorem dX11_work_91 : decode cX11_work 91 = .ok (.iconst 0, 1) := by decide +kernel
theorem dX11_work_92 : decode cX11_work 92 = .ok (.invokevirtual 322, 3) := by decide +kernel
theorem dX11_work_95 : decode cX11_work 95 = .ok (.aload_n 0, 1) := by decide +kernel
theorem dX11_work_96 : decode cX11_work 96 = .ok (.getfield 39, 3) := by decide +kernel
theorem dX11_work_99 : decode cX11_work 99 = .ok (.iload_n 1, 1) := by decide +kernel
theorem dX11_work_100 : decode cX11_work 100 = .ok (.iaload, 1) := by decide +kernel
theorem dX11_work_101 : decode cX11_work 101 = .ok (.tableswitch 235 1 8 #[92, 138, 161, 203, 47, 61, 69, 226], 47) := by decide +kernel
theorem dX11_work_148 : decode cX11_work 148 = .ok (.aload_n 0, 1) := by decide +kernel
theorem dX11_work_149 : decode cX11_work 149 = .ok (.iconst 0, 1) := by decide +kernel
theorem dX11_work_150 : decode cX11_work 150 = .ok (.aload_n 0, 1) := by decide +kernel
theorem dX11_work_151 : decode cX11_work 151 = .ok (.getfield 42, 3) := by decide +kernel
theorem dX11_work_154 : decode cX11_work 154 = .ok (.iload_n 1, 1) := by decide +kernel
theorem dX11_work_155 : decode cX11_work 155 = .ok (.iaload, 1) := by decide +kernel
theorem dX11_work_156 : decode cX11_work 156 = .ok (.invokevirtual 420, 3) := by decide +kernel
theorem dX11_work_159 : decode cX11_work 159 = .ok (.goto 183, 3) := by decide +kernel
theorem dX11_work_162 : decode cX11_work 162 = .ok (.aload_n 0, 1) := by decide +kernel
theorem dX11_work_163 : decode cX11_work 163 = .ok (.iconst 2, 1) := by decide +kernel
theorem dX11_work_164 : decode cX11_work 164 = .ok (.putfield 408, 3) := by decide +kernel
theorem dX11_work_167 : decode cX11_work 167 = .ok (.goto 175, 3) := by decide +kernel
theorem dX11_work_170 : decode cX11_work 170 = .ok (.aload_n 0, 1) := by decide +kernel
theorem dX11_work_171 : decode cX11_work 171 = .ok (.aload_n 0, 1) := by decide +kernel
theorem dX11_work_172 : decode cX11_work 172 = .ok (.getfield 136, 3) := by decide +kernel
theorem dX11_work_175 : decode cX11_work 175 = .ok (.bipush 16, 2) := by decide +kernel
theorem dX11_work_177 : decode cX11_work 177 = .ok (.iload_n 2, 1) := by decide +kernel
theorem dX11_work_178 : decode cX11_work 178 = .ok (.imul, 1) := by decide +kernel
theorem dX11_work_179 : decode cX11_work 179 = .ok (.aload_n 0, 1) := by decide +kernel
theorem dX11_work_180 : decode cX11_work 180 = .ok (.getfield 42, 3) := by decide +kernel
theorem dX11_work_183 : decode cX11_work 183 = .ok (.iload_n 1, 1) := by decide +kernel
theorem dX11_work_184 : decode cX11_work 184 = .ok (.iaload, 1) := by decide +kernel
theorem dX11_work_185 : decode cX11_work 185 = .ok (.iadd, 1) := by decide +kernel
theorem dX11_work_186 : decode cX11_work 186 = .ok (.iaload, 1) := by decide +kernel
theorem dX11_work_187 : decode cX11_work 187 = .ok (.invokevirtual 432, 3) := by decide +kernel
theorem dX11_work_190 : decode cX11_work 190 = .ok (.goto 152, 3) := by decide +kernel
theorem dX11_work_193 : decode cX11_work 193 = .ok (.aload_n 0, 1) := by decide +kernel
theorem dX11_work_194 : decode cX11_work 194 = .ok (.iconst 5, 1) := by decide +kernel
theorem dX11_work_195 : decode cX11_work 195 = .ok (.aload_n 0, 1) := by decide +kernel
theorem dX11_work_196 : decode cX11_work 196 = .ok (.getfield 48, 3) := by decide +kernel
theorem dX11_work_199 : decode cX11_work 199 = .ok (.iload_n 1, 1) := by decide +kernel
theorem dX11_work_200 : decode cX11_work 200 = .ok (.iaload, 1) := by decide +kernel
theorem dX11_work_201 : decode cX11_work 201 = .ok (.iconst 0, 1) := by decide +kernel
theorem dX11_work_202 : decode cX11_work 202 = .ok (.invokevirtual 322, 3) := by decide +kernel
theorem dX11_work_205 : decode cX11_work 205 = .ok (.aload_n 0, 1) := by decide +kernel
theorem dX11_work_206 : decode cX11_work 206 = .ok (.iconst 1, 1) := by decide +kernel
theorem dX11_work_207 : decode cX11_work 207 = .ok (.aload_n 0, 1) := by decide +kernel
theorem dX11_work_208 : decode cX11_work 208 = .ok (.getfield 45, 3) := by decide +kernel
theorem dX11_work_211 : decode cX11_work 211 = .ok (.iload_n 1, 1) := by decide +kernel
theorem dX11_work_212 : decode cX11_work 212 = .ok (.iaload, 1) := by decide +kernel
theorem dX11_work_213 : decode cX11_work 213 = .ok (.iload_n 2, 1) := by decide +kernel
theorem dX11_work_214 : decode cX11_work 214 = .ok (.invokevirtual 322, 3) := by decide +kernel
theorem dX11_work_217 : decode cX11_work 217 = .ok (.aload_n 0, 1) := by decide +kernel
theorem dX11_work_218 : decode cX11_work 218 = .ok (.iconst 4, 1) := by decide +kernel
theorem dX11_work_219 : decode cX11_work 219 = .ok (.iconst 0, 1) := by decide +kernel
theorem dX11_work_220 : decode cX11_work 220 = .ok (.iconst 0, 1) := by decide +kernel
theorem dX11_work_221 : decode cX11_work 221 = .ok (.invokevirtual 322, 3) := by decide +kernel
theorem dX11_work_224 : decode cX11_work 224 = .ok (.aload_n 0, 1) := by decide +kernel
theorem dX11_work_225 : decode cX11_work 225 = .ok (.iconst 1, 1) := by decide +kernel
theorem dX11_work_226 : decode cX11_work 226 = .ok (.aload_n 0, 1) := by decide +kernel
theorem dX11_work_227 : decode cX11_work 227 = .ok (.getfield 42, 3) := by decide +kernel
theorem dX11_work_230 : decode cX11_work 230 = .ok (.iload_n 1, 1) := by decide +kernel
theorem dX11_work_231 : decode cX11_work 231 = .ok (.iaload, 1) := by decide +kernel
theorem dX11_work_232 : decode cX11_work 232 = .ok (.iload_n 2, 1) := by decide +kernel
theorem dX11_work_233 : decode cX11_work 233 = .ok (.invokevirtual 322, 3) := by decide +kernel
theorem dX11_work_236 : decode cX11_work 236 = .ok (.goto 106, 3) := by decide +kernel
theorem dX11_work_239 : decode cX11_work 239 = .ok (.aload_n 0, 1) := by decide +kernel
theorem dX11_work_240 : decode cX11_work 240 = .ok (.bipush 6, 2) := by decide +kernel
theorem dX11_work_242 : decode cX11_work 242 = .ok (.iload_n 1, 1) := by decide +kernel
theorem dX11_work_243 : decode cX11_work 243 = .ok (.iload_n 2, 1) := by decide +kernel
theorem dX11_work_244 : decode cX11_work 244 = .ok (.invokevirtual 322, 3) := by decide +kernel
theorem dX11_work_247 : decode cX11_work 247 = .ok (.aload_n 0, 1) := by decide +kernel
theorem dX11_work_248 : decode cX11_work 248 = .ok (.iconst 1, 1) := by decide +kernel
theorem dX11_work_249 : decode cX11_work 249 = .ok (.aload_n 0, 1) := by decide +kernel
theorem dX11_work_250 : decode cX11_work 250 = .ok (.getfield 42, 3) := by decide +kernel
theorem dX11_work_253 : decode cX11_work 253 = .ok (.iload_n 1, 1) := by decide +kernel
theorem dX11_work_254 : decode cX11_work 254 = .ok (.iaload, 1) := by decide +kernel
theorem dX11_work_255 : decode cX11_work 255 = .ok (.iload_n 2, 1) := by decide +kernel
theorem dX11_work_256 : decode cX11_work 256 = .ok (.invokevirtual 322, 3) := by decide +kernel
theorem dX11_work_259 : decode cX11_work 259 = .ok (.goto 83, 3) := by decide +kernel
theorem dX11_work_262 : decode cX11_work 262 = .ok (.aload_n 0, 1) := by decide +kernel
theorem dX11_work_263 : decode cX11_work 263 = .ok (.getfield 136, 3) := by decide +kernel
theorem dX11_work_266 : decode cX11_work 266 = .ok (.bipush 16, 2) := by decide +kernel
theorem dX11_work_268 : decode cX11_work 268 = .ok (.iload_n 2, 1) := by decide +kernel
theorem dX11_work_269 : decode cX11_work 269 = .ok (.imul, 1) := by decide +kernel
theorem dX11_work_270 : decode cX11_work 270 = .ok (.aload_n 0, 1) := by decide +kernel
theorem dX11_work_271 : decode cX11_work 271 = .ok (.getfield 48, 3) := by decide +kernel
theorem dX11_work_274 : decode cX11_work 274 = .ok (.iload_n 1, 1) := by decide +kernel
theorem dX11_work_275 : decode cX11_work 275 = .ok (.iaload, 1) := by decide +kernel
theorem dX11_work_276 : decode cX11_work 276 = .ok (.iadd, 1) := by decide +kernel
theorem dX11_work_277 : decode cX11_work 277 = .ok (.aload_n 0, 1) := by decide +kernel
theorem dX11_work_278 : decode cX11_work 278 = .ok (.aload_n 0, 1) := by decide +kernel
theorem dX11_work_279 : decode cX11_work 279 = .ok (.getfield 42, 3) := by decide +kernel
theorem dX11_work_282 : decode cX11_work 282 = .ok (.iload_n 1, 1) := by decide +kernel
theorem dX11_work_283 : decode cX11_work 283 = .ok (.iaload, 1) := by decide +kernel
theorem dX11_work_284 : decode cX11_work 284 = .ok (.iload_n 2, 1) := by decide +kernel
theorem dX11_work_285 : decode cX11_work 285 = .ok (.invokevirtual 447, 3) := by decide +kernel
theorem dX11_work_288 : decode cX11_work 288 = .ok (.iastore, 1) := by decide +kernel
theorem dX11_work_289 : decode cX11_work 289 = .ok (.aload_n 0, 1) := by decide +kernel
theorem dX11_work_290 : decode cX11_work 290 = .ok (.iconst 1, 1) := by decide +kernel
theorem dX11_work_291 : decode cX11_work 291 = .ok (.aload_n 0, 1) := by decide +kernel
theorem dX11_work_292 : decode cX11_work 292 = .ok (.getfield 45, 3) := by decide +kernel
theorem dX11_work_295 : decode cX11_work 295 = .ok (.iload_n 1, 1) := by decide +kernel
theorem dX11_work_296 : decode cX11_work 296 = .ok (.iaload, 1) := by decide +kernel
theorem dX11_work_297 : decode cX11_work 297 = .ok (.iload_n 2, 1) := by decide +kernel
theorem dX11_work_298 : decode cX11_work 298 = .ok (.invokevirtual 322, 3) := by decide +kernel
theorem dX11_work_301 : decode cX11_work 301 = .ok (.goto 41, 3) := by decide +kernel
theorem dX11_work_304 : decode cX11_work 304 = .ok (.aload_n 0, 1) := by decide +kernel
theorem dX11_work_305 : decode cX11_work 305 = .ok (.bipush 7, 2) := by decide +kernel
theorem dX11_work_307 : decode cX11_work 307 = .ok (.iload_n 1, 1) := by decide +kernel
theorem dX11_work_308 : decode cX11_work 308 = .ok (.iload_n 2, 1) := by decide +kernel
theorem dX11_work_309 : decode cX11_work 309 = .ok (.invokevirtual 322, 3) := by decide +kernel
theorem dX11_work_312 : decode cX11_work 312 = .ok (.aload_n 0, 1) := by decide +kernel
theorem dX11_work_313 : decode cX11_work 313 = .ok (.iconst 1, 1) := by decide +kernel
theorem dX11_work_314 : decode cX11_work 314 = .ok (.aload_n 0, 1) := by decide +kernel
theorem dX11_work_315 : decode cX11_work 315 = .ok (.getfield 42, 3) := by decide +kernel
theorem dX11_work_318 : decode cX11_work 318 = .ok (.iload_n 1, 1) := by decide +kernel
theorem dX11_work_319 : decode cX11_work 319 = .ok (.iaload, 1) := by decide +kernel
theorem dX11_work_320 : decode cX11_work 320 = .ok (.iload_n 2, 1) := by decide +kernel
theorem dX11_work_321 : decode cX11_work 321 = .ok (.invokevirtual 322, 3) := by decide +kernel
theorem dX11_work_324 : decode cX11_work 324 = .ok (.goto 18, 3) := by decide +kernel
theorem dX11_work_327 : decode cX11_work 327 = .ok (.aload_n 0, 1) := by decide +kernel
theorem dX11_work_328 : decode cX11_work 328 = .ok (.iload_n 1, 1) := by decide +kernel
theorem dX11_work_329 : decode cX11_work 329 = .ok (.iload_n 2, 1) := by decide +kernel
theorem dX11_work_330 : decode cX11_work 330 = .ok (.invokevirtual 450, 3) := by decide +kernel
theorem dX11_work_333 : decode cX11_work 333 = .ok (.goto 9, 3) := by decide +kernel
theorem dX11_work_336 : decode cX11_work 336 = .ok (.aload_n 0, 1) := by decide +kernel
theorem dX11_work_337 : decode cX11_work 337 = .ok (.iload_n 1, 1) := by decide +kernel
theorem dX11_work_338 : decode cX11_work 338 = .ok (.iload_n 2, 1) := by decide +kernel
theorem dX11_work_339 : decode cX11_work 339 = .ok (.invokevirtual 453, 3) := by decide +kernel
theorem dX11_work_342 : decode cX11_work 342 = .ok (.return_, 1) := by decide +kernel
noncomputable def fX11_work_85 (x1 : Int32) (x2 : Int32) (s0 : Int32) (M : mv_M) : Option (Unit × mv_M) :=
  mv_let (mv_si M 62 73 s0) fun M4 =>
  mv_bind (fX11_task 2 0 0 M4) fun _ M5 =>
  mv_chk (mv_inb x1 2002) <|
  if (M5.1 71 x1.toNatClampNeg) = 1 then
    mv_chk (mv_inb x1 2002) <|
    mv_bind (fX11_task 5 (M5.1 74 x1.toNatClampNeg) 0 M5) fun _ M9 =>
    mv_chk (mv_inb x1 2002) <|
    mv_bind (fX11_task 1 (M9.1 73 x1.toNatClampNeg) x2 M9) fun _ M11 =>
    mv_bind (fX11_task 4 0 0 M11) fun _ M12 =>
    mv_chk (mv_inb x1 2002) <|
    mv_bind (fX11_task 1 (M12.1 72 x1.toNatClampNeg) x2 M12) fun _ M14 =>
    some ((), M14)
  else
    if (M5.1 71 x1.toNatClampNeg) = 2 then
      mv_bind (fX11_task 6 x1 x2 M5) fun _ M16 =>
      mv_chk (mv_inb x1 2002) <|
      mv_bind (fX11_task 1 (M16.1 72 x1.toNatClampNeg) x2 M16) fun _ M18 =>
      some ((), M18)
    else
      if (M5.1 71 x1.toNatClampNeg) = 3 then
        mv_chk (mv_inb x1 2002) <|
        mv_chk (mv_inb x1 2002) <|
        mv_bind (fX11_thing (M5.1 72 x1.toNatClampNeg) x2 M5) fun r22 M23 =>
        mv_chk (mv_inb ((16 * x2) + (M5.1 74 x1.toNatClampNeg)) 24032) <|
        mv_let (mv_si M23 103 ((16 * x2) + (M5.1 74 x1.toNatClampNeg)).toNatClampNeg r22) fun M25 =>
        mv_chk (mv_inb x1 2002) <|
        mv_bind (fX11_task 1 (M25.1 73 x1.toNatClampNeg) x2 M25) fun _ M27 =>
        some ((), M27)
      else
        if (M5.1 71 x1.toNatClampNeg) = 4 then
          mv_bind (fX11_task 7 x1 x2 M5) fun _ M29 =>
          mv_chk (mv_inb x1 2002) <|
          mv_bind (fX11_task 1 (M29.1 72 x1.toNatClampNeg) x2 M29) fun _ M31 =>
          some ((), M31)
        else
          if (M5.1 71 x1.toNatClampNeg) = 5 then
            mv_chk (mv_inb x1 2002) <|
            mv_bind (fX11_gives 0 (M5.1 72 x1.toNatClampNeg) M5) fun _ M34 =>
            some ((), M34)
          else
            if (M5.1 71 x1.toNatClampNeg) = 6 then
              mv_let (mv_si M5 62 74 2) fun M36 =>
              some ((), M36)
            else
              if (M5.1 71 x1.toNatClampNeg) = 7 then
                mv_chk (mv_inb x1 2002) <|
                mv_chk (mv_inb ((16 * x2) + (M5.1 72 x1.toNatClampNeg)) 24032) <|
                mv_bind (fX11_need (M5.1 103 ((16 * x2) + (M5.1 72 x1.toNatClampNeg)).toNatClampNeg) M5) fun _ M40 =>
                some ((), M40)
              else
                if (M5.1 71 x1.toNatClampNeg) = 8 then
                  mv_bind (fX11_called x1 x2 M5) fun _ M42 =>
                  some ((), M42)
                else
                  mv_bind (fX11_paired x1 x2 M5) fun _ M43 =>
                  some ((), M43)
set_option maxRecDepth 100000 in
set_option maxHeartbeats 4000000 in
theorem zX11_work_85 {l : Launch} {d : Nat} {Q : Unit → mv_M → Prop} (hd : 3 ≤ d) (x1 : Int32) (x2 : Int32) (s0 : Int32) (M : mv_M) (h : mv_ok (fX11_work_85 x1 x2 s0 M) Q) : mv l mX11_work d 0 85 [(0, .ref 62), (1, .int x1), (2, .int x2)] [.int s0, .ref 62] M (mv_qV Q) := by
  unfold fX11_work_85 at h
  refine mv_putI fX11_444 (by decide) rfl rfl dX11_work_85 (fun M4 eM4 => ?_)
  replace h := mv_letE h M4 eM4
  refine mv_aload_n 0 dX11_work_88 rfl ?_
  refine mv_iconst 2 dX11_work_89 (by decide) ?_
  refine mv_iconst 0 dX11_work_90 (by decide) ?_
  refine mv_iconst 0 dX11_work_91 (by decide) ?_
  refine mv_cvV (As := [.int 2, .int 0, .int 0]) (st := []) okX11_task lX11_322 (by decide) rfl rfl rfl (Nat.le_of_ble_eq_true rfl) rfl (Nat.le_of_ble_eq_true rfl) dX11_work_92 (by omega) rfl (zX11_task (d := d - 1) (by omega) 2 0 0 M4 (mv_bindE h)) (fun _ M5 h => ?_)
  refine mv_aload_n 0 dX11_work_95 rfl ?_
  refine mv_getR 71 fX11_39 (by decide) rfl rfl rfl dX11_work_96 ?_
  refine mv_iload_n 1 dX11_work_99 rfl ?_
  obtain ⟨hi6, h⟩ := mv_chkE h
  refine mv_ild (by decide) rfl (mv_inE hi6) dX11_work_100 ?_
  by_cases z7 : (M5.1 71 x1.toNatClampNeg) = 1
  · replace h := mv_ifT z7 h
    refine mv_tableIn (off := 92) 193 dX11_work_101 (by rw [z7]; decide) (by rw [z7]; decide) (by rw [z7]; rfl) (by decide) ?_
    refine mv_aload_n 0 dX11_work_193 rfl ?_
    refine mv_iconst 5 dX11_work_194 (by decide) ?_
    refine mv_aload_n 0 dX11_work_195 rfl ?_
    refine mv_getR 74 fX11_48 (by decide) rfl rfl rfl dX11_work_196 ?_
    refine mv_iload_n 1 dX11_work_199 rfl ?_
    obtain ⟨hi8, h⟩ := mv_chkE h
    refine mv_ild (by decide) rfl (mv_inE hi8) dX11_work_200 ?_
    refine mv_iconst 0 dX11_work_201 (by decide) ?_
    refine mv_cvV (As := [.int 5, .int (M5.1 74 x1.toNatClampNeg), .int 0]) (st := []) okX11_task lX11_322 (by decide) rfl rfl rfl (Nat.le_of_ble_eq_true rfl) rfl (Nat.le_of_ble_eq_true rfl) dX11_work_202 (by omega) rfl (zX11_task (d := d - 1) (by omega) 5 (M5.1 74 x1.toNatClampNeg) 0 M5 (mv_bindE h)) (fun _ M9 h => ?_)
    refine mv_aload_n 0 dX11_work_205 rfl ?_
    refine mv_iconst 1 dX11_work_206 (by decide) ?_
    refine mv_aload_n 0 dX11_work_207 rfl ?_
    refine mv_getR 73 fX11_45 (by decide) rfl rfl rfl dX11_work_208 ?_
    refine mv_iload_n 1 dX11_work_211 rfl ?_
    obtain ⟨hi10, h⟩ := mv_chkE h
    refine mv_ild (by decide) rfl (mv_inE hi10) dX11_work_212 ?_
    refine mv_iload_n 2 dX11_work_213 rfl ?_
    refine mv_cvV (As := [.int 1, .int (M9.1 73 x1.toNatClampNeg), .int x2]) (st := []) okX11_task lX11_322 (by decide) rfl rfl rfl (Nat.le_of_ble_eq_true rfl) rfl (Nat.le_of_ble_eq_true rfl) dX11_work_214 (by omega) rfl (zX11_task (d := d - 1) (by omega) 1 (M9.1 73 x1.toNatClampNeg) x2 M9 (mv_bindE h)) (fun _ M11 h => ?_)
    refine mv_aload_n 0 dX11_work_217 rfl ?_
    refine mv_iconst 4 dX11_work_218 (by decide) ?_
    refine mv_iconst 0 dX11_work_219 (by decide) ?_
    refine mv_iconst 0 dX11_work_220 (by decide) ?_
    refine mv_cvV (As := [.int 4, .int 0, .int 0]) (st := []) okX11_task lX11_322 (by decide) rfl rfl rfl (Nat.le_of_ble_eq_true rfl) rfl (Nat.le_of_ble_eq_true rfl) dX11_work_221 (by omega) rfl (zX11_task (d := d - 1) (by omega) 4 0 0 M11 (mv_bindE h)) (fun _ M12 h => ?_)
    refine mv_aload_n 0 dX11_work_224 rfl ?_
    refine mv_iconst 1 dX11_work_225 (by decide) ?_
    refine mv_aload_n 0 dX11_work_226 rfl ?_
    refine mv_getR 72 fX11_42 (by decide) rfl rfl rfl dX11_work_227 ?_
    refine mv_iload_n 1 dX11_work_230 rfl ?_
    obtain ⟨hi13, h⟩ := mv_chkE h
    refine mv_ild (by decide) rfl (mv_inE hi13) dX11_work_231 ?_
    refine mv_iload_n 2 dX11_work_232 rfl ?_
    refine mv_cvV (As := [.int 1, .int (M12.1 72 x1.toNatClampNeg), .int x2]) (st := []) okX11_task lX11_322 (by decide) rfl rfl rfl (Nat.le_of_ble_eq_true rfl) rfl (Nat.le_of_ble_eq_true rfl) dX11_work_233 (by omega) rfl (zX11_task (d := d - 1) (by omega) 1 (M12.1 72 x1.toNatClampNeg) x2 M12 (mv_bindE h)) (fun _ M14 h => ?_)
    refine mv_goto 342 dX11_work_236 (by decide) ?_
    exact mv_vret rfl dX11_work_342 ⟨rfl, h⟩
  · replace h := mv_ifF z7 h
    by_cases z15 : (M5.1 71 x1.toNatClampNeg) = 2
    · replace h := mv_ifT z15 h
      refine mv_tableIn (off := 138) 239 dX11_work_101 (by rw [z15]; decide) (by rw [z15]; decide) (by rw [z15]; rfl) (by decide) ?_
      refine mv_aload_n 0 dX11_work_239 rfl ?_
      refine mv_bipush 6 dX11_work_240 (by decide) ?_
      refine mv_iload_n 1 dX11_work_242 rfl ?_
      refine mv_iload_n 2 dX11_work_243 rfl ?_
      refine mv_cvV (As := [.int 6, .int x1, .int x2]) (st := []) okX11_task lX11_322 (by decide) rfl rfl rfl (Nat.le_of_ble_eq_true rfl) rfl (Nat.le_of_ble_eq_true rfl) dX11_work_244 (by omega) rfl (zX11_task (d := d - 1) (by omega) 6 x1 x2 M5 (mv_bindE h)) (fun _ M16 h => ?_)
      refine mv_aload_n 0 dX11_work_247 rfl ?_
      refine mv_iconst 1 dX11_work_248 (by decide) ?_
      refine mv_aload_n 0 dX11_work_249 rfl ?_
      refine mv_getR 72 fX11_42 (by decide) rfl rfl rfl dX11_work_250 ?_
      refine mv_iload_n 1 dX11_work_253 rfl ?_
      obtain ⟨hi17, h⟩ := mv_chkE h
      refine mv_ild (by decide) rfl (mv_inE hi17) dX11_work_254 ?_
      refine mv_iload_n 2 dX11_work_255 rfl ?_
      refine mv_cvV (As := [.int 1, .int (M16.1 72 x1.toNatClampNeg), .int x2]) (st := []) okX11_task lX11_322 (by decide) rfl rfl rfl (Nat.le_of_ble_eq_true rfl) rfl (Nat.le_of_ble_eq_true rfl) dX11_work_256 (by omega) rfl (zX11_task (d := d - 1) (by omega) 1 (M16.1 72 x1.toNatClampNeg) x2 M16 (mv_bindE h)) (fun _ M18 h => ?_)
      refine mv_goto 342 dX11_work_259 (by decide) ?_
      exact mv_vret rfl dX11_work_342 ⟨rfl, h⟩
    · replace h := mv_ifF z15 h
      by_cases z19 : (M5.1 71 x1.toNatClampNeg) = 3
      · replace h := mv_ifT z19 h
        refine mv_tableIn (off := 161) 262 dX11_work_101 (by rw [z19]; decide) (by rw [z19]; decide) (by rw [z19]; rfl) (by decide) ?_
        refine mv_aload_n 0 dX11_work_262 rfl ?_
        refine mv_getR 103 fX11_136 (by decide) rfl rfl rfl dX11_work_263 ?_
        refine mv_bipush 16 dX11_work_266 (by decide) ?_
        refine mv_iload_n 2 dX11_work_268 rfl ?_
        refine mv_imul dX11_work_269 ?_
        refine mv_aload_n 0 dX11_work_270 rfl ?_
        refine mv_getR 74 fX11_48 (by decide) rfl rfl rfl dX11_work_271 ?_
        refine mv_iload_n 1 dX11_work_274 rfl ?_
        obtain ⟨hi20, h⟩ := mv_chkE h
        refine mv_ild (by decide) rfl (mv_inE hi20) dX11_work_275 ?_
        refine mv_iadd dX11_work_276 ?_
        refine mv_aload_n 0 dX11_work_277 rfl ?_
        refine mv_aload_n 0 dX11_work_278 rfl ?_
        refine mv_getR 72 fX11_42 (by decide) rfl rfl rfl dX11_work_279 ?_
        refine mv_iload_n 1 dX11_work_282 rfl ?_
        obtain ⟨hi21, h⟩ := mv_chkE h
        refine mv_ild (by decide) rfl (mv_inE hi21) dX11_work_283 ?_
        refine mv_iload_n 2 dX11_work_284 rfl ?_
        refine mv_cvI (As := [.int (M5.1 72 x1.toNatClampNeg), .int x2]) (st := [.int ((16 * x2) + (M5.1 74 x1.toNatClampNeg)), .ref 103]) okX11_thing lX11_447 (by decide) rfl rfl rfl (Nat.le_of_ble_eq_true rfl) rfl (Nat.le_of_ble_eq_true rfl) dX11_work_285 (by omega) rfl (zX11_thing (d := d - 1) (by omega) (M5.1 72 x1.toNatClampNeg) x2 M5 (mv_bindE h)) (fun r22 M23 h => ?_)
        obtain ⟨hi24, h⟩ := mv_chkE h
        refine mv_ist (by decide) rfl (mv_inE hi24) dX11_work_288 (fun M25 eM25 => ?_)
        replace h := mv_letE h M25 eM25
        refine mv_aload_n 0 dX11_work_289 rfl ?_
        refine mv_iconst 1 dX11_work_290 (by decide) ?_
        refine mv_aload_n 0 dX11_work_291 rfl ?_
        refine mv_getR 73 fX11_45 (by decide) rfl rfl rfl dX11_work_292 ?_
        refine mv_iload_n 1 dX11_work_295 rfl ?_
        obtain ⟨hi26, h⟩ := mv_chkE h
        refine mv_ild (by decide) rfl (mv_inE hi26) dX11_work_296 ?_
        refine mv_iload_n 2 dX11_work_297 rfl ?_
        refine mv_cvV (As := [.int 1, .int (M25.1 73 x1.toNatClampNeg), .int x2]) (st := []) okX11_task lX11_322 (by decide) rfl rfl rfl (Nat.le_of_ble_eq_true rfl) rfl (Nat.le_of_ble_eq_true rfl) dX11_work_298 (by omega) rfl (zX11_task (d := d - 1) (by omega) 1 (M25.1 73 x1.toNatClampNeg) x2 M25 (mv_bindE h)) (fun _ M27 h => ?_)
        refine mv_goto 342 dX11_work_301 (by decide) ?_
        exact mv_vret rfl dX11_work_342 ⟨rfl, h⟩
      · replace h := mv_ifF z19 h
        by_cases z28 : (M5.1 71 x1.toNatClampNeg) = 4
        · replace h := mv_ifT z28 h
          refine mv_tableIn (off := 203) 304 dX11_work_101 (by rw [z28]; decide) (by rw [z28]; decide) (by rw [z28]; rfl) (by decide) ?_
          refine mv_aload_n 0 dX11_work_304 rfl ?_
          refine mv_bipush 7 dX11_work_305 (by decide) ?_
          refine mv_iload_n 1 dX11_work_307 rfl ?_
          refine mv_iload_n 2 dX11_work_308 rfl ?_
          refine mv_cvV (As := [.int 7, .int x1, .int x2]) (st := []) okX11_task lX11_322 (by decide) rfl rfl rfl (Nat.le_of_ble_eq_true rfl) rfl (Nat.le_of_ble_eq_true rfl) dX11_work_309 (by omega) rfl (zX11_task (d := d - 1) (by omega) 7 x1 x2 M5 (mv_bindE h)) (fun _ M29 h => ?_)
          refine mv_aload_n 0 dX11_work_312 rfl ?_
          refine mv_iconst 1 dX11_work_313 (by decide) ?_
          refine mv_aload_n 0 dX11_work_314 rfl ?_
          refine mv_getR 72 fX11_42 (by decide) rfl rfl rfl dX11_work_315 ?_
          refine mv_iload_n 1 dX11_work_318 rfl ?_
          obtain ⟨hi30, h⟩ := mv_chkE h
          refine mv_ild (by decide) rfl (mv_inE hi30) dX11_work_319 ?_
          refine mv_iload_n 2 dX11_work_320 rfl ?_
          refine mv_cvV (As := [.int 1, .int (M29.1 72 x1.toNatClampNeg), .int x2]) (st := []) okX11_task lX11_322 (by decide) rfl rfl rfl (Nat.le_of_ble_eq_true rfl) rfl (Nat.le_of_ble_eq_true rfl) dX11_work_321 (by omega) rfl (zX11_task (d := d - 1) (by omega) 1 (M29.1 72 x1.toNatClampNeg) x2 M29 (mv_bindE h)) (fun _ M31 h => ?_)
          refine mv_goto 342 dX11_work_324 (by decide) ?_
          exact mv_vret rfl dX11_work_342 ⟨rfl, h⟩
        · replace h := mv_ifF z28 h
          by_cases z32 : (M5.1 71 x1.toNatClampNeg) = 5
          · replace h := mv_ifT z32 h
            refine mv_tableIn (off := 47) 148 dX11_work_101 (by rw [z32]; decide) (by rw [z32]; decide) (by rw [z32]; rfl) (by decide) ?_
            refine mv_aload_n 0 dX11_work_148 rfl ?_
            refine mv_iconst 0 dX11_work_149 (by decide) ?_
            refine mv_aload_n 0 dX11_work_150 rfl ?_
            refine mv_getR 72 fX11_42 (by decide) rfl rfl rfl dX11_work_151 ?_
            refine mv_iload_n 1 dX11_work_154 rfl ?_
            obtain ⟨hi33, h⟩ := mv_chkE h
            refine mv_ild (by decide) rfl (mv_inE hi33) dX11_work_155 ?_
            refine mv_cvV (As := [.int 0, .int (M5.1 72 x1.toNatClampNeg)]) (st := []) okX11_gives lX11_420 (by decide) rfl rfl rfl (Nat.le_of_ble_eq_true rfl) rfl (Nat.le_of_ble_eq_true rfl) dX11_work_156 (by omega) rfl (zX11_gives (d := d - 1) (by omega) 0 (M5.1 72 x1.toNatClampNeg) M5 (mv_bindE h)) (fun _ M34 h => ?_)
            refine mv_goto 342 dX11_work_159 (by decide) ?_
            exact mv_vret rfl dX11_work_342 ⟨rfl, h⟩
          · replace h := mv_ifF z32 h
            by_cases z35 : (M5.1 71 x1.toNatClampNeg) = 6
            · replace h := mv_ifT z35 h
              refine mv_tableIn (off := 61) 162 dX11_work_101 (by rw [z35]; decide) (by rw [z35]; decide) (by rw [z35]; rfl) (by decide) ?_
              refine mv_aload_n 0 dX11_work_162 rfl ?_
              refine mv_iconst 2 dX11_work_163 (by decide) ?_
              refine mv_putI fX11_408 (by decide) rfl rfl dX11_work_164 (fun M36 eM36 => ?_)
              replace h := mv_letE h M36 eM36
              refine mv_goto 342 dX11_work_167 (by decide) ?_
              exact mv_vret rfl dX11_work_342 ⟨rfl, h⟩
            · replace h := mv_ifF z35 h
              by_cases z37 : (M5.1 71 x1.toNatClampNeg) = 7
              · replace h := mv_ifT z37 h
                refine mv_tableIn (off := 69) 170 dX11_work_101 (by rw [z37]; decide) (by rw [z37]; decide) (by rw [z37]; rfl) (by decide) ?_
                refine mv_aload_n 0 dX11_work_170 rfl ?_
                refine mv_aload_n 0 dX11_work_171 rfl ?_
                refine mv_getR 103 fX11_136 (by decide) rfl rfl rfl dX11_work_172 ?_
                refine mv_bipush 16 dX11_work_175 (by decide) ?_
                refine mv_iload_n 2 dX11_work_177 rfl ?_
                refine mv_imul dX11_work_178 ?_
                refine mv_aload_n 0 dX11_work_179 rfl ?_
                refine mv_getR 72 fX11_42 (by decide) rfl rfl rfl dX11_work_180 ?_
                refine mv_iload_n 1 dX11_work_183 rfl ?_
                obtain ⟨hi38, h⟩ := mv_chkE h
                refine mv_ild (by decide) rfl (mv_inE hi38) dX11_work_184 ?_
                refine mv_iadd dX11_work_185 ?_
                obtain ⟨hi39, h⟩ := mv_chkE h
                refine mv_ild (by decide) rfl (mv_inE hi39) dX11_work_186 ?_
                refine mv_cvV (As := [.int (M5.1 103 ((16 * x2) + (M5.1 72 x1.toNatClampNeg)).toNatClampNeg)]) (st := []) okX11_need lX11_432 (by decide) rfl rfl rfl (Nat.le_of_ble_eq_true rfl) rfl (Nat.le_of_ble_eq_true rfl) dX11_work_187 (by omega) rfl (zX11_need (d := d - 1) (by omega) (M5.1 103 ((16 * x2) + (M5.1 72 x1.toNatClampNeg)).toNatClampNeg) M5 (mv_bindE h)) (fun _ M40 h => ?_)
                refine mv_goto 342 dX11_work_190 (by decide) ?_
                exact mv_vret rfl dX11_work_342 ⟨rfl, h⟩
              · replace h := mv_ifF z37 h
                by_cases z41 : (M5.1 71 x1.toNatClampNeg) = 8
                · replace h := mv_ifT z41 h
                  refine mv_tableIn (off := 226) 327 dX11_work_101 (by rw [z41]; decide) (by rw [z41]; decide) (by rw [z41]; rfl) (by decide) ?_
                  refine mv_aload_n 0 dX11_work_327 rfl ?_
                  refine mv_iload_n 1 dX11_work_328 rfl ?_
                  refine mv_iload_n 2 dX11_work_329 rfl ?_
                  refine mv_cvV (As := [.int x1, .int x2]) (st := []) okX11_called lX11_450 (by decide) rfl rfl rfl (Nat.le_of_ble_eq_true rfl) rfl (Nat.le_of_ble_eq_true rfl) dX11_work_330 (by omega) rfl (zX11_called (d := d - 1) (by omega) x1 x2 M5 (mv_bindE h)) (fun _ M42 h => ?_)
                  refine mv_goto 342 dX11_work_333 (by decide) ?_
                  exact mv_vret rfl dX11_work_342 ⟨rfl, h⟩
                · replace h := mv_ifF z41 h
                  refine mv_tableOut 336 dX11_work_101 (by have q0 := mv_ne 1 (v := 1) (by decide) z7; have q1 := mv_ne 2 (v := 2) (by decide) z15; have q2 := mv_ne 3 (v := 3) (by decide) z19; have q3 := mv_ne 4 (v := 4) (by decide) z28; have q4 := mv_ne 5 (v := 5) (by decide) z32; have q5 := mv_ne 6 (v := 6) (by decide) z35; have q6 := mv_ne 7 (v := 7) (by decide) z37; have q7 := mv_ne 8 (v := 8) (by decide) z41; omega) (by decide) ?_
                  refine mv_aload_n 0 dX11_work_336 rfl ?_
                  refine mv_iload_n 1 dX11_work_337 rfl ?_
                  refine mv_iload_n 2 dX11_work_338 rfl ?_
                  refine mv_cvV (As := [.int x1, .int x2]) (st := []) okX11_paired lX11_453 (by decide) rfl rfl rfl (Nat.le_of_ble_eq_true rfl) rfl (Nat.le_of_ble_eq_true rfl) dX11_work_339 (by omega) rfl (zX11_paired (d := d - 1) (by omega) x1 x2 M5 (mv_bindE h)) (fun _ M43 h => ?_)
                  exact mv_vret rfl dX11_work_342 ⟨rfl, h⟩
noncomputable def fX11_work_31 (x1 : Int32) (x2 : Int32) (s0 : Int32) (M : mv_M) : Option (Unit × mv_M) :=
  mv_let (mv_si M 62 74 s0) fun M1 =>
  if (M1.1 62 74) = 0 then
    mv_let (mv_si M1 62 70 ((M1.1 62 70) + 1)) fun M2 =>
    mv_let (mv_si M2 62 72 ((M2.1 62 72) + 1)) fun M3 =>
    if (M3.1 62 72) ≤ (M3.1 62 73) then
      fX11_work_85 x1 x2 (M3.1 62 73) M3
    else
      fX11_work_85 x1 x2 (M3.1 62 72) M3
  else
    some ((), M1)
set_option maxRecDepth 100000 in
set_option maxHeartbeats 4000000 in
theorem zX11_work_31 {l : Launch} {d : Nat} {Q : Unit → mv_M → Prop} (hd : 3 ≤ d) (x1 : Int32) (x2 : Int32) (s0 : Int32) (M : mv_M) (h : mv_ok (fX11_work_31 x1 x2 s0 M) Q) : mv l mX11_work d 0 31 [(0, .ref 62), (1, .int x1), (2, .int x2)] [.int s0, .ref 62] M (mv_qV Q) := by
  unfold fX11_work_31 at h
  refine mv_putI fX11_408 (by decide) rfl rfl dX11_work_31 (fun M1 eM1 => ?_)
  replace h := mv_letE h M1 eM1
  refine mv_aload_n 0 dX11_work_34 rfl ?_
  refine mv_getI fX11_408 (by decide) rfl rfl dX11_work_35 ?_
  refine mv_if_eq 42 dX11_work_38 (by decide) (fun z => ?_) (fun z => ?_)
  · replace h := mv_ifT z h
    refine mv_aload_n 0 dX11_work_42 rfl ?_
    refine mv_dup dX11_work_43 rfl ?_
    refine mv_getI fX11_438 (by decide) rfl rfl dX11_work_44 ?_
    refine mv_iconst 1 dX11_work_47 (by decide) ?_
    refine mv_iadd dX11_work_48 ?_
    refine mv_putI fX11_438 (by decide) rfl rfl dX11_work_49 (fun M2 eM2 => ?_)
    replace h := mv_letE h M2 eM2
    refine mv_aload_n 0 dX11_work_52 rfl ?_
    refine mv_dup dX11_work_53 rfl ?_
    refine mv_getI fX11_426 (by decide) rfl rfl dX11_work_54 ?_
    refine mv_iconst 1 dX11_work_57 (by decide) ?_
    refine mv_iadd dX11_work_58 ?_
    refine mv_putI fX11_426 (by decide) rfl rfl dX11_work_59 (fun M3 eM3 => ?_)
    replace h := mv_letE h M3 eM3
    refine mv_aload_n 0 dX11_work_62 rfl ?_
    refine mv_aload_n 0 dX11_work_63 rfl ?_
    refine mv_getI fX11_426 (by decide) rfl rfl dX11_work_64 ?_
    refine mv_aload_n 0 dX11_work_67 rfl ?_
    refine mv_getI fX11_444 (by decide) rfl rfl dX11_work_68 ?_
    refine mv_icmp_le 81 dX11_work_71 (by decide) (fun z => ?_) (fun z => ?_)
    · replace h := mv_ifT z h
      refine mv_aload_n 0 dX11_work_81 rfl ?_
      refine mv_getI fX11_444 (by decide) rfl rfl dX11_work_82 ?_
      refine mv_sub [0, 1, 2] rfl ?_
      exact zX11_work_85 hd x1 x2 (M3.1 62 73) M3 h
    · replace h := mv_ifF z h
      refine mv_aload_n 0 dX11_work_74 rfl ?_
      refine mv_getI fX11_426 (by decide) rfl rfl dX11_work_75 ?_
      refine mv_goto 85 dX11_work_78 (by decide) ?_
      refine mv_sub [0, 1, 2] rfl ?_
      exact zX11_work_85 hd x1 x2 (M3.1 62 72) M3 h
  · replace h := mv_ifF z h
    exact mv_vret rfl dX11_work_41 ⟨rfl, h⟩
noncomputable def fX11_work (a0 : Int32) (a1 : Int32) (M : mv_M) : Option (Unit × mv_M) :=
  if (M.1 62 70) = (M.1 62 71) then
    fX11_work_31 a0 a1 3 M
  else
    if (M.1 62 72) = 150 then
      fX11_work_31 a0 a1 4 M
    else
      fX11_work_31 a0 a1 0 M
set_option maxRecDepth 100000 in
set_option maxHeartbeats 4000000 in
theorem zX11_work {l : Launch} {d : Nat} {Q : Unit → mv_M → Prop} (hd : 3 ≤ d) (a0 : Int32) (a1 : Int32) (M : mv_M) (h : mv_ok (fX11_work a0 a1 M) Q) : mv l mX11_work d 0 0 (lv_args 0 [.ref 62, .int a0, .int a1]) [] M (mv_qV Q) := by
  unfold fX11_work at h
  show mv l mX11_work d 0 0 [(0, .ref 62), (1, .int a0), (2, .int a1)] [] M (mv_qV Q)
  refine mv_aload_n 0 dX11_work_0 rfl ?_
  refine mv_aload_n 0 dX11_work_1 rfl ?_
  refine mv_getI fX11_438 (by decide) rfl rfl dX11_work_2 ?_
  refine mv_aload_n 0 dX11_work_5 rfl ?_
  refine mv_getI fX11_441 (by decide) rfl rfl dX11_work_6 ?_
  refine mv_icmp_ne 16 dX11_work_9 (by decide) (fun z => ?_) (fun z => ?_)
  · replace h := mv_ifF z h
    refine mv_aload_n 0 dX11_work_16 rfl ?_
    refine mv_getI fX11_426 (by decide) rfl rfl dX11_work_17 ?_
    refine mv_sipush 150 dX11_work_20 (by decide) ?_
    refine mv_icmp_ne 30 dX11_work_23 (by decide) (fun z => ?_) (fun z => ?_)
    · replace h := mv_ifF z h
      refine mv_iconst 0 dX11_work_30 (by decide) ?_
      refine mv_sub [0, 1, 2] rfl ?_
      exact zX11_work_31 hd a0 a1 0 M h
    · replace h := mv_ifT z h
      refine mv_iconst 4 dX11_work_26 (by decide) ?_
      refine mv_goto 31 dX11_work_27 (by decide) ?_
      refine mv_sub [0, 1, 2] rfl ?_
      exact zX11_work_31 hd a0 a1 4 M h
  · replace h := mv_ifT z h
    refine mv_iconst 3 dX11_work_12 (by decide) ?_
    refine mv_goto 31 dX11_work_13 (by decide) ?_
    refine mv_sub [0, 1, 2] rfl ?_
    exact zX11_work_31 hd a0 a1 3 M h
theorem dX11_demand_0 : decode cX11_demand 0 = .ok (.iload_n 1, 1) := by decide +kernel
theorem dX11_demand_1 : decode cX11_demand 1 = .ok (.ifCond .eq 7, 3) := by decide +kernel
theorem dX11_demand_4 : decode cX11_demand 4 = .ok (.iload_n 2, 1) := by decide +kernel
theorem dX11_demand_5 : decode cX11_demand 5 = .ok (.ifCond .ne 4, 3) := by decide +kernel
theorem dX11_demand_8 : decode cX11_demand 8 = .ok (.return_, 1) := by decide +kernel
theorem dX11_demand_9 : decode cX11_demand 9 = .ok (.aload_n 0, 1) := by decide +kernel
theorem dX11_demand_10 : decode cX11_demand 10 = .ok (.getfield 417, 3) := by decide +kernel
theorem dX11_demand_13 : decode cX11_demand 13 = .ok (.istore_n 3, 1) := by decide +kernel
theorem dX11_demand_14 : decode cX11_demand 14 = .ok (.iload_n 1, 1) := by decide +kernel
theorem dX11_demand_15 : decode cX11_demand 15 = .ok (.invokestatic 162, 3) := by decide +kernel
theorem dX11_demand_18 : decode cX11_demand 18 = .ok (.invokestatic 166, 3) := by decide +kernel
theorem dX11_demand_21 : decode cX11_demand 21 = .ok (.istore 4, 2) := by decide +kernel
theorem dX11_demand_23 : decode cX11_demand 23 = .ok (.iload_n 2, 1) := by decide +kernel
theorem dX11_demand_24 : decode cX11_demand 24 = .ok (.iconst 1, 1) := by decide +kernel
theorem dX11_demand_25 : decode cX11_demand 25 = .ok (.isub, 1) := by decide +kernel
theorem dX11_demand_26 : decode cX11_demand 26 = .ok (.iload 4, 2) := by decide +kernel
theorem dX11_demand_28 : decode cX11_demand 28 = .ok (.irem, 1) := by decide +kernel
theorem dX11_demand_29 : decode cX11_demand 29 = .ok (.ifCond .le 32, 3) := by decide +kernel
theorem dX11_demand_32 : decode cX11_demand 32 = .ok (.aload_n 0, 1) := by decide +kernel
theorem dX11_demand_33 : decode cX11_demand 33 = .ok (.bipush 9, 2) := by decide +kernel
theorem dX11_demand_35 : decode cX11_demand 35 = .ok (.iload_n 1, 1) := by decide +kernel
theorem dX11_demand_36 : decode cX11_demand 36 = .ok (.invokestatic 162, 3) := by decide +kernel
theorem dX11_demand_39 : decode cX11_demand 39 = .ok (.iload_n 2, 1) := by decide +kernel
theorem dX11_demand_40 : decode cX11_demand 40 = .ok (.iconst 1, 1) := by decide +kernel
theorem dX11_demand_41 : decode cX11_demand 41 = .ok (.isub, 1) := by decide +kernel
theorem dX11_demand_42 : decode cX11_demand 42 = .ok (.iload 4, 2) := by decide +kernel
theorem dX11_demand_44 : decode cX11_demand 44 = .ok (.irem, 1) := by decide +kernel
theorem dX11_demand_45 : decode cX11_demand 45 = .ok (.invokevirtual 322, 3) := by decide +kernel
theorem dX11_demand_48 : decode cX11_demand 48 = .ok (.aload_n 0, 1) := by decide +kernel
theorem dX11_demand_49 : decode cX11_demand 49 = .ok (.bipush 8, 2) := by decide +kernel
theorem dX11_demand_51 : decode cX11_demand 51 = .ok (.aload_n 0, 1) := by decide +kernel
theorem dX11_demand_52 : decode cX11_demand 52 = .ok (.getfield 133, 3) := by decide +kernel
theorem dX11_demand_55 : decode cX11_demand 55 = .ok (.iload_n 3, 1) := by decide +kernel
theorem dX11_demand_56 : decode cX11_demand 56 = .ok (.iaload, 1) := by decide +kernel
theorem dX11_demand_57 : decode cX11_demand 57 = .ok (.iconst 0, 1) := by decide +kernel
theorem dX11_demand_58 : decode cX11_demand 58 = .ok (.invokevirtual 322, 3) := by decide +kernel
theorem dX11_demand_61 : decode cX11_demand 61 = .ok (.iload_n 2, 1) := by decide +kernel
theorem dX11_demand_62 : decode cX11_demand 62 = .ok (.iconst 1, 1) := by decide +kernel
theorem dX11_demand_63 : decode cX11_demand 63 = .ok (.isub, 1) := by decide +kernel
theorem dX11_demand_64 : decode cX11_demand 64 = .ok (.iload 4, 2) := by decide +kernel
theorem dX11_demand_66 : decode cX11_demand 66 = .ok (.idiv, 1) := by decide +kernel
theorem dX11_demand_67 : decode cX11_demand 67 = .ok (.ifCond .le 32, 3) := by decide +kernel
theorem dX11_demand_70 : decode cX11_demand 70 = .ok (.aload_n 0, 1) := by decide +kernel
theorem dX11_demand_71 : decode cX11_demand 71 = .ok (.bipush 9, 2) := by decide +kernel
theorem dX11_demand_73 : decode cX11_demand 73 = .ok (.iload_n 1, 1) := by decide +kernel
theorem dX11_demand_74 : decode cX11_demand 74 = .ok (.invokestatic 169, 3) := by decide +kernel
theorem dX11_demand_77 : decode cX11_demand 77 = .ok (.iload_n 2, 1) := by decide +kernel
theorem dX11_demand_78 : decode cX11_demand 78 = .ok (.iconst 1, 1) := by decide +kernel
theorem dX11_demand_79 : decode cX11_demand 79 = .ok (.isub, 1) := by decide +kernel
theorem dX11_demand_80 : decode cX11_demand 80 = .ok (.iload 4, 2) := by decide +kernel
theorem dX11_demand_82 : decode cX11_demand 82 = .ok (.idiv, 1) := by decide +kernel
theorem dX11_demand_83 : decode cX11_demand 83 = .ok (.invokevirtual 322, 3) := by decide +kernel
theorem dX11_demand_86 : decode cX11_demand 86 = .ok (.aload_n 0, 1) := by decide +kernel
theorem dX11_demand_87 : decode cX11_demand 87 = .ok (.bipush 8, 2) := by decide +kernel
theorem dX11_demand_89 : decode cX11_demand 89 = .ok (.aload_n 0, 1) := by decide +kernel
theorem dX11_demand_90 : decode cX11_demand 90 = .ok (.getfield 130, 3) := by decide +kernel
theorem dX11_demand_93 : decode cX11_demand 93 = .ok (.iload_n 3, 1) := by decide +kernel
theorem dX11_demand_94 : decode cX11_demand 94 = .ok (.iaload, 1) := by decide +kernel
theorem dX11_demand_95 : decode cX11_demand 95 = .ok (.iconst 0, 1) := by decide +kernel
theorem dX11_demand_96 : decode cX11_demand 96 = .ok (.invokevirtual 322, 3) := by decide +kernel
theorem dX11_demand_99 : decode cX11_demand 99 = .ok (.return_, 1) := by decide +kernel
noncomputable def fX11_demand_61 (x1 : Int32) (x2 : Int32) (x3 : Int32) (x4 : Int32) (M : mv_M) : Option (Unit × mv_M) :=
  mv_chk (mv_nz x4) <|
  if ((x2 - 1) / x4) ≤ 0 then
    some ((), M)
  else
    mv_bind (fX11_firstOf x1 M) fun r14 M15 =>
    mv_chk (mv_nz x4) <|
    mv_bind (fX11_task 9 r14 ((x2 - 1) / x4) M15) fun _ M17 =>
    mv_chk (mv_inb x3 1540) <|
    mv_bind (fX11_task 8 (M17.1 101 x3.toNatClampNeg) 0 M17) fun _ M19 =>
    some ((), M19)
set_option maxRecDepth 100000 in
set_option maxHeartbeats 4000000 in
theorem zX11_demand_61 {l : Launch} {d : Nat} {Q : Unit → mv_M → Prop} (hd : 2 ≤ d) (x1 : Int32) (x2 : Int32) (x3 : Int32) (x4 : Int32) (M : mv_M) (h : mv_ok (fX11_demand_61 x1 x2 x3 x4 M) Q) : mv l mX11_demand d 0 61 [(0, .ref 62), (1, .int x1), (2, .int x2), (3, .int x3), (4, .int x4)] [] M (mv_qV Q) := by
  unfold fX11_demand_61 at h
  refine mv_iload_n 2 dX11_demand_61 rfl ?_
  refine mv_iconst 1 dX11_demand_62 (by decide) ?_
  refine mv_isub dX11_demand_63 ?_
  refine mv_iload 4 dX11_demand_64 rfl ?_
  obtain ⟨hz13, h⟩ := mv_chkE h
  refine mv_idiv dX11_demand_66 (mv_nzE hz13) ?_
  refine mv_if_le 99 dX11_demand_67 (by decide) (fun z => ?_) (fun z => ?_)
  · replace h := mv_ifT z h
    exact mv_vret rfl dX11_demand_99 ⟨rfl, h⟩
  · replace h := mv_ifF z h
    refine mv_aload_n 0 dX11_demand_70 rfl ?_
    refine mv_bipush 9 dX11_demand_71 (by decide) ?_
    refine mv_iload_n 1 dX11_demand_73 rfl ?_
    refine mv_csI (As := [.int x1]) (st := [.int 9, .ref 62]) okX11_firstOf lX11_169 rfl (Nat.le_of_ble_eq_true rfl) rfl (Nat.le_of_ble_eq_true rfl) dX11_demand_74 (by omega) rfl (zX11_firstOf (d := d - 1) (by omega) x1 M (mv_bindE h)) (fun r14 M15 h => ?_)
    refine mv_iload_n 2 dX11_demand_77 rfl ?_
    refine mv_iconst 1 dX11_demand_78 (by decide) ?_
    refine mv_isub dX11_demand_79 ?_
    refine mv_iload 4 dX11_demand_80 rfl ?_
    obtain ⟨hz16, h⟩ := mv_chkE h
    refine mv_idiv dX11_demand_82 (mv_nzE hz16) ?_
    refine mv_cvV (As := [.int 9, .int r14, .int ((x2 - 1) / x4)]) (st := []) okX11_task lX11_322 (by decide) rfl rfl rfl (Nat.le_of_ble_eq_true rfl) rfl (Nat.le_of_ble_eq_true rfl) dX11_demand_83 (by omega) rfl (zX11_task (d := d - 1) (by omega) 9 r14 ((x2 - 1) / x4) M15 (mv_bindE h)) (fun _ M17 h => ?_)
    refine mv_aload_n 0 dX11_demand_86 rfl ?_
    refine mv_bipush 8 dX11_demand_87 (by decide) ?_
    refine mv_aload_n 0 dX11_demand_89 rfl ?_
    refine mv_getR 101 fX11_130 (by decide) rfl rfl rfl dX11_demand_90 ?_
    refine mv_iload_n 3 dX11_demand_93 rfl ?_
    obtain ⟨hi18, h⟩ := mv_chkE h
    refine mv_ild (by decide) rfl (mv_inE hi18) dX11_demand_94 ?_
    refine mv_iconst 0 dX11_demand_95 (by decide) ?_
    refine mv_cvV (As := [.int 8, .int (M17.1 101 x3.toNatClampNeg), .int 0]) (st := []) okX11_task lX11_322 (by decide) rfl rfl rfl (Nat.le_of_ble_eq_true rfl) rfl (Nat.le_of_ble_eq_true rfl) dX11_demand_96 (by omega) rfl (zX11_task (d := d - 1) (by omega) 8 (M17.1 101 x3.toNatClampNeg) 0 M17 (mv_bindE h)) (fun _ M19 h => ?_)
    exact mv_vret rfl dX11_demand_99 ⟨rfl, h⟩
noncomputable def fX11_demand (a0 : Int32) (a1 : Int32) (M : mv_M) : Option (Unit × mv_M) :=
  if a0 = 0 then
    some ((), M)
  else
    if a1 = 0 then
      some ((), M)
    else
      mv_let (M.1 62 78) fun v1 =>
      mv_bind (fX11_secondOf a0 M) fun r2 M3 =>
      mv_bind (fX11_demands r2 M3) fun r4 M5 =>
      mv_chk (mv_nz r4) <|
      if ((a1 - 1) - (a1 - 1) / r4 * r4) ≤ 0 then
        fX11_demand_61 a0 a1 v1 r4 M5
      else
        mv_bind (fX11_secondOf a0 M5) fun r7 M8 =>
        mv_chk (mv_nz r4) <|
        mv_bind (fX11_task 9 r7 ((a1 - 1) - (a1 - 1) / r4 * r4) M8) fun _ M10 =>
        mv_chk (mv_inb v1 1540) <|
        mv_bind (fX11_task 8 (M10.1 102 v1.toNatClampNeg) 0 M10) fun _ M12 =>
        fX11_demand_61 a0 a1 v1 r4 M12
set_option maxRecDepth 100000 in
set_option maxHeartbeats 4000000 in
theorem zX11_demand {l : Launch} {d : Nat} {Q : Unit → mv_M → Prop} (hd : 2 ≤ d) (a0 : Int32) (a1 : Int32) (M : mv_M) (h : mv_ok (fX11_demand a0 a1 M) Q) : mv l mX11_demand d 0 0 (lv_args 0 [.ref 62, .int a0, .int a1]) [] M (mv_qV Q) := by
  unfold fX11_demand at h
  show mv l mX11_demand d 0 0 [(0, .ref 62), (1, .int a0), (2, .int a1)] [] M (mv_qV Q)
  refine mv_iload_n 1 dX11_demand_0 rfl ?_
  refine mv_if_eq 8 dX11_demand_1 (by decide) (fun z => ?_) (fun z => ?_)
  · replace h := mv_ifT z h
    exact mv_vret rfl dX11_demand_8 ⟨rfl, h⟩
  · replace h := mv_ifF z h
    refine mv_iload_n 2 dX11_demand_4 rfl ?_
    refine mv_if_ne 9 dX11_demand_5 (by decide) (fun z => ?_) (fun z => ?_)
    · replace h := mv_ifF z h
      refine mv_aload_n 0 dX11_demand_9 rfl ?_
      refine mv_getI fX11_417 (by decide) rfl rfl dX11_demand_10 ?_
      refine mv_topi (fun v1 ev1 => ?_)
      replace h := mv_letE h v1 ev1
      refine mv_istore_n [(3, .int v1), (0, .ref 62), (1, .int a0), (2, .int a1)] dX11_demand_13 (by decide) rfl ?_
      refine mv_iload_n 2 dX11_demand_14 rfl ?_
      refine mv_csI (As := [.int a0]) (st := []) okX11_secondOf lX11_162 rfl (Nat.le_of_ble_eq_true rfl) rfl (Nat.le_of_ble_eq_true rfl) dX11_demand_15 (by omega) rfl (zX11_secondOf (d := d - 1) (by omega) a0 M (mv_bindE h)) (fun r2 M3 h => ?_)
      refine mv_csI (As := [.int r2]) (st := []) okX11_demands lX11_166 rfl (Nat.le_of_ble_eq_true rfl) rfl (Nat.le_of_ble_eq_true rfl) dX11_demand_18 (by omega) rfl (zX11_demands (d := d - 1) (by omega) r2 M3 (mv_bindE h)) (fun r4 M5 h => ?_)
      refine mv_istore [(4, .int r4), (3, .int v1), (0, .ref 62), (1, .int a0), (2, .int a1)] dX11_demand_21 (by decide) rfl ?_
      refine mv_iload_n 4 dX11_demand_23 rfl ?_
      refine mv_iconst 1 dX11_demand_24 (by decide) ?_
      refine mv_isub dX11_demand_25 ?_
      refine mv_iload 0 dX11_demand_26 rfl ?_
      obtain ⟨hz6, h⟩ := mv_chkE h
      refine mv_irem dX11_demand_28 (mv_nzE hz6) ?_
      refine mv_if_le 61 dX11_demand_29 (by decide) (fun z => ?_) (fun z => ?_)
      · replace h := mv_ifT z h
        refine mv_sub [2, 3, 4, 1, 0] rfl ?_
        exact zX11_demand_61 hd a0 a1 v1 r4 M5 h
      · replace h := mv_ifF z h
        refine mv_aload_n 2 dX11_demand_32 rfl ?_
        refine mv_bipush 9 dX11_demand_33 (by decide) ?_
        refine mv_iload_n 3 dX11_demand_35 rfl ?_
        refine mv_csI (As := [.int a0]) (st := [.int 9, .ref 62]) okX11_secondOf lX11_162 rfl (Nat.le_of_ble_eq_true rfl) rfl (Nat.le_of_ble_eq_true rfl) dX11_demand_36 (by omega) rfl (zX11_secondOf (d := d - 1) (by omega) a0 M5 (mv_bindE h)) (fun r7 M8 h => ?_)
        refine mv_iload_n 4 dX11_demand_39 rfl ?_
        refine mv_iconst 1 dX11_demand_40 (by decide) ?_
        refine mv_isub dX11_demand_41 ?_
        refine mv_iload 0 dX11_demand_42 rfl ?_
        obtain ⟨hz9, h⟩ := mv_chkE h
        refine mv_irem dX11_demand_44 (mv_nzE hz9) ?_
        refine mv_cvV (As := [.int 9, .int r7, .int ((a1 - 1) - (a1 - 1) / r4 * r4)]) (st := []) okX11_task lX11_322 (by decide) rfl rfl rfl (Nat.le_of_ble_eq_true rfl) rfl (Nat.le_of_ble_eq_true rfl) dX11_demand_45 (by omega) rfl (zX11_task (d := d - 1) (by omega) 9 r7 ((a1 - 1) - (a1 - 1) / r4 * r4) M8 (mv_bindE h)) (fun _ M10 h => ?_)
        refine mv_aload_n 2 dX11_demand_48 rfl ?_
        refine mv_bipush 8 dX11_demand_49 (by decide) ?_
        refine mv_aload_n 2 dX11_demand_51 rfl ?_
        refine mv_getR 102 fX11_133 (by decide) rfl rfl rfl dX11_demand_52 ?_
        refine mv_iload_n 1 dX11_demand_55 rfl ?_
        obtain ⟨hi11, h⟩ := mv_chkE h
        refine mv_ild (by decide) rfl (mv_inE hi11) dX11_demand_56 ?_
        refine mv_iconst 0 dX11_demand_57 (by decide) ?_
        refine mv_cvV (As := [.int 8, .int (M10.1 102 v1.toNatClampNeg), .int 0]) (st := []) okX11_task lX11_322 (by decide) rfl rfl rfl (Nat.le_of_ble_eq_true rfl) rfl (Nat.le_of_ble_eq_true rfl) dX11_demand_58 (by omega) rfl (zX11_task (d := d - 1) (by omega) 8 (M10.1 102 v1.toNatClampNeg) 0 M10 (mv_bindE h)) (fun _ M12 h => ?_)
        refine mv_sub [2, 3, 4, 1, 0] rfl ?_
        exact zX11_demand_61 hd a0 a1 v1 r4 M12 h
    · replace h := mv_ifT z h
      exact mv_vret rfl dX11_demand_8 ⟨rfl, h⟩
theorem dX11_goes_0 : decode cX11_goes 0 = .ok (.aload_n 0, 1) := by decide +kernel
theorem dX11_goes_1 : decode cX11_goes 1 = .ok (.getfield 242, 3) := by decide +kernel
theorem dX11_goes_4 : decode cX11_goes 4 = .ok (.ifCond .le 393, 3) := by decide +kernel
theorem dX11_goes_7 : decode cX11_goes 7 = .ok (.aload_n 0, 1) := by decide +kernel
theorem dX11_goes_8 : decode cX11_goes 8 = .ok (.getfield 408, 3) := by decide +kernel
theorem dX11_goes_11 : decode cX11_goes 11 = .ok (.ifCond .ne 386, 3) := by decide +kernel
theorem dX11_goes_14 : decode cX11_goes 14 = .ok (.aload_n 0, 1) := by decide +kernel
theorem dX11_goes_15 : decode cX11_goes 15 = .ok (.dup, 1) := by decide +kernel
theorem dX11_goes_16 : decode cX11_goes 16 = .ok (.getfield 242, 3) := by decide +kernel
theorem dX11_goes_19 : decode cX11_goes 19 = .ok (.iconst 1, 1) := by decide +kernel
theorem dX11_goes_20 : decode cX11_goes 20 = .ok (.isub, 1) := by decide +kernel
theorem dX11_goes_21 : decode cX11_goes 21 = .ok (.putfield 242, 3) := by decide +kernel
theorem dX11_goes_24 : decode cX11_goes 24 = .ok (.aload_n 0, 1) := by decide +kernel
theorem dX11_goes_25 : decode cX11_goes 25 = .ok (.getfield 72, 3) := by decide +kernel
theorem dX11_goes_28 : decode cX11_goes 28 = .ok (.aload_n 0, 1) := by decide +kernel
theorem dX11_goes_29 : decode cX11_goes 29 = .ok (.getfield 242, 3) := by decide +kernel
theorem dX11_goes_32 : decode cX11_goes 32 = .ok (.iaload, 1) := by decide +kernel
theorem dX11_goes_33 : decode cX11_goes 33 = .ok (.istore_n 1, 1) := by decide +kernel
theorem dX11_goes_34 : decode cX11_goes 34 = .ok (.aload_n 0, 1) := by decide +kernel
theorem dX11_goes_35 : decode cX11_goes 35 = .ok (.getfield 81, 3) := by decide +kernel
theorem dX11_goes_38 : decode cX11_goes 38 = .ok (.aload_n 0, 1) := by decide +kernel
theorem dX11_goes_39 : decode cX11_goes 39 = .ok (.getfield 242, 3) := by decide +kernel
theorem dX11_goes_42 : decode cX11_goes 42 = .ok (.iaload, 1) := by decide +kernel
theorem dX11_goes_43 : decode cX11_goes 43 = .ok (.istore_n 2, 1) := by decide +kernel
theorem dX11_goes_44 : decode cX11_goes 44 = .ok (.aload_n 0, 1) := by decide +kernel
theorem dX11_goes_45 : decode cX11_goes 45 = .ok (.getfield 69, 3) := by decide +kernel
theorem dX11_goes_48 : decode cX11_goes 48 = .ok (.aload_n 0, 1) := by decide +kernel
theorem dX11_goes_49 : decode cX11_goes 49 = .ok (.getfield 242, 3) := by decide +kernel
theorem dX11_goes_52 : decode cX11_goes 52 = .ok (.iaload, 1) := by decide +kernel
theorem dX11_goes_53 : decode cX11_goes 53 = .ok (.tableswitch 335 1 8 #[47, 56, 69, 99, 125, 229, 260, 327], 47) := by decide +kernel
theorem dX11_goes_100 : decode cX11_goes 100 = .ok (.aload_n 0, 1) := by decide +kernel
theorem dX11_goes_101 : decode cX11_goes 101 = .ok (.iload_n 1, 1) := by decide +kernel
theorem dX11_goes_102 : decode cX11_goes 102 = .ok (.iload_n 2, 1) := by decide +kernel
theorem dX11_goes_103 : decode cX11_goes 103 = .ok (.invokevirtual 423, 3) := by decide +kernel
theorem dX11_goes_106 : decode cX11_goes 106 = .ok (.goto 288, 3) := by decide +kernel
theorem dX11_goes_109 : decode cX11_goes 109 = .ok (.aload_n 0, 1) := by decide +kernel
theorem dX11_goes_110 : decode cX11_goes 110 = .ok (.dup, 1) := by decide +kernel
theorem dX11_goes_111 : decode cX11_goes 111 = .ok (.getfield 426, 3) := by decide +kernel
theorem dX11_goes_114 : decode cX11_goes 114 = .ok (.iconst 1, 1) := by decide +kernel
theorem dX11_goes_115 : decode cX11_goes 115 = .ok (.isub, 1) := by decide +kernel
theorem dX11_goes_116 : decode cX11_goes 116 = .ok (.putfield 426, 3) := by decide +kernel
theorem dX11_goes_119 : decode cX11_goes 119 = .ok (.goto 275, 3) := by decide +kernel
theorem dX11_goes_122 : decode cX11_goes 122 = .ok (.aload_n 0, 1) := by decide +kernel
theorem dX11_goes_123 : decode cX11_goes 123 = .ok (.getfield 118, 3) := by decide +kernel
theorem dX11_goes_126 : decode cX11_goes 126 = .ok (.iload_n 1, 1) := by decide +kernel
theorem dX11_goes_127 : decode cX11_goes 127 = .ok (.iconst 2, 1) := by decide +kernel
theorem dX11_goes_128 : decode cX11_goes 128 = .ok (.iastore, 1) := by decide +kernel
theorem dX11_goes_129 : decode cX11_goes 129 = .ok (.aload_n 0, 1) := by decide +kernel
theorem dX11_goes_130 : decode cX11_goes 130 = .ok (.getfield 121, 3) := by decide +kernel
theorem dX11_goes_133 : decode cX11_goes 133 = .ok (.iload_n 1, 1) := by decide +kernel
theorem dX11_goes_134 : decode cX11_goes 134 = .ok (.aload_n 0, 1) := by decide +kernel
theorem dX11_goes_135 : decode cX11_goes 135 = .ok (.getfield 414, 3) := by decide +kernel
theorem dX11_goes_138 : decode cX11_goes 138 = .ok (.iastore, 1) := by decide +kernel
theorem dX11_goes_139 : decode cX11_goes 139 = .ok (.aload_n 0, 1) := by decide +kernel
theorem dX11_goes_140 : decode cX11_goes 140 = .ok (.getfield 124, 3) := by decide +kernel
theorem dX11_goes_143 : decode cX11_goes 143 = .ok (.iload_n 1, 1) := by decide +kernel
theorem dX11_goes_144 : decode cX11_goes 144 = .ok (.aload_n 0, 1) := by decide +kernel
theorem dX11_goes_145 : decode cX11_goes 145 = .ok (.getfield 417, 3) := by decide +kernel
theorem dX11_goes_148 : decode cX11_goes 148 = .ok (.iastore, 1) := by decide +kernel
theorem dX11_goes_149 : decode cX11_goes 149 = .ok (.goto 245, 3) := by decide +kernel
theorem dX11_goes_152 : decode cX11_goes 152 = .ok (.aload_n 0, 1) := by decide +kernel
theorem dX11_goes_153 : decode cX11_goes 153 = .ok (.getfield 145, 3) := by decide +kernel
theorem dX11_goes_156 : decode cX11_goes 156 = .ok (.aload_n 0, 1) := by decide +kernel
theorem dX11_goes_157 : decode cX11_goes 157 = .ok (.getfield 429, 3) := by decide +kernel
theorem dX11_goes_160 : decode cX11_goes 160 = .ok (.aload_n 0, 1) := by decide +kernel
theorem dX11_goes_161 : decode cX11_goes 161 = .ok (.getfield 417, 3) := by decide +kernel
theorem dX11_goes_164 : decode cX11_goes 164 = .ok (.iastore, 1) := by decide +kernel
theorem dX11_goes_165 : decode cX11_goes 165 = .ok (.aload_n 0, 1) := by decide +kernel
theorem dX11_goes_166 : decode cX11_goes 166 = .ok (.dup, 1) := by decide +kernel
theorem dX11_goes_167 : decode cX11_goes 167 = .ok (.getfield 429, 3) := by decide +kernel
theorem dX11_goes_170 : decode cX11_goes 170 = .ok (.iconst 1, 1) := by decide +kernel
theorem dX11_goes_171 : decode cX11_goes 171 = .ok (.iadd, 1) := by decide +kernel
theorem dX11_goes_172 : decode cX11_goes 172 = .ok (.putfield 429, 3) := by decide +kernel
theorem dX11_goes_175 : decode cX11_goes 175 = .ok (.goto 219, 3) := by decide +kernel
theorem dX11_goes_178 : decode cX11_goes 178 = .ok (.aload_n 0, 1) := by decide +kernel
theorem dX11_goes_179 : decode cX11_goes 179 = .ok (.dup, 1) := by decide +kernel
theorem dX11_goes_180 : decode cX11_goes 180 = .ok (.getfield 429, 3) := by decide +kernel
theorem dX11_goes_183 : decode cX11_goes 183 = .ok (.iconst 1, 1) := by decide +kernel
theorem dX11_goes_184 : decode cX11_goes 184 = .ok (.isub, 1) := by decide +kernel
theorem dX11_goes_185 : decode cX11_goes 185 = .ok (.putfield 429, 3) := by decide +kernel
theorem dX11_goes_188 : decode cX11_goes 188 = .ok (.aload_n 0, 1) := by decide +kernel
theorem dX11_goes_189 : decode cX11_goes 189 = .ok (.getfield 145, 3) := by decide +kernel
theorem dX11_goes_192 : decode cX11_goes 192 = .ok (.aload_n 0, 1) := by decide +kernel
theorem dX11_goes_193 : decode cX11_goes 193 = .ok (.getfield 429, 3) := by decide +kernel
theorem dX11_goes_196 : decode cX11_goes 196 = .ok (.iaload, 1) := by decide +kernel
theorem dX11_goes_197 : decode cX11_goes 197 = .ok (.istore_n 3, 1) := by decide +kernel
theorem dX11_goes_198 : decode cX11_goes 198 = .ok (.aload_n 0, 1) := by decide +kernel
theorem dX11_goes_199 : decode cX11_goes 199 = .ok (.getfield 417, 3) := by decide +kernel
theorem dX11_goes_202 : decode cX11_goes 202 = .ok (.istore 4, 2) := by decide +kernel
theorem dX11_goes_204 : decode cX11_goes 204 = .ok (.aload_n 0, 1) := by decide +kernel
theorem dX11_goes_205 : decode cX11_goes 205 = .ok (.iconst 0, 1) := by decide +kernel
theorem dX11_goes_206 : decode cX11_goes 206 = .ok (.iload_n 1, 1) := by decide +kernel
theorem dX11_goes_207 : decode cX11_goes 207 = .ok (.bipush 19, 2) := by decide +kernel
theorem dX11_goes_209 : decode cX11_goes 209 = .ok (.if_icmp .ne 10, 3) := by decide +kernel
theorem dX11_goes_212 : decode cX11_goes 212 = .ok (.iload_n 3, 1) := by decide +kernel
theorem dX11_goes_213 : decode cX11_goes 213 = .ok (.iload 4, 2) := by decide +kernel
theorem dX11_goes_215 : decode cX11_goes 215 = .ok (.iadd, 1) := by decide +kernel
theorem dX11_goes_216 : decode cX11_goes 216 = .ok (.goto 60, 3) := by decide +kernel
theorem dX11_goes_219 : decode cX11_goes 219 = .ok (.iload_n 1, 1) := by decide +kernel
theorem dX11_goes_220 : decode cX11_goes 220 = .ok (.bipush 20, 2) := by decide +kernel
theorem dX11_goes_222 : decode cX11_goes 222 = .ok (.if_icmp .ne 10, 3) := by decide +kernel
theorem dX11_goes_225 : decode cX11_goes 225 = .ok (.iload_n 3, 1) := by decide +kernel
theorem dX11_goes_226 : decode cX11_goes 226 = .ok (.iload 4, 2) := by decide +kernel
theorem dX11_goes_228 : decode cX11_goes 228 = .ok (.isub, 1) := by decide +kernel
theorem dX11_goes_229 : decode cX11_goes 229 = .ok (.goto 47, 3) := by decide +kernel
theorem dX11_goes_232 : decode cX11_goes 232 = .ok (.iload_n 1, 1) := by decide +kernel
theorem dX11_goes_233 : decode cX11_goes 233 = .ok (.bipush 21, 2) := by decide +kernel
theorem dX11_goes_235 : decode cX11_goes 235 = .ok (.if_icmp .ne 10, 3) := by decide +kernel
theorem dX11_goes_238 : decode cX11_goes 238 = .ok (.iload_n 3, 1) := by decide +kernel
theorem dX11_goes_239 : decode cX11_goes 239 = .ok (.iload 4, 2) := by decide +kernel
theorem dX11_goes_241 : decode cX11_goes 241 = .ok (.imul, 1) := by decide +kernel
theorem dX11_goes_242 : decode cX11_goes 242 = .ok (.goto 34, 3) := by decide +kernel
theorem dX11_goes_245 : decode cX11_goes 245 = .ok (.iload_n 1, 1) := by decide +kernel
theorem dX11_goes_246 : decode cX11_goes 246 = .ok (.bipush 22, 2) := by decide +kernel
theorem dX11_goes_248 : decode cX11_goes 248 = .ok (.if_icmp .ne 17, 3) := by decide +kernel
theorem dX11_goes_251 : decode cX11_goes 251 = .ok (.iload_n 3, 1) := by decide +kernel
theorem dX11_goes_252 : decode cX11_goes 252 = .ok (.iload 4, 2) := by decide +kernel
theorem dX11_goes_254 : decode cX11_goes 254 = .ok (.if_icmp .ge 7, 3) := by decide +kernel
theorem dX11_goes_257 : decode cX11_goes 257 = .ok (.iconst 1, 1) := by decide +kernel
theorem dX11_goes_258 : decode cX11_goes 258 = .ok (.goto 18, 3) := by decide +kernel
theorem dX11_goes_261 : decode cX11_goes 261 = .ok (.iconst 0, 1) := by decide +kernel
theorem dX11_goes_262 : decode cX11_goes 262 = .ok (.goto 14, 3) := by decide +kernel
theorem dX11_goes_265 : decode cX11_goes 265 = .ok (.iload_n 3, 1) := by decide +kernel
theorem dX11_goes_266 : decode cX11_goes 266 = .ok (.iload 4, 2) := by decide +kernel
theorem dX11_goes_268 : decode cX11_goes 268 = .ok (.if_icmp .ne 7, 3) := by decide +kernel
theorem dX11_goes_271 : decode cX11_goes 271 = .ok (.iconst 1, 1) := by decide +kernel
theorem dX11_goes_272 : decode cX11_goes 272 = .ok (.goto 4, 3) := by decide +kernel
theorem dX11_goes_275 : decode cX11_goes 275 = .ok (.iconst 0, 1) := by decide +kernel
theorem dX11_goes_276 : decode cX11_goes 276 = .ok (.invokevirtual 420, 3) := by decide +kernel
theorem dX11_goes_279 : decode cX11_goes 279 = .ok (.goto 115, 3) := by decide +kernel
theorem dX11_goes_282 : decode cX11_goes 282 = .ok (.aload_n 0, 1) := by decide +kernel
theorem dX11_goes_283 : decode cX11_goes 283 = .ok (.iconst 1, 1) := by decide +kernel
theorem dX11_goes_284 : decode cX11_goes 284 = .ok (.aload_n 0, 1) := by decide +kernel
theorem dX11_goes_285 : decode cX11_goes 285 = .ok (.getfield 417, 3) := by decide +kernel
theorem dX11_goes_288 : decode cX11_goes 288 = .ok (.ifCond .ne 12, 3) := by decide +kernel
theorem dX11_goes_291 : decode cX11_goes 291 = .ok (.aload_n 0, 1) := by decide +kernel
theorem dX11_goes_292 : decode cX11_goes 292 = .ok (.getfield 48, 3) := by decide +kernel
theorem dX11_goes_295 : decode cX11_goes 295 = .ok (.iload_n 1, 1) := by decide +kernel
theorem dX11_goes_296 : decode cX11_goes 296 = .ok (.iaload, 1) := by decide +kernel
theorem dX11_goes_297 : decode cX11_goes 297 = .ok (.goto 9, 3) := by decide +kernel
theorem dX11_goes_300 : decode cX11_goes 300 = .ok (.aload_n 0, 1) := by decide +kernel
theorem dX11_goes_301 : decode cX11_goes 301 = .ok (.getfield 45, 3) := by decide +kernel
theorem dX11_goes_304 : decode cX11_goes 304 = .ok (.iload_n 1, 1) := by decide +kernel
theorem dX11_goes_305 : decode cX11_goes 305 = .ok (.iaload, 1) := by decide +kernel
theorem dX11_goes_306 : decode cX11_goes 306 = .ok (.iload_n 2, 1) := by decide +kernel
theorem dX11_goes_307 : decode cX11_goes 307 = .ok (.invokevirtual 322, 3) := by decide +kernel
theorem dX11_goes_310 : decode cX11_goes 310 = .ok (.goto 84, 3) := by decide +kernel
theorem dX11_goes_313 : decode cX11_goes 313 = .ok (.aload_n 0, 1) := by decide +kernel
theorem dX11_goes_314 : decode cX11_goes 314 = .ok (.getfield 136, 3) := by decide +kernel
theorem dX11_goes_317 : decode cX11_goes 317 = .ok (.bipush 16, 2) := by decide +kernel
theorem dX11_goes_319 : decode cX11_goes 319 = .ok (.iload_n 2, 1) := by decide +kernel
theorem dX11_goes_320 : decode cX11_goes 320 = .ok (.imul, 1) := by decide +kernel
theorem dX11_goes_321 : decode cX11_goes 321 = .ok (.aload_n 0, 1) := by decide +kernel
theorem dX11_goes_322 : decode cX11_goes 322 = .ok (.getfield 48, 3) := by decide +kernel
theorem dX11_goes_325 : decode cX11_goes 325 = .ok (.iload_n 1, 1) := by decide +kernel
theorem dX11_goes_326 : decode cX11_goes 326 = .ok (.iaload, 1) := by decide +kernel
theorem dX11_goes_327 : decode cX11_goes 327 = .ok (.iadd, 1) := by decide +kernel
theorem dX11_goes_328 : decode cX11_goes 328 = .ok (.aload_n 0, 1) := by decide +kernel
theorem dX11_goes_329 : decode cX11_goes 329 = .ok (.getfield 130, 3) := by decide +kernel
theorem dX11_goes_332 : decode cX11_goes 332 = .ok (.aload_n 0, 1) := by decide +kernel
theorem dX11_goes_333 : decode cX11_goes 333 = .ok (.getfield 417, 3) := by decide +kernel
theorem dX11_goes_336 : decode cX11_goes 336 = .ok (.iaload, 1) := by decide +kernel
theorem dX11_goes_337 : decode cX11_goes 337 = .ok (.iastore, 1) := by decide +kernel
theorem dX11_goes_338 : decode cX11_goes 338 = .ok (.aload_n 0, 1) := by decide +kernel
theorem dX11_goes_339 : decode cX11_goes 339 = .ok (.getfield 136, 3) := by decide +kernel
theorem dX11_goes_342 : decode cX11_goes 342 = .ok (.bipush 16, 2) := by decide +kernel
theorem dX11_goes_344 : decode cX11_goes 344 = .ok (.iload_n 2, 1) := by decide +kernel
theorem dX11_goes_345 : decode cX11_goes 345 = .ok (.imul, 1) := by decide +kernel
theorem dX11_goes_346 : decode cX11_goes 346 = .ok (.aload_n 0, 1) := by decide +kernel
theorem dX11_goes_347 : decode cX11_goes 347 = .ok (.getfield 48, 3) := by decide +kernel
theorem dX11_goes_350 : decode cX11_goes 350 = .ok (.iload_n 1, 1) := by decide +kernel
theorem dX11_goes_351 : decode cX11_goes 351 = .ok (.iaload, 1) := by decide +kernel
theorem dX11_goes_352 : decode cX11_goes 352 = .ok (.iadd, 1) := by decide +kernel
theorem dX11_goes_353 : decode cX11_goes 353 = .ok (.iconst 1, 1) := by decide +kernel
theorem dX11_goes_354 : decode cX11_goes 354 = .ok (.iadd, 1) := by decide +kernel
theorem dX11_goes_355 : decode cX11_goes 355 = .ok (.aload_n 0, 1) := by decide +kernel
theorem dX11_goes_356 : decode cX11_goes 356 = .ok (.getfield 133, 3) := by decide +kernel
theorem dX11_goes_359 : decode cX11_goes 359 = .ok (.aload_n 0, 1) := by decide +kernel
theorem dX11_goes_360 : decode cX11_goes 360 = .ok (.getfield 417, 3) := by decide +kernel
theorem dX11_goes_363 : decode cX11_goes 363 = .ok (.iaload, 1) := by decide +kernel
theorem dX11_goes_364 : decode cX11_goes 364 = .ok (.iastore, 1) := by decide +kernel
theorem dX11_goes_365 : decode cX11_goes 365 = .ok (.aload_n 0, 1) := by decide +kernel
theorem dX11_goes_366 : decode cX11_goes 366 = .ok (.iconst 1, 1) := by decide +kernel
theorem dX11_goes_367 : decode cX11_goes 367 = .ok (.aload_n 0, 1) := by decide +kernel
theorem dX11_goes_368 : decode cX11_goes 368 = .ok (.getfield 45, 3) := by decide +kernel
theorem dX11_goes_371 : decode cX11_goes 371 = .ok (.iload_n 1, 1) := by decide +kernel
theorem dX11_goes_372 : decode cX11_goes 372 = .ok (.iaload, 1) := by decide +kernel
theorem dX11_goes_373 : decode cX11_goes 373 = .ok (.iload_n 2, 1) := by decide +kernel
theorem dX11_goes_374 : decode cX11_goes 374 = .ok (.invokevirtual 322, 3) := by decide +kernel
theorem dX11_goes_377 : decode cX11_goes 377 = .ok (.goto 17, 3) := by decide +kernel
theorem dX11_goes_380 : decode cX11_goes 380 = .ok (.aload_n 0, 1) := by decide +kernel
theorem dX11_goes_381 : decode cX11_goes 381 = .ok (.iload_n 1, 1) := by decide +kernel
theorem dX11_goes_382 : decode cX11_goes 382 = .ok (.invokevirtual 432, 3) := by decide +kernel
theorem dX11_goes_385 : decode cX11_goes 385 = .ok (.goto 9, 3) := by decide +kernel
theorem dX11_goes_388 : decode cX11_goes 388 = .ok (.aload_n 0, 1) := by decide +kernel
theorem dX11_goes_389 : decode cX11_goes 389 = .ok (.iload_n 1, 1) := by decide +kernel
theorem dX11_goes_390 : decode cX11_goes 390 = .ok (.iload_n 2, 1) := by decide +kernel
theorem dX11_goes_391 : decode cX11_goes 391 = .ok (.invokevirtual 435, 3) := by decide +kernel
theorem dX11_goes_394 : decode cX11_goes 394 = .ok (.goto (-394), 3) := by decide +kernel
theorem dX11_goes_397 : decode cX11_goes 397 = .ok (.return_, 1) := by decide +kernel
noncomputable def fX11_goes_394 (M : mv_M) : Option (((Unit) ⊕ Unit) × mv_M) :=
  some (.inl (), M)
set_option maxRecDepth 100000 in
set_option maxHeartbeats 4000000 in
theorem zX11_goes_394 {l : Launch} {d : Nat} {Q : Unit → mv_M → Prop} (hd : 4 ≤ d) (M : mv_M) (h : mv_ok (fX11_goes_394 M) (mv_pq (fun (s : Unit) M => mv l mX11_goes d 0 0 [(0, .ref 62)] [] M (mv_qV Q)) Q)) : mv l mX11_goes d 0 394 [(0, .ref 62)] [] M (mv_qV Q) := by
  unfold fX11_goes_394 at h
  refine mv_goto 0 dX11_goes_394 (by decide) ?_
  refine mv_sub [0] rfl ?_
  exact h
noncomputable def fX11_goes_276 (s0 : Int32) (s1 : Int32) (M : mv_M) : Option (((Unit) ⊕ Unit) × mv_M) :=
  mv_bind (fX11_gives s1 s0 M) fun _ M44 =>
  fX11_goes_394 M44
set_option maxRecDepth 100000 in
set_option maxHeartbeats 4000000 in
theorem zX11_goes_276 {l : Launch} {d : Nat} {Q : Unit → mv_M → Prop} (hd : 4 ≤ d) (s0 : Int32) (s1 : Int32) (M : mv_M) (h : mv_ok (fX11_goes_276 s0 s1 M) (mv_pq (fun (s : Unit) M => mv l mX11_goes d 0 0 [(0, .ref 62)] [] M (mv_qV Q)) Q)) : mv l mX11_goes d 0 276 [(0, .ref 62)] [.int s0, .int s1, .ref 62] M (mv_qV Q) := by
  unfold fX11_goes_276 at h
  refine mv_cvV (As := [.int s1, .int s0]) (st := []) okX11_gives lX11_420 (by decide) rfl rfl rfl (Nat.le_of_ble_eq_true rfl) rfl (Nat.le_of_ble_eq_true rfl) dX11_goes_276 (by omega) rfl (zX11_gives (d := d - 1) (by omega) s1 s0 M (mv_bindE h)) (fun _ M44 h => ?_)
  refine mv_goto 394 dX11_goes_279 (by decide) ?_
  refine mv_sub [0] rfl ?_
  exact zX11_goes_394 hd M44 h
noncomputable def fX11_goes_306 (x2 : Int32) (s0 : Int32) (s1 : Int32) (M : mv_M) : Option (((Unit) ⊕ Unit) × mv_M) :=
  mv_bind (fX11_task s1 s0 x2 M) fun _ M45 =>
  fX11_goes_394 M45
set_option maxRecDepth 100000 in
set_option maxHeartbeats 4000000 in
theorem zX11_goes_306 {l : Launch} {d : Nat} {Q : Unit → mv_M → Prop} (hd : 4 ≤ d) (x2 : Int32) (s0 : Int32) (s1 : Int32) (M : mv_M) (h : mv_ok (fX11_goes_306 x2 s0 s1 M) (mv_pq (fun (s : Unit) M => mv l mX11_goes d 0 0 [(0, .ref 62)] [] M (mv_qV Q)) Q)) : mv l mX11_goes d 0 306 [(0, .ref 62), (2, .int x2)] [.int s0, .int s1, .ref 62] M (mv_qV Q) := by
  unfold fX11_goes_306 at h
  refine mv_iload_n 1 dX11_goes_306 rfl ?_
  refine mv_cvV (As := [.int s1, .int s0, .int x2]) (st := []) okX11_task lX11_322 (by decide) rfl rfl rfl (Nat.le_of_ble_eq_true rfl) rfl (Nat.le_of_ble_eq_true rfl) dX11_goes_307 (by omega) rfl (zX11_task (d := d - 1) (by omega) s1 s0 x2 M (mv_bindE h)) (fun _ M45 h => ?_)
  refine mv_goto 394 dX11_goes_310 (by decide) ?_
  refine mv_sub [0] rfl ?_
  exact zX11_goes_394 hd M45 h
noncomputable def gX11_goes_0 (M : mv_M) : Option (((Unit) ⊕ Unit) × mv_M) :=
  if (M.1 62 36) ≤ 0 then
    some (.inr (()), M)
  else
    if (M.1 62 74) = 0 then
      mv_let (mv_si M 62 36 ((M.1 62 36) - 1)) fun M1 =>
      mv_chk (mv_inb (M1.1 62 36) 3000) <|
      mv_let (M1.1 82 (M1.1 62 36).toNatClampNeg) fun v3 =>
      mv_chk (mv_inb (M1.1 62 36) 3000) <|
      mv_let (M1.1 85 (M1.1 62 36).toNatClampNeg) fun v5 =>
      mv_chk (mv_inb (M1.1 62 36) 3000) <|
      if (M1.1 81 (M1.1 62 36).toNatClampNeg) = 1 then
        mv_bind (fX11_work v3 v5 M1) fun _ M8 =>
        fX11_goes_394 M8
      else
        if (M1.1 81 (M1.1 62 36).toNatClampNeg) = 2 then
          mv_let (mv_si M1 62 72 ((M1.1 62 72) - 1)) fun M10 =>
          fX11_goes_394 M10
        else
          if (M1.1 81 (M1.1 62 36).toNatClampNeg) = 3 then
            mv_chk (mv_inb v3 1540) <|
            mv_let (mv_si M1 97 v3.toNatClampNeg 2) fun M13 =>
            mv_chk (mv_inb v3 1540) <|
            mv_let (mv_si M13 98 v3.toNatClampNeg (M13.1 62 77)) fun M15 =>
            mv_chk (mv_inb v3 1540) <|
            mv_let (mv_si M15 99 v3.toNatClampNeg (M15.1 62 78)) fun M17 =>
            fX11_goes_394 M17
          else
            if (M1.1 81 (M1.1 62 36).toNatClampNeg) = 4 then
              mv_chk (mv_inb (M1.1 62 82) 3000) <|
              mv_let (mv_si M1 105 (M1.1 62 82).toNatClampNeg (M1.1 62 78)) fun M20 =>
              mv_let (mv_si M20 62 82 ((M20.1 62 82) + 1)) fun M21 =>
              fX11_goes_394 M21
            else
              if (M1.1 81 (M1.1 62 36).toNatClampNeg) = 5 then
                mv_let (mv_si M1 62 82 ((M1.1 62 82) - 1)) fun M23 =>
                mv_chk (mv_inb (M23.1 62 82) 3000) <|
                mv_let (M23.1 105 (M23.1 62 82).toNatClampNeg) fun v25 =>
                mv_let (M23.1 62 78) fun v26 =>
                if v3 = 19 then
                  fX11_goes_276 (v25 + v26) 0 M23
                else
                  if v3 = 20 then
                    fX11_goes_276 (v25 - v26) 0 M23
                  else
                    if v3 = 21 then
                      fX11_goes_276 (v25 * v26) 0 M23
                    else
                      if v3 = 22 then
                        if v26 ≤ v25 then
                          fX11_goes_276 0 0 M23
                        else
                          fX11_goes_276 1 0 M23
                      else
                        if v25 = v26 then
                          fX11_goes_276 1 0 M23
                        else
                          fX11_goes_276 0 0 M23
              else
                if (M1.1 81 (M1.1 62 36).toNatClampNeg) = 6 then
                  if (M1.1 62 78) = 0 then
                    mv_chk (mv_inb v3 2002) <|
                    fX11_goes_306 v5 (M1.1 74 v3.toNatClampNeg) 1 M1
                  else
                    mv_chk (mv_inb v3 2002) <|
                    fX11_goes_306 v5 (M1.1 73 v3.toNatClampNeg) 1 M1
                else
                  if (M1.1 81 (M1.1 62 36).toNatClampNeg) = 7 then
                    mv_chk (mv_inb v3 2002) <|
                    mv_chk (mv_inb (M1.1 62 78) 1540) <|
                    mv_chk (mv_inb ((16 * v5) + (M1.1 74 v3.toNatClampNeg)) 24032) <|
                    mv_let (mv_si M1 103 ((16 * v5) + (M1.1 74 v3.toNatClampNeg)).toNatClampNeg (M1.1 101 (M1.1 62 78).toNatClampNeg)) fun M34 =>
                    mv_chk (mv_inb v3 2002) <|
                    mv_chk (mv_inb (M34.1 62 78) 1540) <|
                    mv_chk (mv_inb (((16 * v5) + (M34.1 74 v3.toNatClampNeg)) + 1) 24032) <|
                    mv_let (mv_si M34 103 (((16 * v5) + (M34.1 74 v3.toNatClampNeg)) + 1).toNatClampNeg (M34.1 102 (M34.1 62 78).toNatClampNeg)) fun M38 =>
                    mv_chk (mv_inb v3 2002) <|
                    mv_bind (fX11_task 1 (M38.1 73 v3.toNatClampNeg) v5 M38) fun _ M40 =>
                    fX11_goes_394 M40
                  else
                    if (M1.1 81 (M1.1 62 36).toNatClampNeg) = 8 then
                      mv_bind (fX11_need v3 M1) fun _ M42 =>
                      fX11_goes_394 M42
                    else
                      mv_bind (fX11_demand v3 v5 M1) fun _ M43 =>
                      fX11_goes_394 M43
    else
      some (.inr (()), M)
noncomputable def fX11_goes_0 (M : mv_M) : Option (Unit × mv_M) := mv_loop (fun (s : Unit) M => gX11_goes_0  M) () M
set_option maxRecDepth 100000 in
set_option maxHeartbeats 4000000 in
theorem zX11_goes_0 {l : Launch} {d : Nat} {Q : Unit → mv_M → Prop} (hd : 4 ≤ d) (M : mv_M) (h : mv_ok (fX11_goes_0 M) Q) : mv l mX11_goes d 0 0 [(0, .ref 62)] [] M (mv_qV Q) := by
  unfold fX11_goes_0 at h
  refine mv_loopE (A := (fun (s : Unit) M => mv l mX11_goes d 0 0 [(0, .ref 62)] [] M (mv_qV Q))) ?_ () M h
  · intro s M h
    try dsimp only at h
    show mv l mX11_goes d 0 0 [(0, .ref 62)] [] M (mv_qV Q)
    unfold gX11_goes_0 at h
    refine mv_aload_n 0 dX11_goes_0 rfl ?_
    refine mv_getI fX11_242 (by decide) rfl rfl dX11_goes_1 ?_
    refine mv_if_le 397 dX11_goes_4 (by decide) (fun z => ?_) (fun z => ?_)
    · replace h := mv_ifT z h
      exact mv_vret rfl dX11_goes_397 ⟨rfl, h⟩
    · replace h := mv_ifF z h
      refine mv_aload_n 0 dX11_goes_7 rfl ?_
      refine mv_getI fX11_408 (by decide) rfl rfl dX11_goes_8 ?_
      refine mv_if_ne 397 dX11_goes_11 (by decide) (fun z => ?_) (fun z => ?_)
      · replace h := mv_ifF z h
        exact mv_vret rfl dX11_goes_397 ⟨rfl, h⟩
      · replace h := mv_ifT z h
        refine mv_aload_n 0 dX11_goes_14 rfl ?_
        refine mv_dup dX11_goes_15 rfl ?_
        refine mv_getI fX11_242 (by decide) rfl rfl dX11_goes_16 ?_
        refine mv_iconst 1 dX11_goes_19 (by decide) ?_
        refine mv_isub dX11_goes_20 ?_
        refine mv_putI fX11_242 (by decide) rfl rfl dX11_goes_21 (fun M1 eM1 => ?_)
        replace h := mv_letE h M1 eM1
        refine mv_aload_n 0 dX11_goes_24 rfl ?_
        refine mv_getR 82 fX11_72 (by decide) rfl rfl rfl dX11_goes_25 ?_
        refine mv_aload_n 0 dX11_goes_28 rfl ?_
        refine mv_getI fX11_242 (by decide) rfl rfl dX11_goes_29 ?_
        obtain ⟨hi2, h⟩ := mv_chkE h
        refine mv_ild (by decide) rfl (mv_inE hi2) dX11_goes_32 ?_
        refine mv_topi (fun v3 ev3 => ?_)
        replace h := mv_letE h v3 ev3
        refine mv_istore_n [(1, .int v3), (0, .ref 62)] dX11_goes_33 (by decide) rfl ?_
        refine mv_aload_n 1 dX11_goes_34 rfl ?_
        refine mv_getR 85 fX11_81 (by decide) rfl rfl rfl dX11_goes_35 ?_
        refine mv_aload_n 1 dX11_goes_38 rfl ?_
        refine mv_getI fX11_242 (by decide) rfl rfl dX11_goes_39 ?_
        obtain ⟨hi4, h⟩ := mv_chkE h
        refine mv_ild (by decide) rfl (mv_inE hi4) dX11_goes_42 ?_
        refine mv_topi (fun v5 ev5 => ?_)
        replace h := mv_letE h v5 ev5
        refine mv_istore_n [(2, .int v5), (1, .int v3), (0, .ref 62)] dX11_goes_43 (by decide) rfl ?_
        refine mv_aload_n 2 dX11_goes_44 rfl ?_
        refine mv_getR 81 fX11_69 (by decide) rfl rfl rfl dX11_goes_45 ?_
        refine mv_aload_n 2 dX11_goes_48 rfl ?_
        refine mv_getI fX11_242 (by decide) rfl rfl dX11_goes_49 ?_
        obtain ⟨hi6, h⟩ := mv_chkE h
        refine mv_ild (by decide) rfl (mv_inE hi6) dX11_goes_52 ?_
        by_cases z7 : (M1.1 81 (M1.1 62 36).toNatClampNeg) = 1
        · replace h := mv_ifT z7 h
          refine mv_tableIn (off := 47) 100 dX11_goes_53 (by rw [z7]; decide) (by rw [z7]; decide) (by rw [z7]; rfl) (by decide) ?_
          refine mv_aload_n 2 dX11_goes_100 rfl ?_
          refine mv_iload_n 1 dX11_goes_101 rfl ?_
          refine mv_iload_n 0 dX11_goes_102 rfl ?_
          refine mv_cvV (As := [.int v3, .int v5]) (st := []) okX11_work lX11_423 (by decide) rfl rfl rfl (Nat.le_of_ble_eq_true rfl) rfl (Nat.le_of_ble_eq_true rfl) dX11_goes_103 (by omega) rfl (zX11_work (d := d - 1) (by omega) v3 v5 M1 (mv_bindE h)) (fun _ M8 h => ?_)
          refine mv_goto 394 dX11_goes_106 (by decide) ?_
          refine mv_sub [2] rfl ?_
          exact zX11_goes_394 hd M8 h
        · replace h := mv_ifF z7 h
          by_cases z9 : (M1.1 81 (M1.1 62 36).toNatClampNeg) = 2
          · replace h := mv_ifT z9 h
            refine mv_tableIn (off := 56) 109 dX11_goes_53 (by rw [z9]; decide) (by rw [z9]; decide) (by rw [z9]; rfl) (by decide) ?_
            refine mv_aload_n 2 dX11_goes_109 rfl ?_
            refine mv_dup dX11_goes_110 rfl ?_
            refine mv_getI fX11_426 (by decide) rfl rfl dX11_goes_111 ?_
            refine mv_iconst 1 dX11_goes_114 (by decide) ?_
            refine mv_isub dX11_goes_115 ?_
            refine mv_putI fX11_426 (by decide) rfl rfl dX11_goes_116 (fun M10 eM10 => ?_)
            replace h := mv_letE h M10 eM10
            refine mv_goto 394 dX11_goes_119 (by decide) ?_
            refine mv_sub [2] rfl ?_
            exact zX11_goes_394 hd M10 h
          · replace h := mv_ifF z9 h
            by_cases z11 : (M1.1 81 (M1.1 62 36).toNatClampNeg) = 3
            · replace h := mv_ifT z11 h
              refine mv_tableIn (off := 69) 122 dX11_goes_53 (by rw [z11]; decide) (by rw [z11]; decide) (by rw [z11]; rfl) (by decide) ?_
              refine mv_aload_n 2 dX11_goes_122 rfl ?_
              refine mv_getR 97 fX11_118 (by decide) rfl rfl rfl dX11_goes_123 ?_
              refine mv_iload_n 1 dX11_goes_126 rfl ?_
              refine mv_iconst 2 dX11_goes_127 (by decide) ?_
              obtain ⟨hi12, h⟩ := mv_chkE h
              refine mv_ist (by decide) rfl (mv_inE hi12) dX11_goes_128 (fun M13 eM13 => ?_)
              replace h := mv_letE h M13 eM13
              refine mv_aload_n 2 dX11_goes_129 rfl ?_
              refine mv_getR 98 fX11_121 (by decide) rfl rfl rfl dX11_goes_130 ?_
              refine mv_iload_n 1 dX11_goes_133 rfl ?_
              refine mv_aload_n 2 dX11_goes_134 rfl ?_
              refine mv_getI fX11_414 (by decide) rfl rfl dX11_goes_135 ?_
              obtain ⟨hi14, h⟩ := mv_chkE h
              refine mv_ist (by decide) rfl (mv_inE hi14) dX11_goes_138 (fun M15 eM15 => ?_)
              replace h := mv_letE h M15 eM15
              refine mv_aload_n 2 dX11_goes_139 rfl ?_
              refine mv_getR 99 fX11_124 (by decide) rfl rfl rfl dX11_goes_140 ?_
              refine mv_iload_n 1 dX11_goes_143 rfl ?_
              refine mv_aload_n 2 dX11_goes_144 rfl ?_
              refine mv_getI fX11_417 (by decide) rfl rfl dX11_goes_145 ?_
              obtain ⟨hi16, h⟩ := mv_chkE h
              refine mv_ist (by decide) rfl (mv_inE hi16) dX11_goes_148 (fun M17 eM17 => ?_)
              replace h := mv_letE h M17 eM17
              refine mv_goto 394 dX11_goes_149 (by decide) ?_
              refine mv_sub [2] rfl ?_
              exact zX11_goes_394 hd M17 h
            · replace h := mv_ifF z11 h
              by_cases z18 : (M1.1 81 (M1.1 62 36).toNatClampNeg) = 4
              · replace h := mv_ifT z18 h
                refine mv_tableIn (off := 99) 152 dX11_goes_53 (by rw [z18]; decide) (by rw [z18]; decide) (by rw [z18]; rfl) (by decide) ?_
                refine mv_aload_n 2 dX11_goes_152 rfl ?_
                refine mv_getR 105 fX11_145 (by decide) rfl rfl rfl dX11_goes_153 ?_
                refine mv_aload_n 2 dX11_goes_156 rfl ?_
                refine mv_getI fX11_429 (by decide) rfl rfl dX11_goes_157 ?_
                refine mv_aload_n 2 dX11_goes_160 rfl ?_
                refine mv_getI fX11_417 (by decide) rfl rfl dX11_goes_161 ?_
                obtain ⟨hi19, h⟩ := mv_chkE h
                refine mv_ist (by decide) rfl (mv_inE hi19) dX11_goes_164 (fun M20 eM20 => ?_)
                replace h := mv_letE h M20 eM20
                refine mv_aload_n 2 dX11_goes_165 rfl ?_
                refine mv_dup dX11_goes_166 rfl ?_
                refine mv_getI fX11_429 (by decide) rfl rfl dX11_goes_167 ?_
                refine mv_iconst 1 dX11_goes_170 (by decide) ?_
                refine mv_iadd dX11_goes_171 ?_
                refine mv_putI fX11_429 (by decide) rfl rfl dX11_goes_172 (fun M21 eM21 => ?_)
                replace h := mv_letE h M21 eM21
                refine mv_goto 394 dX11_goes_175 (by decide) ?_
                refine mv_sub [2] rfl ?_
                exact zX11_goes_394 hd M21 h
              · replace h := mv_ifF z18 h
                by_cases z22 : (M1.1 81 (M1.1 62 36).toNatClampNeg) = 5
                · replace h := mv_ifT z22 h
                  refine mv_tableIn (off := 125) 178 dX11_goes_53 (by rw [z22]; decide) (by rw [z22]; decide) (by rw [z22]; rfl) (by decide) ?_
                  refine mv_aload_n 2 dX11_goes_178 rfl ?_
                  refine mv_dup dX11_goes_179 rfl ?_
                  refine mv_getI fX11_429 (by decide) rfl rfl dX11_goes_180 ?_
                  refine mv_iconst 1 dX11_goes_183 (by decide) ?_
                  refine mv_isub dX11_goes_184 ?_
                  refine mv_putI fX11_429 (by decide) rfl rfl dX11_goes_185 (fun M23 eM23 => ?_)
                  replace h := mv_letE h M23 eM23
                  refine mv_aload_n 2 dX11_goes_188 rfl ?_
                  refine mv_getR 105 fX11_145 (by decide) rfl rfl rfl dX11_goes_189 ?_
                  refine mv_aload_n 2 dX11_goes_192 rfl ?_
                  refine mv_getI fX11_429 (by decide) rfl rfl dX11_goes_193 ?_
                  obtain ⟨hi24, h⟩ := mv_chkE h
                  refine mv_ild (by decide) rfl (mv_inE hi24) dX11_goes_196 ?_
                  refine mv_topi (fun v25 ev25 => ?_)
                  replace h := mv_letE h v25 ev25
                  refine mv_istore_n [(3, .int v25), (2, .int v5), (1, .int v3), (0, .ref 62)] dX11_goes_197 (by decide) rfl ?_
                  refine mv_aload_n 3 dX11_goes_198 rfl ?_
                  refine mv_getI fX11_417 (by decide) rfl rfl dX11_goes_199 ?_
                  refine mv_topi (fun v26 ev26 => ?_)
                  replace h := mv_letE h v26 ev26
                  refine mv_istore [(4, .int v26), (3, .int v25), (2, .int v5), (1, .int v3), (0, .ref 62)] dX11_goes_202 (by decide) rfl ?_
                  refine mv_aload_n 4 dX11_goes_204 rfl ?_
                  refine mv_iconst 0 dX11_goes_205 (by decide) ?_
                  refine mv_iload_n 3 dX11_goes_206 rfl ?_
                  refine mv_bipush 19 dX11_goes_207 (by decide) ?_
                  refine mv_icmp_ne 219 dX11_goes_209 (by decide) (fun z => ?_) (fun z => ?_)
                  · replace h := mv_ifF z h
                    refine mv_iload_n 3 dX11_goes_219 rfl ?_
                    refine mv_bipush 20 dX11_goes_220 (by decide) ?_
                    refine mv_icmp_ne 232 dX11_goes_222 (by decide) (fun z => ?_) (fun z => ?_)
                    · replace h := mv_ifF z h
                      refine mv_iload_n 3 dX11_goes_232 rfl ?_
                      refine mv_bipush 21 dX11_goes_233 (by decide) ?_
                      refine mv_icmp_ne 245 dX11_goes_235 (by decide) (fun z => ?_) (fun z => ?_)
                      · replace h := mv_ifF z h
                        refine mv_iload_n 3 dX11_goes_245 rfl ?_
                        refine mv_bipush 22 dX11_goes_246 (by decide) ?_
                        refine mv_icmp_ne 265 dX11_goes_248 (by decide) (fun z => ?_) (fun z => ?_)
                        · replace h := mv_ifF z h
                          refine mv_iload_n 1 dX11_goes_265 rfl ?_
                          refine mv_iload 0 dX11_goes_266 rfl ?_
                          refine mv_icmp_ne 275 dX11_goes_268 (by decide) (fun z => ?_) (fun z => ?_)
                          · replace h := mv_ifF z h
                            refine mv_iconst 0 dX11_goes_275 (by decide) ?_
                            refine mv_sub [4] rfl ?_
                            exact zX11_goes_276 hd 0 0 M23 h
                          · replace h := mv_ifT z h
                            refine mv_iconst 1 dX11_goes_271 (by decide) ?_
                            refine mv_goto 276 dX11_goes_272 (by decide) ?_
                            refine mv_sub [4] rfl ?_
                            exact zX11_goes_276 hd 1 0 M23 h
                        · replace h := mv_ifT z h
                          refine mv_iload_n 1 dX11_goes_251 rfl ?_
                          refine mv_iload 0 dX11_goes_252 rfl ?_
                          refine mv_icmp_ge 261 dX11_goes_254 (by decide) (fun z => ?_) (fun z => ?_)
                          · replace h := mv_ifT z h
                            refine mv_iconst 0 dX11_goes_261 (by decide) ?_
                            refine mv_goto 276 dX11_goes_262 (by decide) ?_
                            refine mv_sub [4] rfl ?_
                            exact zX11_goes_276 hd 0 0 M23 h
                          · replace h := mv_ifF z h
                            refine mv_iconst 1 dX11_goes_257 (by decide) ?_
                            refine mv_goto 276 dX11_goes_258 (by decide) ?_
                            refine mv_sub [4] rfl ?_
                            exact zX11_goes_276 hd 1 0 M23 h
                      · replace h := mv_ifT z h
                        refine mv_iload_n 1 dX11_goes_238 rfl ?_
                        refine mv_iload 0 dX11_goes_239 rfl ?_
                        refine mv_imul dX11_goes_241 ?_
                        refine mv_goto 276 dX11_goes_242 (by decide) ?_
                        refine mv_sub [4] rfl ?_
                        exact zX11_goes_276 hd (v25 * v26) 0 M23 h
                    · replace h := mv_ifT z h
                      refine mv_iload_n 1 dX11_goes_225 rfl ?_
                      refine mv_iload 0 dX11_goes_226 rfl ?_
                      refine mv_isub dX11_goes_228 ?_
                      refine mv_goto 276 dX11_goes_229 (by decide) ?_
                      refine mv_sub [4] rfl ?_
                      exact zX11_goes_276 hd (v25 - v26) 0 M23 h
                  · replace h := mv_ifT z h
                    refine mv_iload_n 1 dX11_goes_212 rfl ?_
                    refine mv_iload 0 dX11_goes_213 rfl ?_
                    refine mv_iadd dX11_goes_215 ?_
                    refine mv_goto 276 dX11_goes_216 (by decide) ?_
                    refine mv_sub [4] rfl ?_
                    exact zX11_goes_276 hd (v25 + v26) 0 M23 h
                · replace h := mv_ifF z22 h
                  by_cases z27 : (M1.1 81 (M1.1 62 36).toNatClampNeg) = 6
                  · replace h := mv_ifT z27 h
                    refine mv_tableIn (off := 229) 282 dX11_goes_53 (by rw [z27]; decide) (by rw [z27]; decide) (by rw [z27]; rfl) (by decide) ?_
                    refine mv_aload_n 2 dX11_goes_282 rfl ?_
                    refine mv_iconst 1 dX11_goes_283 (by decide) ?_
                    refine mv_aload_n 2 dX11_goes_284 rfl ?_
                    refine mv_getI fX11_417 (by decide) rfl rfl dX11_goes_285 ?_
                    refine mv_if_ne 300 dX11_goes_288 (by decide) (fun z => ?_) (fun z => ?_)
                    · replace h := mv_ifF z h
                      refine mv_aload_n 2 dX11_goes_300 rfl ?_
                      refine mv_getR 73 fX11_45 (by decide) rfl rfl rfl dX11_goes_301 ?_
                      refine mv_iload_n 1 dX11_goes_304 rfl ?_
                      obtain ⟨hi28, h⟩ := mv_chkE h
                      refine mv_ild (by decide) rfl (mv_inE hi28) dX11_goes_305 ?_
                      refine mv_sub [2, 0] rfl ?_
                      exact zX11_goes_306 hd v5 (M1.1 73 v3.toNatClampNeg) 1 M1 h
                    · replace h := mv_ifT z h
                      refine mv_aload_n 2 dX11_goes_291 rfl ?_
                      refine mv_getR 74 fX11_48 (by decide) rfl rfl rfl dX11_goes_292 ?_
                      refine mv_iload_n 1 dX11_goes_295 rfl ?_
                      obtain ⟨hi29, h⟩ := mv_chkE h
                      refine mv_ild (by decide) rfl (mv_inE hi29) dX11_goes_296 ?_
                      refine mv_goto 306 dX11_goes_297 (by decide) ?_
                      refine mv_sub [2, 0] rfl ?_
                      exact zX11_goes_306 hd v5 (M1.1 74 v3.toNatClampNeg) 1 M1 h
                  · replace h := mv_ifF z27 h
                    by_cases z30 : (M1.1 81 (M1.1 62 36).toNatClampNeg) = 7
                    · replace h := mv_ifT z30 h
                      refine mv_tableIn (off := 260) 313 dX11_goes_53 (by rw [z30]; decide) (by rw [z30]; decide) (by rw [z30]; rfl) (by decide) ?_
                      refine mv_aload_n 2 dX11_goes_313 rfl ?_
                      refine mv_getR 103 fX11_136 (by decide) rfl rfl rfl dX11_goes_314 ?_
                      refine mv_bipush 16 dX11_goes_317 (by decide) ?_
                      refine mv_iload_n 0 dX11_goes_319 rfl ?_
                      refine mv_imul dX11_goes_320 ?_
                      refine mv_aload_n 2 dX11_goes_321 rfl ?_
                      refine mv_getR 74 fX11_48 (by decide) rfl rfl rfl dX11_goes_322 ?_
                      refine mv_iload_n 1 dX11_goes_325 rfl ?_
                      obtain ⟨hi31, h⟩ := mv_chkE h
                      refine mv_ild (by decide) rfl (mv_inE hi31) dX11_goes_326 ?_
                      refine mv_iadd dX11_goes_327 ?_
                      refine mv_aload_n 2 dX11_goes_328 rfl ?_
                      refine mv_getR 101 fX11_130 (by decide) rfl rfl rfl dX11_goes_329 ?_
                      refine mv_aload_n 2 dX11_goes_332 rfl ?_
                      refine mv_getI fX11_417 (by decide) rfl rfl dX11_goes_333 ?_
                      obtain ⟨hi32, h⟩ := mv_chkE h
                      refine mv_ild (by decide) rfl (mv_inE hi32) dX11_goes_336 ?_
                      obtain ⟨hi33, h⟩ := mv_chkE h
                      refine mv_ist (by decide) rfl (mv_inE hi33) dX11_goes_337 (fun M34 eM34 => ?_)
                      replace h := mv_letE h M34 eM34
                      refine mv_aload_n 2 dX11_goes_338 rfl ?_
                      refine mv_getR 103 fX11_136 (by decide) rfl rfl rfl dX11_goes_339 ?_
                      refine mv_bipush 16 dX11_goes_342 (by decide) ?_
                      refine mv_iload_n 0 dX11_goes_344 rfl ?_
                      refine mv_imul dX11_goes_345 ?_
                      refine mv_aload_n 2 dX11_goes_346 rfl ?_
                      refine mv_getR 74 fX11_48 (by decide) rfl rfl rfl dX11_goes_347 ?_
                      refine mv_iload_n 1 dX11_goes_350 rfl ?_
                      obtain ⟨hi35, h⟩ := mv_chkE h
                      refine mv_ild (by decide) rfl (mv_inE hi35) dX11_goes_351 ?_
                      refine mv_iadd dX11_goes_352 ?_
                      refine mv_iconst 1 dX11_goes_353 (by decide) ?_
                      refine mv_iadd dX11_goes_354 ?_
                      refine mv_aload_n 2 dX11_goes_355 rfl ?_
                      refine mv_getR 102 fX11_133 (by decide) rfl rfl rfl dX11_goes_356 ?_
                      refine mv_aload_n 2 dX11_goes_359 rfl ?_
                      refine mv_getI fX11_417 (by decide) rfl rfl dX11_goes_360 ?_
                      obtain ⟨hi36, h⟩ := mv_chkE h
                      refine mv_ild (by decide) rfl (mv_inE hi36) dX11_goes_363 ?_
                      obtain ⟨hi37, h⟩ := mv_chkE h
                      refine mv_ist (by decide) rfl (mv_inE hi37) dX11_goes_364 (fun M38 eM38 => ?_)
                      replace h := mv_letE h M38 eM38
                      refine mv_aload_n 2 dX11_goes_365 rfl ?_
                      refine mv_iconst 1 dX11_goes_366 (by decide) ?_
                      refine mv_aload_n 2 dX11_goes_367 rfl ?_
                      refine mv_getR 73 fX11_45 (by decide) rfl rfl rfl dX11_goes_368 ?_
                      refine mv_iload_n 1 dX11_goes_371 rfl ?_
                      obtain ⟨hi39, h⟩ := mv_chkE h
                      refine mv_ild (by decide) rfl (mv_inE hi39) dX11_goes_372 ?_
                      refine mv_iload_n 0 dX11_goes_373 rfl ?_
                      refine mv_cvV (As := [.int 1, .int (M38.1 73 v3.toNatClampNeg), .int v5]) (st := []) okX11_task lX11_322 (by decide) rfl rfl rfl (Nat.le_of_ble_eq_true rfl) rfl (Nat.le_of_ble_eq_true rfl) dX11_goes_374 (by omega) rfl (zX11_task (d := d - 1) (by omega) 1 (M38.1 73 v3.toNatClampNeg) v5 M38 (mv_bindE h)) (fun _ M40 h => ?_)
                      refine mv_goto 394 dX11_goes_377 (by decide) ?_
                      refine mv_sub [2] rfl ?_
                      exact zX11_goes_394 hd M40 h
                    · replace h := mv_ifF z30 h
                      by_cases z41 : (M1.1 81 (M1.1 62 36).toNatClampNeg) = 8
                      · replace h := mv_ifT z41 h
                        refine mv_tableIn (off := 327) 380 dX11_goes_53 (by rw [z41]; decide) (by rw [z41]; decide) (by rw [z41]; rfl) (by decide) ?_
                        refine mv_aload_n 2 dX11_goes_380 rfl ?_
                        refine mv_iload_n 1 dX11_goes_381 rfl ?_
                        refine mv_cvV (As := [.int v3]) (st := []) okX11_need lX11_432 (by decide) rfl rfl rfl (Nat.le_of_ble_eq_true rfl) rfl (Nat.le_of_ble_eq_true rfl) dX11_goes_382 (by omega) rfl (zX11_need (d := d - 1) (by omega) v3 M1 (mv_bindE h)) (fun _ M42 h => ?_)
                        refine mv_goto 394 dX11_goes_385 (by decide) ?_
                        refine mv_sub [2] rfl ?_
                        exact zX11_goes_394 hd M42 h
                      · replace h := mv_ifF z41 h
                        refine mv_tableOut 388 dX11_goes_53 (by have q0 := mv_ne 1 (v := 1) (by decide) z7; have q1 := mv_ne 2 (v := 2) (by decide) z9; have q2 := mv_ne 3 (v := 3) (by decide) z11; have q3 := mv_ne 4 (v := 4) (by decide) z18; have q4 := mv_ne 5 (v := 5) (by decide) z22; have q5 := mv_ne 6 (v := 6) (by decide) z27; have q6 := mv_ne 7 (v := 7) (by decide) z30; have q7 := mv_ne 8 (v := 8) (by decide) z41; omega) (by decide) ?_
                        refine mv_aload_n 2 dX11_goes_388 rfl ?_
                        refine mv_iload_n 1 dX11_goes_389 rfl ?_
                        refine mv_iload_n 0 dX11_goes_390 rfl ?_
                        refine mv_cvV (As := [.int v3, .int v5]) (st := []) okX11_demand lX11_435 (by decide) rfl rfl rfl (Nat.le_of_ble_eq_true rfl) rfl (Nat.le_of_ble_eq_true rfl) dX11_goes_391 (by omega) rfl (zX11_demand (d := d - 1) (by omega) v3 v5 M1 (mv_bindE h)) (fun _ M43 h => ?_)
                        refine mv_sub [2] rfl ?_
                        exact zX11_goes_394 hd M43 h
noncomputable def fX11_goes (M : mv_M) : Option (Unit × mv_M) :=
  fX11_goes_0 M
set_option maxRecDepth 100000 in
set_option maxHeartbeats 4000000 in
theorem zX11_goes {l : Launch} {d : Nat} {Q : Unit → mv_M → Prop} (hd : 4 ≤ d) (M : mv_M) (h : mv_ok (fX11_goes M) Q) : mv l mX11_goes d 0 0 (lv_args 0 [.ref 62]) [] M (mv_qV Q) := by
  unfold fX11_goes at h
  show mv l mX11_goes d 0 0 [(0, .ref 62)] [] M (mv_qV Q)
  refine mv_sub [0] rfl ?_
  exact zX11_goes_0 hd M h
