theorem dX7_clear_0 : decode cX7_clear 0 = .ok (.aload_n 0, 1) := by decide +kernel
theorem dX7_clear_1 : decode cX7_clear 1 = .ok (.iconst 0, 1) := by decide +kernel
theorem dX7_clear_2 : decode cX7_clear 2 = .ok (.putfield 9, 3) := by decide +kernel
theorem dX7_clear_5 : decode cX7_clear 5 = .ok (.aload_n 0, 1) := by decide +kernel
theorem dX7_clear_6 : decode cX7_clear 6 = .ok (.iconst 0, 1) := by decide +kernel
theorem dX7_clear_7 : decode cX7_clear 7 = .ok (.putfield 15, 3) := by decide +kernel
theorem dX7_clear_10 : decode cX7_clear 10 = .ok (.return_, 1) := by decide +kernel
noncomputable def fX7_clear (M : mv_M) : Option (Unit × mv_M) :=
  mv_let (mv_si M 8 0 0) fun M1 =>
  mv_let (mv_si M1 8 1 0) fun M2 =>
  some ((), M2)
set_option maxRecDepth 100000 in
set_option maxHeartbeats 4000000 in
theorem zX7_clear {l : Launch} {d : Nat} {Q : Unit → mv_M → Prop} (hd : 0 ≤ d) (M : mv_M) (h : mv_ok (fX7_clear M) Q) : mv l mX7_clear d 0 0 (lv_args 0 [.ref 8]) [] M (mv_qV Q) := by
  unfold fX7_clear at h
  show mv l mX7_clear d 0 0 [(0, .ref 8)] [] M (mv_qV Q)
  refine mv_aload_n 0 dX7_clear_0 rfl ?_
  refine mv_iconst 0 dX7_clear_1 (by decide) ?_
  refine mv_putI fX7_9 (by decide) rfl rfl dX7_clear_2 (fun M1 eM1 => ?_)
  replace h := mv_letE h M1 eM1
  refine mv_aload_n 0 dX7_clear_5 rfl ?_
  refine mv_iconst 0 dX7_clear_6 (by decide) ?_
  refine mv_putI fX7_15 (by decide) rfl rfl dX7_clear_7 (fun M2 eM2 => ?_)
  replace h := mv_letE h M2 eM2
  exact mv_vret rfl dX7_clear_10 ⟨rfl, h⟩
theorem dX7_lay_0 : decode cX7_lay 0 = .ok (.iload_n 2, 1) := by decide +kernel
theorem dX7_lay_1 : decode cX7_lay 1 = .ok (.ifCond .lt 11, 3) := by decide +kernel
theorem dX7_lay_4 : decode cX7_lay 4 = .ok (.iload_n 2, 1) := by decide +kernel
theorem dX7_lay_5 : decode cX7_lay 5 = .ok (.aload_n 1, 1) := by decide +kernel
theorem dX7_lay_6 : decode cX7_lay 6 = .ok (.getfield 45, 3) := by decide +kernel
theorem dX7_lay_9 : decode cX7_lay 9 = .ok (.if_icmp .lt 5, 3) := by decide +kernel
theorem dX7_lay_12 : decode cX7_lay 12 = .ok (.iconst (-1), 1) := by decide +kernel
theorem dX7_lay_13 : decode cX7_lay 13 = .ok (.ireturn, 1) := by decide +kernel
theorem dX7_lay_14 : decode cX7_lay 14 = .ok (.sipush 1500, 3) := by decide +kernel
theorem dX7_lay_17 : decode cX7_lay 17 = .ok (.iload_n 2, 1) := by decide +kernel
theorem dX7_lay_18 : decode cX7_lay 18 = .ok (.iadd, 1) := by decide +kernel
theorem dX7_lay_19 : decode cX7_lay 19 = .ok (.istore_n 3, 1) := by decide +kernel
theorem dX7_lay_20 : decode cX7_lay 20 = .ok (.aload_n 1, 1) := by decide +kernel
theorem dX7_lay_21 : decode cX7_lay 21 = .ok (.getfield 50, 3) := by decide +kernel
theorem dX7_lay_24 : decode cX7_lay 24 = .ok (.iload_n 2, 1) := by decide +kernel
theorem dX7_lay_25 : decode cX7_lay 25 = .ok (.iaload, 1) := by decide +kernel
theorem dX7_lay_26 : decode cX7_lay 26 = .ok (.istore 4, 2) := by decide +kernel
theorem dX7_lay_28 : decode cX7_lay 28 = .ok (.aload_n 0, 1) := by decide +kernel
theorem dX7_lay_29 : decode cX7_lay 29 = .ok (.getfield 25, 3) := by decide +kernel
theorem dX7_lay_32 : decode cX7_lay 32 = .ok (.iload_n 3, 1) := by decide +kernel
theorem dX7_lay_33 : decode cX7_lay 33 = .ok (.iload 4, 2) := by decide +kernel
theorem dX7_lay_35 : decode cX7_lay 35 = .ok (.iconst 1, 1) := by decide +kernel
theorem dX7_lay_36 : decode cX7_lay 36 = .ok (.if_icmp .ne 7, 3) := by decide +kernel
theorem dX7_lay_39 : decode cX7_lay 39 = .ok (.iconst 3, 1) := by decide +kernel
theorem dX7_lay_40 : decode cX7_lay 40 = .ok (.goto 4, 3) := by decide +kernel
theorem dX7_lay_43 : decode cX7_lay 43 = .ok (.iconst 2, 1) := by decide +kernel
theorem dX7_lay_44 : decode cX7_lay 44 = .ok (.iastore, 1) := by decide +kernel
theorem dX7_lay_45 : decode cX7_lay 45 = .ok (.aload_n 0, 1) := by decide +kernel
theorem dX7_lay_46 : decode cX7_lay 46 = .ok (.getfield 28, 3) := by decide +kernel
theorem dX7_lay_49 : decode cX7_lay 49 = .ok (.iload_n 3, 1) := by decide +kernel
theorem dX7_lay_50 : decode cX7_lay 50 = .ok (.iload 4, 2) := by decide +kernel
theorem dX7_lay_52 : decode cX7_lay 52 = .ok (.iconst 2, 1) := by decide +kernel
theorem dX7_lay_53 : decode cX7_lay 53 = .ok (.if_icmp .ne 7, 3) := by decide +kernel
theorem dX7_lay_56 : decode cX7_lay 56 = .ok (.iload_n 3, 1) := by decide +kernel
theorem dX7_lay_57 : decode cX7_lay 57 = .ok (.goto 9, 3) := by decide +kernel
theorem dX7_lay_60 : decode cX7_lay 60 = .ok (.aload_n 1, 1) := by decide +kernel
theorem dX7_lay_61 : decode cX7_lay 61 = .ok (.getfield 53, 3) := by decide +kernel
theorem dX7_lay_64 : decode cX7_lay 64 = .ok (.iload_n 2, 1) := by decide +kernel
theorem dX7_lay_65 : decode cX7_lay 65 = .ok (.iaload, 1) := by decide +kernel
theorem dX7_lay_66 : decode cX7_lay 66 = .ok (.iastore, 1) := by decide +kernel
theorem dX7_lay_67 : decode cX7_lay 67 = .ok (.aload_n 0, 1) := by decide +kernel
theorem dX7_lay_68 : decode cX7_lay 68 = .ok (.getfield 31, 3) := by decide +kernel
theorem dX7_lay_71 : decode cX7_lay 71 = .ok (.iload_n 3, 1) := by decide +kernel
theorem dX7_lay_72 : decode cX7_lay 72 = .ok (.iconst 0, 1) := by decide +kernel
theorem dX7_lay_73 : decode cX7_lay 73 = .ok (.bastore, 1) := by decide +kernel
theorem dX7_lay_74 : decode cX7_lay 74 = .ok (.iload 4, 2) := by decide +kernel
theorem dX7_lay_76 : decode cX7_lay 76 = .ok (.iconst 2, 1) := by decide +kernel
theorem dX7_lay_77 : decode cX7_lay 77 = .ok (.if_icmp .eq 7, 3) := by decide +kernel
theorem dX7_lay_80 : decode cX7_lay 80 = .ok (.iload_n 2, 1) := by decide +kernel
theorem dX7_lay_81 : decode cX7_lay 81 = .ok (.iconst 1, 1) := by decide +kernel
theorem dX7_lay_82 : decode cX7_lay 82 = .ok (.iadd, 1) := by decide +kernel
theorem dX7_lay_83 : decode cX7_lay 83 = .ok (.ireturn, 1) := by decide +kernel
theorem dX7_lay_84 : decode cX7_lay 84 = .ok (.aload_n 0, 1) := by decide +kernel
theorem dX7_lay_85 : decode cX7_lay 85 = .ok (.aload_n 1, 1) := by decide +kernel
theorem dX7_lay_86 : decode cX7_lay 86 = .ok (.iload_n 2, 1) := by decide +kernel
theorem dX7_lay_87 : decode cX7_lay 87 = .ok (.iconst 1, 1) := by decide +kernel
theorem dX7_lay_88 : decode cX7_lay 88 = .ok (.iadd, 1) := by decide +kernel
theorem dX7_lay_89 : decode cX7_lay 89 = .ok (.invokevirtual 54, 3) := by decide +kernel
theorem dX7_lay_92 : decode cX7_lay 92 = .ok (.istore 5, 2) := by decide +kernel
theorem dX7_lay_94 : decode cX7_lay 94 = .ok (.aload_n 0, 1) := by decide +kernel
theorem dX7_lay_95 : decode cX7_lay 95 = .ok (.getfield 35, 3) := by decide +kernel
theorem dX7_lay_98 : decode cX7_lay 98 = .ok (.iload_n 3, 1) := by decide +kernel
theorem dX7_lay_99 : decode cX7_lay 99 = .ok (.iload_n 3, 1) := by decide +kernel
theorem dX7_lay_100 : decode cX7_lay 100 = .ok (.iconst 1, 1) := by decide +kernel
theorem dX7_lay_101 : decode cX7_lay 101 = .ok (.iadd, 1) := by decide +kernel
theorem dX7_lay_102 : decode cX7_lay 102 = .ok (.iastore, 1) := by decide +kernel
theorem dX7_lay_103 : decode cX7_lay 103 = .ok (.aload_n 0, 1) := by decide +kernel
theorem dX7_lay_104 : decode cX7_lay 104 = .ok (.getfield 38, 3) := by decide +kernel
theorem dX7_lay_107 : decode cX7_lay 107 = .ok (.iload_n 3, 1) := by decide +kernel
theorem dX7_lay_108 : decode cX7_lay 108 = .ok (.sipush 1500, 3) := by decide +kernel
theorem dX7_lay_111 : decode cX7_lay 111 = .ok (.iload 5, 2) := by decide +kernel
theorem dX7_lay_113 : decode cX7_lay 113 = .ok (.iadd, 1) := by decide +kernel
theorem dX7_lay_114 : decode cX7_lay 114 = .ok (.iastore, 1) := by decide +kernel
theorem dX7_lay_115 : decode cX7_lay 115 = .ok (.aload_n 0, 1) := by decide +kernel
theorem dX7_lay_116 : decode cX7_lay 116 = .ok (.aload_n 1, 1) := by decide +kernel
theorem dX7_lay_117 : decode cX7_lay 117 = .ok (.iload 5, 2) := by decide +kernel
theorem dX7_lay_119 : decode cX7_lay 119 = .ok (.invokevirtual 54, 3) := by decide +kernel
theorem dX7_lay_122 : decode cX7_lay 122 = .ok (.ireturn, 1) := by decide +kernel
noncomputable def fX7_lay_66 (r_X7_lay : Int32 → mv_M → Option (Int32 × mv_M)) (x2 : Int32) (x3 : Int32) (x4 : Int32) (s0 : Int32) (s1 : Int32) (M : mv_M) : Option (Int32 × mv_M) :=
  mv_chk (mv_inb s1 1540) <|
  mv_let (mv_si M 58 s1.toNatClampNeg s0) fun M8 =>
  mv_chk (mv_inb x3 1540) <|
  mv_let (mv_si M8 59 x3.toNatClampNeg (vp_nar .boolean 0)) fun M10 =>
  if x4 = 2 then
    mv_bind (r_X7_lay (x2 + 1) M10) fun r11 M12 =>
    mv_chk (mv_inb x3 1540) <|
    mv_let (mv_si M12 60 x3.toNatClampNeg (x3 + 1)) fun M14 =>
    mv_chk (mv_inb x3 1540) <|
    mv_let (mv_si M14 61 x3.toNatClampNeg (1500 + r11)) fun M16 =>
    mv_bind (r_X7_lay r11 M16) fun r17 M18 =>
    some (r17, M18)
  else
    some (x2 + 1, M10)
set_option maxRecDepth 100000 in
set_option maxHeartbeats 4000000 in
theorem zX7_lay_66 {l : Launch} {d : Nat} {Q : Int32 → mv_M → Prop} {r_X7_lay : Int32 → mv_M → Option (Int32 × mv_M)} (hd : 1 ≤ d) (hr_X7_lay : ∀ (a1 : Int32) (M : mv_M) (Q : Int32 → mv_M → Prop), mv_ok (r_X7_lay a1 M) Q → mv l mX7_lay (d - 1) 0 0 (lv_args 0 [.ref 8, .ref 6, .int a1]) [] M (mv_qI Q)) (x2 : Int32) (x3 : Int32) (x4 : Int32) (s0 : Int32) (s1 : Int32) (M : mv_M) (h : mv_ok (fX7_lay_66 r_X7_lay x2 x3 x4 s0 s1 M) Q) : mv l mX7_lay d 0 66 [(0, .ref 8), (1, .ref 6), (2, .int x2), (3, .int x3), (4, .int x4)] [.int s0, .int s1, .ref 58] M (mv_qI Q) := by
  unfold fX7_lay_66 at h
  obtain ⟨hi7, h⟩ := mv_chkE h
  refine mv_ist (by decide) rfl (mv_inE hi7) dX7_lay_66 (fun M8 eM8 => ?_)
  replace h := mv_letE h M8 eM8
  refine mv_aload_n 0 dX7_lay_67 rfl ?_
  refine mv_getR 59 fX7_31 (by decide) rfl rfl rfl dX7_lay_68 ?_
  refine mv_iload_n 3 dX7_lay_71 rfl ?_
  refine mv_iconst 0 dX7_lay_72 (by decide) ?_
  obtain ⟨hi9, h⟩ := mv_chkE h
  refine mv_zst (by decide) rfl (mv_inE hi9) dX7_lay_73 (fun M10 eM10 => ?_)
  replace h := mv_letE h M10 eM10
  refine mv_iload 4 dX7_lay_74 rfl ?_
  refine mv_iconst 2 dX7_lay_76 (by decide) ?_
  refine mv_icmp_eq 84 dX7_lay_77 (by decide) (fun z => ?_) (fun z => ?_)
  · replace h := mv_ifT z h
    refine mv_aload_n 0 dX7_lay_84 rfl ?_
    refine mv_aload_n 1 dX7_lay_85 rfl ?_
    refine mv_iload_n 2 dX7_lay_86 rfl ?_
    refine mv_iconst 1 dX7_lay_87 (by decide) ?_
    refine mv_iadd dX7_lay_88 ?_
    refine mv_cvI (As := [.ref 6, .int (x2 + 1)]) (st := []) okX7_lay lX7_54 (by decide) rfl rfl rfl (Nat.le_of_ble_eq_true rfl) rfl (Nat.le_of_ble_eq_true rfl) dX7_lay_89 (by omega) rfl (hr_X7_lay (x2 + 1) M10 _ (mv_bindE h)) (fun r11 M12 h => ?_)
    refine mv_istore [(5, .int r11), (0, .ref 8), (1, .ref 6), (2, .int x2), (3, .int x3), (4, .int x4)] dX7_lay_92 (by decide) rfl ?_
    refine mv_aload_n 1 dX7_lay_94 rfl ?_
    refine mv_getR 60 fX7_35 (by decide) rfl rfl rfl dX7_lay_95 ?_
    refine mv_iload_n 4 dX7_lay_98 rfl ?_
    refine mv_iload_n 4 dX7_lay_99 rfl ?_
    refine mv_iconst 1 dX7_lay_100 (by decide) ?_
    refine mv_iadd dX7_lay_101 ?_
    obtain ⟨hi13, h⟩ := mv_chkE h
    refine mv_ist (by decide) rfl (mv_inE hi13) dX7_lay_102 (fun M14 eM14 => ?_)
    replace h := mv_letE h M14 eM14
    refine mv_aload_n 1 dX7_lay_103 rfl ?_
    refine mv_getR 61 fX7_38 (by decide) rfl rfl rfl dX7_lay_104 ?_
    refine mv_iload_n 4 dX7_lay_107 rfl ?_
    refine mv_sipush 1500 dX7_lay_108 (by decide) ?_
    refine mv_iload 0 dX7_lay_111 rfl ?_
    refine mv_iadd dX7_lay_113 ?_
    obtain ⟨hi15, h⟩ := mv_chkE h
    refine mv_ist (by decide) rfl (mv_inE hi15) dX7_lay_114 (fun M16 eM16 => ?_)
    replace h := mv_letE h M16 eM16
    refine mv_aload_n 1 dX7_lay_115 rfl ?_
    refine mv_aload_n 2 dX7_lay_116 rfl ?_
    refine mv_iload 0 dX7_lay_117 rfl ?_
    refine mv_cvI (As := [.ref 6, .int r11]) (st := []) okX7_lay lX7_54 (by decide) rfl rfl rfl (Nat.le_of_ble_eq_true rfl) rfl (Nat.le_of_ble_eq_true rfl) dX7_lay_119 (by omega) rfl (hr_X7_lay r11 M16 _ (mv_bindE h)) (fun r17 M18 h => ?_)
    exact mv_iret rfl dX7_lay_122 ⟨_, rfl, h⟩
  · replace h := mv_ifF z h
    refine mv_iload_n 2 dX7_lay_80 rfl ?_
    refine mv_iconst 1 dX7_lay_81 (by decide) ?_
    refine mv_iadd dX7_lay_82 ?_
    exact mv_iret rfl dX7_lay_83 ⟨_, rfl, h⟩
noncomputable def fX7_lay_44 (r_X7_lay : Int32 → mv_M → Option (Int32 × mv_M)) (x2 : Int32) (x3 : Int32) (x4 : Int32) (s0 : Int32) (s1 : Int32) (M : mv_M) : Option (Int32 × mv_M) :=
  mv_chk (mv_inb s1 1540) <|
  mv_let (mv_si M 57 s1.toNatClampNeg s0) fun M5 =>
  if x4 = 2 then
    fX7_lay_66 r_X7_lay x2 x3 x4 x3 x3 M5
  else
    mv_chk (mv_inb x2 40) <|
    fX7_lay_66 r_X7_lay x2 x3 x4 (M5.1 49 x2.toNatClampNeg) x3 M5
set_option maxRecDepth 100000 in
set_option maxHeartbeats 4000000 in
theorem zX7_lay_44 {l : Launch} {d : Nat} {Q : Int32 → mv_M → Prop} {r_X7_lay : Int32 → mv_M → Option (Int32 × mv_M)} (hd : 1 ≤ d) (hr_X7_lay : ∀ (a1 : Int32) (M : mv_M) (Q : Int32 → mv_M → Prop), mv_ok (r_X7_lay a1 M) Q → mv l mX7_lay (d - 1) 0 0 (lv_args 0 [.ref 8, .ref 6, .int a1]) [] M (mv_qI Q)) (x2 : Int32) (x3 : Int32) (x4 : Int32) (s0 : Int32) (s1 : Int32) (M : mv_M) (h : mv_ok (fX7_lay_44 r_X7_lay x2 x3 x4 s0 s1 M) Q) : mv l mX7_lay d 0 44 [(0, .ref 8), (1, .ref 6), (2, .int x2), (3, .int x3), (4, .int x4)] [.int s0, .int s1, .ref 57] M (mv_qI Q) := by
  unfold fX7_lay_44 at h
  obtain ⟨hi4, h⟩ := mv_chkE h
  refine mv_ist (by decide) rfl (mv_inE hi4) dX7_lay_44 (fun M5 eM5 => ?_)
  replace h := mv_letE h M5 eM5
  refine mv_aload_n 0 dX7_lay_45 rfl ?_
  refine mv_getR 58 fX7_28 (by decide) rfl rfl rfl dX7_lay_46 ?_
  refine mv_iload_n 3 dX7_lay_49 rfl ?_
  refine mv_iload 4 dX7_lay_50 rfl ?_
  refine mv_iconst 2 dX7_lay_52 (by decide) ?_
  refine mv_icmp_ne 60 dX7_lay_53 (by decide) (fun z => ?_) (fun z => ?_)
  · replace h := mv_ifF z h
    refine mv_aload_n 1 dX7_lay_60 rfl ?_
    refine mv_getR 49 fX7_53 (by decide) rfl rfl rfl dX7_lay_61 ?_
    refine mv_iload_n 2 dX7_lay_64 rfl ?_
    obtain ⟨hi6, h⟩ := mv_chkE h
    refine mv_ild (by decide) rfl (mv_inE hi6) dX7_lay_65 ?_
    refine mv_sub [0, 1, 2, 3, 4] rfl ?_
    exact zX7_lay_66 hd hr_X7_lay x2 x3 x4 (M5.1 49 x2.toNatClampNeg) x3 M5 h
  · replace h := mv_ifT z h
    refine mv_iload_n 3 dX7_lay_56 rfl ?_
    refine mv_goto 66 dX7_lay_57 (by decide) ?_
    refine mv_sub [0, 1, 2, 3, 4] rfl ?_
    exact zX7_lay_66 hd hr_X7_lay x2 x3 x4 x3 x3 M5 h
noncomputable def fX7_lay (r_X7_lay : Int32 → mv_M → Option (Int32 × mv_M)) (a1 : Int32) (M : mv_M) : Option (Int32 × mv_M) :=
  if a1 < 0 then
    some ((-1), M)
  else
    if a1 < (M.1 6 0) then
      mv_let (1500 + a1) fun v1 =>
      mv_chk (mv_inb a1 40) <|
      mv_let (M.1 48 a1.toNatClampNeg) fun v3 =>
      if v3 = 1 then
        fX7_lay_44 r_X7_lay a1 v1 v3 3 v1 M
      else
        fX7_lay_44 r_X7_lay a1 v1 v3 2 v1 M
    else
      some ((-1), M)
set_option maxRecDepth 100000 in
set_option maxHeartbeats 4000000 in
theorem zX7_lay {l : Launch} {d : Nat} {Q : Int32 → mv_M → Prop} {r_X7_lay : Int32 → mv_M → Option (Int32 × mv_M)} (hd : 1 ≤ d) (hr_X7_lay : ∀ (a1 : Int32) (M : mv_M) (Q : Int32 → mv_M → Prop), mv_ok (r_X7_lay a1 M) Q → mv l mX7_lay (d - 1) 0 0 (lv_args 0 [.ref 8, .ref 6, .int a1]) [] M (mv_qI Q)) (a1 : Int32) (M : mv_M) (h : mv_ok (fX7_lay r_X7_lay a1 M) Q) : mv l mX7_lay d 0 0 (lv_args 0 [.ref 8, .ref 6, .int a1]) [] M (mv_qI Q) := by
  unfold fX7_lay at h
  show mv l mX7_lay d 0 0 [(0, .ref 8), (1, .ref 6), (2, .int a1)] [] M (mv_qI Q)
  refine mv_iload_n 2 dX7_lay_0 rfl ?_
  refine mv_if_lt 12 dX7_lay_1 (by decide) (fun z => ?_) (fun z => ?_)
  · replace h := mv_ifT z h
    refine mv_iconst (-1) dX7_lay_12 (by decide) ?_
    exact mv_iret rfl dX7_lay_13 ⟨_, rfl, h⟩
  · replace h := mv_ifF z h
    refine mv_iload_n 2 dX7_lay_4 rfl ?_
    refine mv_aload_n 1 dX7_lay_5 rfl ?_
    refine mv_getI fX7_45 (by decide) rfl rfl dX7_lay_6 ?_
    refine mv_icmp_lt 14 dX7_lay_9 (by decide) (fun z => ?_) (fun z => ?_)
    · replace h := mv_ifT z h
      refine mv_sipush 1500 dX7_lay_14 (by decide) ?_
      refine mv_iload_n 2 dX7_lay_17 rfl ?_
      refine mv_iadd dX7_lay_18 ?_
      refine mv_topi (fun v1 ev1 => ?_)
      replace h := mv_letE h v1 ev1
      refine mv_istore_n [(3, .int v1), (0, .ref 8), (1, .ref 6), (2, .int a1)] dX7_lay_19 (by decide) rfl ?_
      refine mv_aload_n 2 dX7_lay_20 rfl ?_
      refine mv_getR 48 fX7_50 (by decide) rfl rfl rfl dX7_lay_21 ?_
      refine mv_iload_n 3 dX7_lay_24 rfl ?_
      obtain ⟨hi2, h⟩ := mv_chkE h
      refine mv_ild (by decide) rfl (mv_inE hi2) dX7_lay_25 ?_
      refine mv_topi (fun v3 ev3 => ?_)
      replace h := mv_letE h v3 ev3
      refine mv_istore [(4, .int v3), (3, .int v1), (0, .ref 8), (1, .ref 6), (2, .int a1)] dX7_lay_26 (by decide) rfl ?_
      refine mv_aload_n 2 dX7_lay_28 rfl ?_
      refine mv_getR 57 fX7_25 (by decide) rfl rfl rfl dX7_lay_29 ?_
      refine mv_iload_n 1 dX7_lay_32 rfl ?_
      refine mv_iload 0 dX7_lay_33 rfl ?_
      refine mv_iconst 1 dX7_lay_35 (by decide) ?_
      refine mv_icmp_ne 43 dX7_lay_36 (by decide) (fun z => ?_) (fun z => ?_)
      · replace h := mv_ifF z h
        refine mv_iconst 2 dX7_lay_43 (by decide) ?_
        refine mv_sub [2, 3, 4, 1, 0] rfl ?_
        exact zX7_lay_44 hd hr_X7_lay a1 v1 v3 2 v1 M h
      · replace h := mv_ifT z h
        refine mv_iconst 3 dX7_lay_39 (by decide) ?_
        refine mv_goto 44 dX7_lay_40 (by decide) ?_
        refine mv_sub [2, 3, 4, 1, 0] rfl ?_
        exact zX7_lay_44 hd hr_X7_lay a1 v1 v3 3 v1 M h
    · replace h := mv_ifF z h
      refine mv_iconst (-1) dX7_lay_12 (by decide) ?_
      exact mv_iret rfl dX7_lay_13 ⟨_, rfl, h⟩
noncomputable def RX7_lay : Nat → Nat → Int32 → mv_M → Option (Int32 × mv_M)
  | 0, _, _, _ => none
  | n + 1, s, a0, M =>
    fX7_lay (fun a1 M => RX7_lay n 0 a1 M) a0 M
set_option maxRecDepth 100000 in
theorem zRX7_lay {l : Launch} : ∀ (n d : Nat), n + 2 ≤ d → (∀ (a1 : Int32) (M : mv_M) (Q : Int32 → mv_M → Prop), mv_ok (RX7_lay n 0 a1 M) Q → mv l mX7_lay d 0 0 (lv_args 0 [.ref 8, .ref 6, .int a1]) [] M (mv_qI Q)) := by
  intro n
  induction n with
  | zero =>
    intro d hd
    intro a1 M Q h
    rw [RX7_lay] at h
    exact False.elim h
  | succ n ih =>
    intro d hd
    have hi := ih (d - 1) (by omega)
    intro a1 M Q h
    rw [RX7_lay] at h
    exact zX7_lay (by omega) hi a1 M h

noncomputable def tX7_lay (a1 : Int32) (M : mv_M) : Option (Int32 × mv_M) := RX7_lay 12 0 a1 M
theorem ztX7_lay {l : Launch} {d : Nat} {Q : Int32 → mv_M → Prop} (hd : 14 ≤ d) (a1 : Int32) (M : mv_M) (h : mv_ok (tX7_lay a1 M) Q) : mv l mX7_lay d 0 0 (lv_args 0 [.ref 8, .ref 6, .int a1]) [] M (mv_qI Q) := (zRX7_lay 12 d hd) a1 M Q h
theorem dX7_has_0 : decode cX7_has 0 = .ok (.iload_n 1, 1) := by decide +kernel
theorem dX7_has_1 : decode cX7_has 1 = .ok (.ifCond .lt 14, 3) := by decide +kernel
theorem dX7_has_4 : decode cX7_has 4 = .ok (.iload_n 1, 1) := by decide +kernel
theorem dX7_has_5 : decode cX7_has 5 = .ok (.sipush 1540, 3) := by decide +kernel
theorem dX7_has_8 : decode cX7_has 8 = .ok (.if_icmp .ge 7, 3) := by decide +kernel
theorem dX7_has_11 : decode cX7_has 11 = .ok (.iconst 1, 1) := by decide +kernel
theorem dX7_has_12 : decode cX7_has 12 = .ok (.goto 4, 3) := by decide +kernel
theorem dX7_has_15 : decode cX7_has 15 = .ok (.iconst 0, 1) := by decide +kernel
theorem dX7_has_16 : decode cX7_has 16 = .ok (.ireturn, 1) := by decide +kernel
noncomputable def fX7_has (a0 : Int32) (M : mv_M) : Option (Int32 × mv_M) :=
  if a0 < 0 then
    some (0, M)
  else
    if 1540 ≤ a0 then
      some (0, M)
    else
      some (1, M)
set_option maxRecDepth 100000 in
set_option maxHeartbeats 4000000 in
theorem zX7_has {l : Launch} {d : Nat} {Q : Int32 → mv_M → Prop} (hd : 0 ≤ d) (a0 : Int32) (M : mv_M) (h : mv_ok (fX7_has a0 M) Q) : mv l mX7_has d 0 0 (lv_args 0 [.ref 8, .int a0]) [] M (mv_qI Q) := by
  unfold fX7_has at h
  show mv l mX7_has d 0 0 [(0, .ref 8), (1, .int a0)] [] M (mv_qI Q)
  refine mv_iload_n 1 dX7_has_0 rfl ?_
  refine mv_if_lt 15 dX7_has_1 (by decide) (fun z => ?_) (fun z => ?_)
  · replace h := mv_ifT z h
    refine mv_iconst 0 dX7_has_15 (by decide) ?_
    exact mv_zret (by decide) rfl dX7_has_16 ⟨_, rfl, h⟩
  · replace h := mv_ifF z h
    refine mv_iload_n 1 dX7_has_4 rfl ?_
    refine mv_sipush 1540 dX7_has_5 (by decide) ?_
    refine mv_icmp_ge 15 dX7_has_8 (by decide) (fun z => ?_) (fun z => ?_)
    · replace h := mv_ifT z h
      refine mv_iconst 0 dX7_has_15 (by decide) ?_
      exact mv_zret (by decide) rfl dX7_has_16 ⟨_, rfl, h⟩
    · replace h := mv_ifF z h
      refine mv_iconst 1 dX7_has_11 (by decide) ?_
      refine mv_goto 16 dX7_has_12 (by decide) ?_
      exact mv_zret (by decide) rfl dX7_has_16 ⟨_, rfl, h⟩
theorem dX7_add_0 : decode cX7_add 0 = .ok (.aload_n 0, 1) := by decide +kernel
theorem dX7_add_1 : decode cX7_add 1 = .ok (.getfield 9, 3) := by decide +kernel
theorem dX7_add_4 : decode cX7_add 4 = .ok (.sipush 1500, 3) := by decide +kernel
theorem dX7_add_7 : decode cX7_add 7 = .ok (.if_icmp .lt 5, 3) := by decide +kernel
theorem dX7_add_10 : decode cX7_add 10 = .ok (.iconst (-1), 1) := by decide +kernel
theorem dX7_add_11 : decode cX7_add 11 = .ok (.ireturn, 1) := by decide +kernel
theorem dX7_add_12 : decode cX7_add 12 = .ok (.aload_n 0, 1) := by decide +kernel
theorem dX7_add_13 : decode cX7_add 13 = .ok (.getfield 9, 3) := by decide +kernel
theorem dX7_add_16 : decode cX7_add 16 = .ok (.istore_n 3, 1) := by decide +kernel
theorem dX7_add_17 : decode cX7_add 17 = .ok (.aload_n 0, 1) := by decide +kernel
theorem dX7_add_18 : decode cX7_add 18 = .ok (.dup, 1) := by decide +kernel
theorem dX7_add_19 : decode cX7_add 19 = .ok (.getfield 9, 3) := by decide +kernel
theorem dX7_add_22 : decode cX7_add 22 = .ok (.iconst 1, 1) := by decide +kernel
theorem dX7_add_23 : decode cX7_add 23 = .ok (.iadd, 1) := by decide +kernel
theorem dX7_add_24 : decode cX7_add 24 = .ok (.putfield 9, 3) := by decide +kernel
theorem dX7_add_27 : decode cX7_add 27 = .ok (.aload_n 0, 1) := by decide +kernel
theorem dX7_add_28 : decode cX7_add 28 = .ok (.getfield 18, 3) := by decide +kernel
theorem dX7_add_31 : decode cX7_add 31 = .ok (.iload_n 3, 1) := by decide +kernel
theorem dX7_add_32 : decode cX7_add 32 = .ok (.iload_n 1, 1) := by decide +kernel
theorem dX7_add_33 : decode cX7_add 33 = .ok (.iastore, 1) := by decide +kernel
theorem dX7_add_34 : decode cX7_add 34 = .ok (.aload_n 0, 1) := by decide +kernel
theorem dX7_add_35 : decode cX7_add 35 = .ok (.getfield 22, 3) := by decide +kernel
theorem dX7_add_38 : decode cX7_add 38 = .ok (.iload_n 3, 1) := by decide +kernel
theorem dX7_add_39 : decode cX7_add 39 = .ok (.iload_n 2, 1) := by decide +kernel
theorem dX7_add_40 : decode cX7_add 40 = .ok (.iastore, 1) := by decide +kernel
theorem dX7_add_41 : decode cX7_add 41 = .ok (.aload_n 0, 1) := by decide +kernel
theorem dX7_add_42 : decode cX7_add 42 = .ok (.getfield 25, 3) := by decide +kernel
theorem dX7_add_45 : decode cX7_add 45 = .ok (.iload_n 3, 1) := by decide +kernel
theorem dX7_add_46 : decode cX7_add 46 = .ok (.iconst 0, 1) := by decide +kernel
theorem dX7_add_47 : decode cX7_add 47 = .ok (.iastore, 1) := by decide +kernel
theorem dX7_add_48 : decode cX7_add 48 = .ok (.aload_n 0, 1) := by decide +kernel
theorem dX7_add_49 : decode cX7_add 49 = .ok (.getfield 31, 3) := by decide +kernel
theorem dX7_add_52 : decode cX7_add 52 = .ok (.iload_n 3, 1) := by decide +kernel
theorem dX7_add_53 : decode cX7_add 53 = .ok (.iconst 0, 1) := by decide +kernel
theorem dX7_add_54 : decode cX7_add 54 = .ok (.bastore, 1) := by decide +kernel
theorem dX7_add_55 : decode cX7_add 55 = .ok (.iload_n 3, 1) := by decide +kernel
theorem dX7_add_56 : decode cX7_add 56 = .ok (.ireturn, 1) := by decide +kernel
noncomputable def fX7_add (a0 : Int32) (a1 : Int32) (M : mv_M) : Option (Int32 × mv_M) :=
  if (M.1 8 0) < 1500 then
    mv_let (M.1 8 0) fun v1 =>
    mv_let (mv_si M 8 0 ((M.1 8 0) + 1)) fun M2 =>
    mv_chk (mv_inb v1 1500) <|
    mv_let (mv_si M2 55 v1.toNatClampNeg a0) fun M4 =>
    mv_chk (mv_inb v1 1500) <|
    mv_let (mv_si M4 56 v1.toNatClampNeg a1) fun M6 =>
    mv_chk (mv_inb v1 1540) <|
    mv_let (mv_si M6 57 v1.toNatClampNeg 0) fun M8 =>
    mv_chk (mv_inb v1 1540) <|
    mv_let (mv_si M8 59 v1.toNatClampNeg (vp_nar .boolean 0)) fun M10 =>
    some (v1, M10)
  else
    some ((-1), M)
set_option maxRecDepth 100000 in
set_option maxHeartbeats 4000000 in
theorem zX7_add {l : Launch} {d : Nat} {Q : Int32 → mv_M → Prop} (hd : 0 ≤ d) (a0 : Int32) (a1 : Int32) (M : mv_M) (h : mv_ok (fX7_add a0 a1 M) Q) : mv l mX7_add d 0 0 (lv_args 0 [.ref 8, .int a0, .int a1]) [] M (mv_qI Q) := by
  unfold fX7_add at h
  show mv l mX7_add d 0 0 [(0, .ref 8), (1, .int a0), (2, .int a1)] [] M (mv_qI Q)
  refine mv_aload_n 0 dX7_add_0 rfl ?_
  refine mv_getI fX7_9 (by decide) rfl rfl dX7_add_1 ?_
  refine mv_sipush 1500 dX7_add_4 (by decide) ?_
  refine mv_icmp_lt 12 dX7_add_7 (by decide) (fun z => ?_) (fun z => ?_)
  · replace h := mv_ifT z h
    refine mv_aload_n 0 dX7_add_12 rfl ?_
    refine mv_getI fX7_9 (by decide) rfl rfl dX7_add_13 ?_
    refine mv_topi (fun v1 ev1 => ?_)
    replace h := mv_letE h v1 ev1
    refine mv_istore_n [(3, .int v1), (0, .ref 8), (1, .int a0), (2, .int a1)] dX7_add_16 (by decide) rfl ?_
    refine mv_aload_n 1 dX7_add_17 rfl ?_
    refine mv_dup dX7_add_18 rfl ?_
    refine mv_getI fX7_9 (by decide) rfl rfl dX7_add_19 ?_
    refine mv_iconst 1 dX7_add_22 (by decide) ?_
    refine mv_iadd dX7_add_23 ?_
    refine mv_putI fX7_9 (by decide) rfl rfl dX7_add_24 (fun M2 eM2 => ?_)
    replace h := mv_letE h M2 eM2
    refine mv_aload_n 1 dX7_add_27 rfl ?_
    refine mv_getR 55 fX7_18 (by decide) rfl rfl rfl dX7_add_28 ?_
    refine mv_iload_n 0 dX7_add_31 rfl ?_
    refine mv_iload_n 2 dX7_add_32 rfl ?_
    obtain ⟨hi3, h⟩ := mv_chkE h
    refine mv_ist (by decide) rfl (mv_inE hi3) dX7_add_33 (fun M4 eM4 => ?_)
    replace h := mv_letE h M4 eM4
    refine mv_aload_n 1 dX7_add_34 rfl ?_
    refine mv_getR 56 fX7_22 (by decide) rfl rfl rfl dX7_add_35 ?_
    refine mv_iload_n 0 dX7_add_38 rfl ?_
    refine mv_iload_n 3 dX7_add_39 rfl ?_
    obtain ⟨hi5, h⟩ := mv_chkE h
    refine mv_ist (by decide) rfl (mv_inE hi5) dX7_add_40 (fun M6 eM6 => ?_)
    replace h := mv_letE h M6 eM6
    refine mv_aload_n 1 dX7_add_41 rfl ?_
    refine mv_getR 57 fX7_25 (by decide) rfl rfl rfl dX7_add_42 ?_
    refine mv_iload_n 0 dX7_add_45 rfl ?_
    refine mv_iconst 0 dX7_add_46 (by decide) ?_
    obtain ⟨hi7, h⟩ := mv_chkE h
    refine mv_ist (by decide) rfl (mv_inE hi7) dX7_add_47 (fun M8 eM8 => ?_)
    replace h := mv_letE h M8 eM8
    refine mv_aload_n 1 dX7_add_48 rfl ?_
    refine mv_getR 59 fX7_31 (by decide) rfl rfl rfl dX7_add_49 ?_
    refine mv_iload_n 0 dX7_add_52 rfl ?_
    refine mv_iconst 0 dX7_add_53 (by decide) ?_
    obtain ⟨hi9, h⟩ := mv_chkE h
    refine mv_zst (by decide) rfl (mv_inE hi9) dX7_add_54 (fun M10 eM10 => ?_)
    replace h := mv_letE h M10 eM10
    refine mv_iload_n 0 dX7_add_55 rfl ?_
    exact mv_iret rfl dX7_add_56 ⟨_, rfl, h⟩
  · replace h := mv_ifF z h
    refine mv_iconst (-1) dX7_add_10 (by decide) ?_
    exact mv_iret rfl dX7_add_11 ⟨_, rfl, h⟩
theorem dX7_addPair_0 : decode cX7_addPair 0 = .ok (.aload_n 0, 1) := by decide +kernel
theorem dX7_addPair_1 : decode cX7_addPair 1 = .ok (.getfield 15, 3) := by decide +kernel
theorem dX7_addPair_4 : decode cX7_addPair 4 = .ok (.sipush 1500, 3) := by decide +kernel
theorem dX7_addPair_7 : decode cX7_addPair 7 = .ok (.if_icmp .lt 5, 3) := by decide +kernel
theorem dX7_addPair_10 : decode cX7_addPair 10 = .ok (.iconst (-1), 1) := by decide +kernel
theorem dX7_addPair_11 : decode cX7_addPair 11 = .ok (.ireturn, 1) := by decide +kernel
theorem dX7_addPair_12 : decode cX7_addPair 12 = .ok (.aload_n 0, 1) := by decide +kernel
theorem dX7_addPair_13 : decode cX7_addPair 13 = .ok (.dup, 1) := by decide +kernel
theorem dX7_addPair_14 : decode cX7_addPair 14 = .ok (.getfield 15, 3) := by decide +kernel
theorem dX7_addPair_17 : decode cX7_addPair 17 = .ok (.iconst 1, 1) := by decide +kernel
theorem dX7_addPair_18 : decode cX7_addPair 18 = .ok (.iadd, 1) := by decide +kernel
theorem dX7_addPair_19 : decode cX7_addPair 19 = .ok (.putfield 15, 3) := by decide +kernel
theorem dX7_addPair_22 : decode cX7_addPair 22 = .ok (.aload_n 0, 1) := by decide +kernel
theorem dX7_addPair_23 : decode cX7_addPair 23 = .ok (.getfield 15, 3) := by decide +kernel
theorem dX7_addPair_26 : decode cX7_addPair 26 = .ok (.iconst 1, 1) := by decide +kernel
theorem dX7_addPair_27 : decode cX7_addPair 27 = .ok (.isub, 1) := by decide +kernel
theorem dX7_addPair_28 : decode cX7_addPair 28 = .ok (.ireturn, 1) := by decide +kernel
noncomputable def fX7_addPair (M : mv_M) : Option (Int32 × mv_M) :=
  if (M.1 8 1) < 1500 then
    mv_let (mv_si M 8 1 ((M.1 8 1) + 1)) fun M1 =>
    some ((M1.1 8 1) - 1, M1)
  else
    some ((-1), M)
set_option maxRecDepth 100000 in
set_option maxHeartbeats 4000000 in
theorem zX7_addPair {l : Launch} {d : Nat} {Q : Int32 → mv_M → Prop} (hd : 0 ≤ d) (M : mv_M) (h : mv_ok (fX7_addPair M) Q) : mv l mX7_addPair d 0 0 (lv_args 0 [.ref 8]) [] M (mv_qI Q) := by
  unfold fX7_addPair at h
  show mv l mX7_addPair d 0 0 [(0, .ref 8)] [] M (mv_qI Q)
  refine mv_aload_n 0 dX7_addPair_0 rfl ?_
  refine mv_getI fX7_15 (by decide) rfl rfl dX7_addPair_1 ?_
  refine mv_sipush 1500 dX7_addPair_4 (by decide) ?_
  refine mv_icmp_lt 12 dX7_addPair_7 (by decide) (fun z => ?_) (fun z => ?_)
  · replace h := mv_ifT z h
    refine mv_aload_n 0 dX7_addPair_12 rfl ?_
    refine mv_dup dX7_addPair_13 rfl ?_
    refine mv_getI fX7_15 (by decide) rfl rfl dX7_addPair_14 ?_
    refine mv_iconst 1 dX7_addPair_17 (by decide) ?_
    refine mv_iadd dX7_addPair_18 ?_
    refine mv_putI fX7_15 (by decide) rfl rfl dX7_addPair_19 (fun M1 eM1 => ?_)
    replace h := mv_letE h M1 eM1
    refine mv_aload_n 0 dX7_addPair_22 rfl ?_
    refine mv_getI fX7_15 (by decide) rfl rfl dX7_addPair_23 ?_
    refine mv_iconst 1 dX7_addPair_26 (by decide) ?_
    refine mv_isub dX7_addPair_27 ?_
    exact mv_iret rfl dX7_addPair_28 ⟨_, rfl, h⟩
  · replace h := mv_ifF z h
    refine mv_iconst (-1) dX7_addPair_10 (by decide) ?_
    exact mv_iret rfl dX7_addPair_11 ⟨_, rfl, h⟩
theorem dX7_neverNeeded_0 : decode cX7_neverNeeded 0 = .ok (.iconst 0, 1) := by decide +kernel
theorem dX7_neverNeeded_1 : decode cX7_neverNeeded 1 = .ok (.istore_n 1, 1) := by decide +kernel
theorem dX7_neverNeeded_2 : decode cX7_neverNeeded 2 = .ok (.iconst 0, 1) := by decide +kernel
theorem dX7_neverNeeded_3 : decode cX7_neverNeeded 3 = .ok (.istore_n 2, 1) := by decide +kernel
theorem dX7_neverNeeded_4 : decode cX7_neverNeeded 4 = .ok (.iload_n 2, 1) := by decide +kernel
theorem dX7_neverNeeded_5 : decode cX7_neverNeeded 5 = .ok (.aload_n 0, 1) := by decide +kernel
theorem dX7_neverNeeded_6 : decode cX7_neverNeeded 6 = .ok (.getfield 9, 3) := by decide +kernel
theorem dX7_neverNeeded_9 : decode cX7_neverNeeded 9 = .ok (.if_icmp .ge 21, 3) := by decide +kernel
theorem dX7_neverNeeded_12 : decode cX7_neverNeeded 12 = .ok (.aload_n 0, 1) := by decide +kernel
theorem dX7_neverNeeded_13 : decode cX7_neverNeeded 13 = .ok (.getfield 31, 3) := by decide +kernel
theorem dX7_neverNeeded_16 : decode cX7_neverNeeded 16 = .ok (.iload_n 2, 1) := by decide +kernel
theorem dX7_neverNeeded_17 : decode cX7_neverNeeded 17 = .ok (.baload, 1) := by decide +kernel
theorem dX7_neverNeeded_18 : decode cX7_neverNeeded 18 = .ok (.ifCond .ne 6, 3) := by decide +kernel
theorem dX7_neverNeeded_21 : decode cX7_neverNeeded 21 = .ok (.iinc 1 1, 3) := by decide +kernel
theorem dX7_neverNeeded_24 : decode cX7_neverNeeded 24 = .ok (.iinc 2 1, 3) := by decide +kernel
theorem dX7_neverNeeded_27 : decode cX7_neverNeeded 27 = .ok (.goto (-23), 3) := by decide +kernel
theorem dX7_neverNeeded_30 : decode cX7_neverNeeded 30 = .ok (.iload_n 1, 1) := by decide +kernel
theorem dX7_neverNeeded_31 : decode cX7_neverNeeded 31 = .ok (.ireturn, 1) := by decide +kernel
noncomputable def fX7_neverNeeded_24 (x1 : Int32) (x2 : Int32) (M : mv_M) : Option (((Int32 × Int32) ⊕ Int32) × mv_M) :=
  mv_let (x2 + 1) fun v3 =>
  some (.inl (x1, v3), M)
set_option maxRecDepth 100000 in
set_option maxHeartbeats 4000000 in
theorem zX7_neverNeeded_24 {l : Launch} {d : Nat} {Q : Int32 → mv_M → Prop} (hd : 0 ≤ d) (x1 : Int32) (x2 : Int32) (M : mv_M) (h : mv_ok (fX7_neverNeeded_24 x1 x2 M) (mv_pq (fun (s : Int32 × Int32) M => mv l mX7_neverNeeded d 0 4 [(0, .ref 8), (1, .int s.1), (2, .int s.2)] [] M (mv_qI Q)) Q)) : mv l mX7_neverNeeded d 0 24 [(0, .ref 8), (1, .int x1), (2, .int x2)] [] M (mv_qI Q) := by
  unfold fX7_neverNeeded_24 at h
  obtain ⟨v3, ev3⟩ : ∃ z : Int32, z = x2 + 1 := ⟨_, rfl⟩
  replace h := mv_letE h v3 ev3
  refine mv_iinc v3 2 [(2, .int v3), (0, .ref 8), (1, .int x1)] dX7_neverNeeded_24 rfl (by rw [ev3]; rfl) (by decide) rfl ?_
  refine mv_goto 4 dX7_neverNeeded_27 (by decide) ?_
  refine mv_sub [1, 2, 0] rfl ?_
  exact h
noncomputable def gX7_neverNeeded_4 (x1 : Int32) (x2 : Int32) (M : mv_M) : Option (((Int32 × Int32) ⊕ Int32) × mv_M) :=
  if (M.1 8 0) ≤ x2 then
    some (.inr (x1), M)
  else
    mv_chk (mv_inb x2 1540) <|
    if (M.1 59 x2.toNatClampNeg) = 0 then
      mv_let (x1 + 1) fun v2 =>
      fX7_neverNeeded_24 v2 x2 M
    else
      fX7_neverNeeded_24 x1 x2 M
noncomputable def fX7_neverNeeded_4 (x1 : Int32) (x2 : Int32) (M : mv_M) : Option (Int32 × mv_M) := mv_loop (fun (s : Int32 × Int32) M => gX7_neverNeeded_4 s.1 s.2 M) (x1, x2) M
set_option maxRecDepth 100000 in
set_option maxHeartbeats 4000000 in
theorem zX7_neverNeeded_4 {l : Launch} {d : Nat} {Q : Int32 → mv_M → Prop} (hd : 0 ≤ d) (x1 : Int32) (x2 : Int32) (M : mv_M) (h : mv_ok (fX7_neverNeeded_4 x1 x2 M) Q) : mv l mX7_neverNeeded d 0 4 [(0, .ref 8), (1, .int x1), (2, .int x2)] [] M (mv_qI Q) := by
  unfold fX7_neverNeeded_4 at h
  refine mv_loopE (A := (fun (s : Int32 × Int32) M => mv l mX7_neverNeeded d 0 4 [(0, .ref 8), (1, .int s.1), (2, .int s.2)] [] M (mv_qI Q))) ?_ (x1, x2) M h
  · rintro ⟨x1, x2⟩ M h
    try dsimp only at h
    show mv l mX7_neverNeeded d 0 4 [(0, .ref 8), (1, .int x1), (2, .int x2)] [] M (mv_qI Q)
    unfold gX7_neverNeeded_4 at h
    refine mv_iload_n 2 dX7_neverNeeded_4 rfl ?_
    refine mv_aload_n 0 dX7_neverNeeded_5 rfl ?_
    refine mv_getI fX7_9 (by decide) rfl rfl dX7_neverNeeded_6 ?_
    refine mv_icmp_ge 30 dX7_neverNeeded_9 (by decide) (fun z => ?_) (fun z => ?_)
    · replace h := mv_ifT z h
      refine mv_iload_n 1 dX7_neverNeeded_30 rfl ?_
      exact mv_iret rfl dX7_neverNeeded_31 ⟨_, rfl, h⟩
    · replace h := mv_ifF z h
      refine mv_aload_n 0 dX7_neverNeeded_12 rfl ?_
      refine mv_getR 59 fX7_31 (by decide) rfl rfl rfl dX7_neverNeeded_13 ?_
      refine mv_iload_n 2 dX7_neverNeeded_16 rfl ?_
      obtain ⟨hi1, h⟩ := mv_chkE h
      refine mv_zld (by decide) rfl (mv_inE hi1) dX7_neverNeeded_17 ?_
      refine mv_if_ne 24 dX7_neverNeeded_18 (by decide) (fun z => ?_) (fun z => ?_)
      · replace h := mv_ifF z h
        refine mv_sub [0, 1, 2] rfl ?_
        exact zX7_neverNeeded_24 hd x1 x2 M h
      · replace h := mv_ifT z h
        obtain ⟨v2, ev2⟩ : ∃ z : Int32, z = x1 + 1 := ⟨_, rfl⟩
        replace h := mv_letE h v2 ev2
        refine mv_iinc v2 1 [(1, .int v2), (0, .ref 8), (2, .int x2)] dX7_neverNeeded_21 rfl (by rw [ev2]; rfl) (by decide) rfl ?_
        refine mv_sub [1, 0, 2] rfl ?_
        exact zX7_neverNeeded_24 hd v2 x2 M h
noncomputable def fX7_neverNeeded (M : mv_M) : Option (Int32 × mv_M) :=
  fX7_neverNeeded_4 0 0 M
set_option maxRecDepth 100000 in
set_option maxHeartbeats 4000000 in
theorem zX7_neverNeeded {l : Launch} {d : Nat} {Q : Int32 → mv_M → Prop} (hd : 0 ≤ d) (M : mv_M) (h : mv_ok (fX7_neverNeeded M) Q) : mv l mX7_neverNeeded d 0 0 (lv_args 0 [.ref 8]) [] M (mv_qI Q) := by
  unfold fX7_neverNeeded at h
  show mv l mX7_neverNeeded d 0 0 [(0, .ref 8)] [] M (mv_qI Q)
  refine mv_iconst 0 dX7_neverNeeded_0 (by decide) ?_
  refine mv_istore_n [(1, .int 0), (0, .ref 8)] dX7_neverNeeded_1 (by decide) rfl ?_
  refine mv_iconst 0 dX7_neverNeeded_2 (by decide) ?_
  refine mv_istore_n [(2, .int 0), (1, .int 0), (0, .ref 8)] dX7_neverNeeded_3 (by decide) rfl ?_
  refine mv_sub [2, 1, 0] rfl ?_
  exact zX7_neverNeeded_4 hd 0 0 M h
theorem dX7_hasValue_0 : decode cX7_hasValue 0 = .ok (.aload_n 0, 1) := by decide +kernel
theorem dX7_hasValue_1 : decode cX7_hasValue 1 = .ok (.iload_n 1, 1) := by decide +kernel
theorem dX7_hasValue_2 : decode cX7_hasValue 2 = .ok (.invokevirtual 41, 3) := by decide +kernel
theorem dX7_hasValue_5 : decode cX7_hasValue 5 = .ok (.ifCond .eq 17, 3) := by decide +kernel
theorem dX7_hasValue_8 : decode cX7_hasValue 8 = .ok (.aload_n 0, 1) := by decide +kernel
theorem dX7_hasValue_9 : decode cX7_hasValue 9 = .ok (.getfield 25, 3) := by decide +kernel
theorem dX7_hasValue_12 : decode cX7_hasValue 12 = .ok (.iload_n 1, 1) := by decide +kernel
theorem dX7_hasValue_13 : decode cX7_hasValue 13 = .ok (.iaload, 1) := by decide +kernel
theorem dX7_hasValue_14 : decode cX7_hasValue 14 = .ok (.iconst 2, 1) := by decide +kernel
theorem dX7_hasValue_15 : decode cX7_hasValue 15 = .ok (.if_icmp .ne 7, 3) := by decide +kernel
theorem dX7_hasValue_18 : decode cX7_hasValue 18 = .ok (.iconst 1, 1) := by decide +kernel
theorem dX7_hasValue_19 : decode cX7_hasValue 19 = .ok (.goto 4, 3) := by decide +kernel
theorem dX7_hasValue_22 : decode cX7_hasValue 22 = .ok (.iconst 0, 1) := by decide +kernel
theorem dX7_hasValue_23 : decode cX7_hasValue 23 = .ok (.ireturn, 1) := by decide +kernel
noncomputable def fX7_hasValue (a0 : Int32) (M : mv_M) : Option (Int32 × mv_M) :=
  mv_bind (fX7_has a0 M) fun r1 M2 =>
  if r1 = 0 then
    some (0, M2)
  else
    mv_chk (mv_inb a0 1540) <|
    if (M2.1 57 a0.toNatClampNeg) = 2 then
      some (1, M2)
    else
      some (0, M2)
set_option maxRecDepth 100000 in
set_option maxHeartbeats 4000000 in
theorem zX7_hasValue {l : Launch} {d : Nat} {Q : Int32 → mv_M → Prop} (hd : 1 ≤ d) (a0 : Int32) (M : mv_M) (h : mv_ok (fX7_hasValue a0 M) Q) : mv l mX7_hasValue d 0 0 (lv_args 0 [.ref 8, .int a0]) [] M (mv_qI Q) := by
  unfold fX7_hasValue at h
  show mv l mX7_hasValue d 0 0 [(0, .ref 8), (1, .int a0)] [] M (mv_qI Q)
  refine mv_aload_n 0 dX7_hasValue_0 rfl ?_
  refine mv_iload_n 1 dX7_hasValue_1 rfl ?_
  refine mv_cvI (As := [.int a0]) (st := []) okX7_has lX7_41 (by decide) rfl rfl rfl (Nat.le_of_ble_eq_true rfl) rfl (Nat.le_of_ble_eq_true rfl) dX7_hasValue_2 (by omega) rfl (zX7_has (d := d - 1) (by omega) a0 M (mv_bindE h)) (fun r1 M2 h => ?_)
  refine mv_if_eq 22 dX7_hasValue_5 (by decide) (fun z => ?_) (fun z => ?_)
  · replace h := mv_ifT z h
    refine mv_iconst 0 dX7_hasValue_22 (by decide) ?_
    exact mv_zret (by decide) rfl dX7_hasValue_23 ⟨_, rfl, h⟩
  · replace h := mv_ifF z h
    refine mv_aload_n 0 dX7_hasValue_8 rfl ?_
    refine mv_getR 57 fX7_25 (by decide) rfl rfl rfl dX7_hasValue_9 ?_
    refine mv_iload_n 1 dX7_hasValue_12 rfl ?_
    obtain ⟨hi3, h⟩ := mv_chkE h
    refine mv_ild (by decide) rfl (mv_inE hi3) dX7_hasValue_13 ?_
    refine mv_iconst 2 dX7_hasValue_14 (by decide) ?_
    refine mv_icmp_ne 22 dX7_hasValue_15 (by decide) (fun z => ?_) (fun z => ?_)
    · replace h := mv_ifF z h
      refine mv_iconst 0 dX7_hasValue_22 (by decide) ?_
      exact mv_zret (by decide) rfl dX7_hasValue_23 ⟨_, rfl, h⟩
    · replace h := mv_ifT z h
      refine mv_iconst 1 dX7_hasValue_18 (by decide) ?_
      refine mv_goto 23 dX7_hasValue_19 (by decide) ?_
      exact mv_zret (by decide) rfl dX7_hasValue_23 ⟨_, rfl, h⟩
