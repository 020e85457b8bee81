theorem dX2_goOnSign_0 : decode cX2_goOnSign 0 = .ok (.aload_n 0, 1) := by decide +kernel
theorem dX2_goOnSign_1 : decode cX2_goOnSign 1 = .ok (.getfield 50, 3) := by decide +kernel
theorem dX2_goOnSign_4 : decode cX2_goOnSign 4 = .ok (.iload_n 2, 1) := by decide +kernel
theorem dX2_goOnSign_5 : decode cX2_goOnSign 5 = .ok (.iaload, 1) := by decide +kernel
theorem dX2_goOnSign_6 : decode cX2_goOnSign 6 = .ok (.istore_n 3, 1) := by decide +kernel
theorem dX2_goOnSign_7 : decode cX2_goOnSign 7 = .ok (.aload_n 0, 1) := by decide +kernel
theorem dX2_goOnSign_8 : decode cX2_goOnSign 8 = .ok (.iload_n 2, 1) := by decide +kernel
theorem dX2_goOnSign_9 : decode cX2_goOnSign 9 = .ok (.invokevirtual 202, 3) := by decide +kernel
theorem dX2_goOnSign_12 : decode cX2_goOnSign 12 = .ok (.lookupswitch 72 #[(0, 28), (1, 45)], 28) := by decide +kernel
theorem dX2_goOnSign_40 : decode cX2_goOnSign 40 = .ok (.aload_n 0, 1) := by decide +kernel
theorem dX2_goOnSign_41 : decode cX2_goOnSign 41 = .ok (.aload_n 0, 1) := by decide +kernel
theorem dX2_goOnSign_42 : decode cX2_goOnSign 42 = .ok (.getfield 65, 3) := by decide +kernel
theorem dX2_goOnSign_45 : decode cX2_goOnSign 45 = .ok (.getfield 175, 3) := by decide +kernel
theorem dX2_goOnSign_48 : decode cX2_goOnSign 48 = .ok (.iload_n 1, 1) := by decide +kernel
theorem dX2_goOnSign_49 : decode cX2_goOnSign 49 = .ok (.iaload, 1) := by decide +kernel
theorem dX2_goOnSign_50 : decode cX2_goOnSign 50 = .ok (.iload_n 3, 1) := by decide +kernel
theorem dX2_goOnSign_51 : decode cX2_goOnSign 51 = .ok (.invokevirtual 157, 3) := by decide +kernel
theorem dX2_goOnSign_54 : decode cX2_goOnSign 54 = .ok (.goto 57, 3) := by decide +kernel
theorem dX2_goOnSign_57 : decode cX2_goOnSign 57 = .ok (.aload_n 0, 1) := by decide +kernel
theorem dX2_goOnSign_58 : decode cX2_goOnSign 58 = .ok (.getfield 56, 3) := by decide +kernel
theorem dX2_goOnSign_61 : decode cX2_goOnSign 61 = .ok (.iload_n 2, 1) := by decide +kernel
theorem dX2_goOnSign_62 : decode cX2_goOnSign 62 = .ok (.aload_n 0, 1) := by decide +kernel
theorem dX2_goOnSign_63 : decode cX2_goOnSign 63 = .ok (.getfield 37, 3) := by decide +kernel
theorem dX2_goOnSign_66 : decode cX2_goOnSign 66 = .ok (.iastore, 1) := by decide +kernel
theorem dX2_goOnSign_67 : decode cX2_goOnSign 67 = .ok (.aload_n 0, 1) := by decide +kernel
theorem dX2_goOnSign_68 : decode cX2_goOnSign 68 = .ok (.aload_n 0, 1) := by decide +kernel
theorem dX2_goOnSign_69 : decode cX2_goOnSign 69 = .ok (.getfield 65, 3) := by decide +kernel
theorem dX2_goOnSign_72 : decode cX2_goOnSign 72 = .ok (.getfield 208, 3) := by decide +kernel
theorem dX2_goOnSign_75 : decode cX2_goOnSign 75 = .ok (.iload_n 1, 1) := by decide +kernel
theorem dX2_goOnSign_76 : decode cX2_goOnSign 76 = .ok (.iaload, 1) := by decide +kernel
theorem dX2_goOnSign_77 : decode cX2_goOnSign 77 = .ok (.iload_n 3, 1) := by decide +kernel
theorem dX2_goOnSign_78 : decode cX2_goOnSign 78 = .ok (.invokevirtual 157, 3) := by decide +kernel
theorem dX2_goOnSign_81 : decode cX2_goOnSign 81 = .ok (.goto 30, 3) := by decide +kernel
theorem dX2_goOnSign_84 : decode cX2_goOnSign 84 = .ok (.aload_n 0, 1) := by decide +kernel
theorem dX2_goOnSign_85 : decode cX2_goOnSign 85 = .ok (.aload_n 0, 1) := by decide +kernel
theorem dX2_goOnSign_86 : decode cX2_goOnSign 86 = .ok (.aload_n 0, 1) := by decide +kernel
theorem dX2_goOnSign_87 : decode cX2_goOnSign 87 = .ok (.getfield 65, 3) := by decide +kernel
theorem dX2_goOnSign_90 : decode cX2_goOnSign 90 = .ok (.getfield 172, 3) := by decide +kernel
theorem dX2_goOnSign_93 : decode cX2_goOnSign 93 = .ok (.iload_n 1, 1) := by decide +kernel
theorem dX2_goOnSign_94 : decode cX2_goOnSign 94 = .ok (.iaload, 1) := by decide +kernel
theorem dX2_goOnSign_95 : decode cX2_goOnSign 95 = .ok (.aload_n 0, 1) := by decide +kernel
theorem dX2_goOnSign_96 : decode cX2_goOnSign 96 = .ok (.getfield 56, 3) := by decide +kernel
theorem dX2_goOnSign_99 : decode cX2_goOnSign 99 = .ok (.iload_n 2, 1) := by decide +kernel
theorem dX2_goOnSign_100 : decode cX2_goOnSign 100 = .ok (.iaload, 1) := by decide +kernel
theorem dX2_goOnSign_101 : decode cX2_goOnSign 101 = .ok (.aload_n 0, 1) := by decide +kernel
theorem dX2_goOnSign_102 : decode cX2_goOnSign 102 = .ok (.getfield 37, 3) := by decide +kernel
theorem dX2_goOnSign_105 : decode cX2_goOnSign 105 = .ok (.invokevirtual 211, 3) := by decide +kernel
theorem dX2_goOnSign_108 : decode cX2_goOnSign 108 = .ok (.invokevirtual 178, 3) := by decide +kernel
theorem dX2_goOnSign_111 : decode cX2_goOnSign 111 = .ok (.return_, 1) := by decide +kernel
noncomputable def fX2_goOnSign (a0 : Int32) (a1 : Int32) (M : mv_M) : Option (Unit × mv_M) :=
  mv_chk (mv_inb a1 150) <|
  mv_let (M.1 52 a1.toNatClampNeg) fun v2 =>
  mv_bind (fX2_nextPhase a1 M) fun r3 M4 =>
  if r3 = 0 then
    mv_getp (M4.2.2 7 6) fun b6 =>
    mv_chk (mv_inb a0 1000) <|
    mv_bind (fX2_enter (M4.1 (b6 + 9) a0.toNatClampNeg) v2 M4) fun _ M8 =>
    some ((), M8)
  else
    if r3 = 1 then
      mv_chk (mv_inb a1 150) <|
      mv_let (mv_si M4 54 a1.toNatClampNeg (M4.1 7 9)) fun M11 =>
      mv_getp (M11.2.2 7 6) fun b12 =>
      mv_chk (mv_inb a0 1000) <|
      mv_bind (fX2_enter (M11.1 (b12 + 10) a0.toNatClampNeg) v2 M11) fun _ M14 =>
      some ((), M14)
    else
      mv_getp (M4.2.2 7 6) fun b15 =>
      mv_chk (mv_inb a0 1000) <|
      mv_chk (mv_inb a1 150) <|
      mv_bind (fX2_reckon (M4.1 (b15 + 8) a0.toNatClampNeg) (M4.1 54 a1.toNatClampNeg) (M4.1 7 9) M4) fun r18 M19 =>
      mv_bind (fX2_leave r18 M19) fun _ M20 =>
      some ((), M20)
set_option maxRecDepth 100000 in
set_option maxHeartbeats 4000000 in
theorem zX2_goOnSign {l : Launch} {d : Nat} {Q : Unit → mv_M → Prop} (hd : 2 ≤ d) (a0 : Int32) (a1 : Int32) (M : mv_M) (h : mv_ok (fX2_goOnSign a0 a1 M) Q) : mv l mX2_goOnSign d 0 0 (lv_args 0 [.ref 7, .int a0, .int a1]) [] M (mv_qV Q) := by
  unfold fX2_goOnSign at h
  show mv l mX2_goOnSign d 0 0 [(0, .ref 7), (1, .int a0), (2, .int a1)] [] M (mv_qV Q)
  refine mv_aload_n 0 dX2_goOnSign_0 rfl ?_
  refine mv_getR 52 fX2_50 (by decide) rfl rfl rfl dX2_goOnSign_1 ?_
  refine mv_iload_n 2 dX2_goOnSign_4 rfl ?_
  obtain ⟨hi1, h⟩ := mv_chkE h
  refine mv_ild (by decide) rfl (mv_inE hi1) dX2_goOnSign_5 ?_
  refine mv_topi (fun v2 ev2 => ?_)
  replace h := mv_letE h v2 ev2
  refine mv_istore_n [(3, .int v2), (0, .ref 7), (1, .int a0), (2, .int a1)] dX2_goOnSign_6 (by decide) rfl ?_
  refine mv_aload_n 1 dX2_goOnSign_7 rfl ?_
  refine mv_iload_n 3 dX2_goOnSign_8 rfl ?_
  refine mv_cvI (As := [.int a1]) (st := []) okX2_nextPhase lX2_202 (by decide) rfl rfl rfl (Nat.le_of_ble_eq_true rfl) rfl (Nat.le_of_ble_eq_true rfl) dX2_goOnSign_9 (by omega) rfl (zX2_nextPhase (d := d - 1) (by omega) a1 M (mv_bindE h)) (fun r3 M4 h => ?_)
  by_cases z5 : r3 = 0
  · replace h := mv_ifT z5 h
    refine mv_lookup (off := 28) 40 dX2_goOnSign_12 (by decide) (mv_swc (mv_eqv z5 (by decide))) (by decide) ?_
    refine mv_aload_n 1 dX2_goOnSign_40 rfl ?_
    refine mv_aload_n 1 dX2_goOnSign_41 rfl ?_
    obtain ⟨b6, eb6, hb6, h⟩ := mv_getpE h
    refine mv_getP b6 fX2_65 (by decide) rfl rfl eb6 dX2_goOnSign_42 ?_
    refine mv_getR (b6 + 9) fX2_175 (mv_pN (t := 0) hb6 (by decide)) (by rcases hb6 with rfl | rfl <;> rfl) rfl (by rcases hb6 with rfl | rfl <;> rfl) dX2_goOnSign_45 ?_
    refine mv_iload_n 2 dX2_goOnSign_48 rfl ?_
    obtain ⟨hi7, h⟩ := mv_chkE h
    refine mv_ild (mv_pN (t := 9) hb6 (by decide)) (by rcases hb6 with rfl | rfl <;> rfl) (mv_inE hi7) dX2_goOnSign_49 ?_
    refine mv_iload_n 0 dX2_goOnSign_50 rfl ?_
    refine mv_cvV (As := [.int (M4.1 (b6 + 9) a0.toNatClampNeg), .int v2]) (st := []) okX2_enter lX2_157 (by decide) rfl rfl rfl (Nat.le_of_ble_eq_true rfl) rfl (Nat.le_of_ble_eq_true rfl) dX2_goOnSign_51 (by omega) rfl (zX2_enter (d := d - 1) (by omega) (M4.1 (b6 + 9) a0.toNatClampNeg) v2 M4 (mv_bindE h)) (fun _ M8 h => ?_)
    refine mv_goto 111 dX2_goOnSign_54 (by decide) ?_
    exact mv_vret rfl dX2_goOnSign_111 ⟨rfl, h⟩
  · replace h := mv_ifF z5 h
    by_cases z9 : r3 = 1
    · replace h := mv_ifT z9 h
      refine mv_lookup (off := 45) 57 dX2_goOnSign_12 (by decide) (mv_swn (mv_ne 0 (by decide) z5) (mv_swc (mv_eqv z9 (by decide)))) (by decide) ?_
      refine mv_aload_n 1 dX2_goOnSign_57 rfl ?_
      refine mv_getR 54 fX2_56 (by decide) rfl rfl rfl dX2_goOnSign_58 ?_
      refine mv_iload_n 3 dX2_goOnSign_61 rfl ?_
      refine mv_aload_n 1 dX2_goOnSign_62 rfl ?_
      refine mv_getI fX2_37 (by decide) rfl rfl dX2_goOnSign_63 ?_
      obtain ⟨hi10, h⟩ := mv_chkE h
      refine mv_ist (by decide) rfl (mv_inE hi10) dX2_goOnSign_66 (fun M11 eM11 => ?_)
      replace h := mv_letE h M11 eM11
      refine mv_aload_n 1 dX2_goOnSign_67 rfl ?_
      refine mv_aload_n 1 dX2_goOnSign_68 rfl ?_
      obtain ⟨b12, eb12, hb12, h⟩ := mv_getpE h
      refine mv_getP b12 fX2_65 (by decide) rfl rfl eb12 dX2_goOnSign_69 ?_
      refine mv_getR (b12 + 10) fX2_208 (mv_pN (t := 0) hb12 (by decide)) (by rcases hb12 with rfl | rfl <;> rfl) rfl (by rcases hb12 with rfl | rfl <;> rfl) dX2_goOnSign_72 ?_
      refine mv_iload_n 2 dX2_goOnSign_75 rfl ?_
      obtain ⟨hi13, h⟩ := mv_chkE h
      refine mv_ild (mv_pN (t := 10) hb12 (by decide)) (by rcases hb12 with rfl | rfl <;> rfl) (mv_inE hi13) dX2_goOnSign_76 ?_
      refine mv_iload_n 0 dX2_goOnSign_77 rfl ?_
      refine mv_cvV (As := [.int (M11.1 (b12 + 10) a0.toNatClampNeg), .int v2]) (st := []) okX2_enter lX2_157 (by decide) rfl rfl rfl (Nat.le_of_ble_eq_true rfl) rfl (Nat.le_of_ble_eq_true rfl) dX2_goOnSign_78 (by omega) rfl (zX2_enter (d := d - 1) (by omega) (M11.1 (b12 + 10) a0.toNatClampNeg) v2 M11 (mv_bindE h)) (fun _ M14 h => ?_)
      refine mv_goto 111 dX2_goOnSign_81 (by decide) ?_
      exact mv_vret rfl dX2_goOnSign_111 ⟨rfl, h⟩
    · replace h := mv_ifF z9 h
      refine mv_lookup (off := 72) 84 dX2_goOnSign_12 (by decide) (mv_swn (mv_ne 0 (by decide) z5) (mv_swn (mv_ne 1 (by decide) z9) rfl)) (by decide) ?_
      refine mv_aload_n 1 dX2_goOnSign_84 rfl ?_
      refine mv_aload_n 1 dX2_goOnSign_85 rfl ?_
      refine mv_aload_n 1 dX2_goOnSign_86 rfl ?_
      obtain ⟨b15, eb15, hb15, h⟩ := mv_getpE h
      refine mv_getP b15 fX2_65 (by decide) rfl rfl eb15 dX2_goOnSign_87 ?_
      refine mv_getR (b15 + 8) fX2_172 (mv_pN (t := 0) hb15 (by decide)) (by rcases hb15 with rfl | rfl <;> rfl) rfl (by rcases hb15 with rfl | rfl <;> rfl) dX2_goOnSign_90 ?_
      refine mv_iload_n 2 dX2_goOnSign_93 rfl ?_
      obtain ⟨hi16, h⟩ := mv_chkE h
      refine mv_ild (mv_pN (t := 8) hb15 (by decide)) (by rcases hb15 with rfl | rfl <;> rfl) (mv_inE hi16) dX2_goOnSign_94 ?_
      refine mv_aload_n 1 dX2_goOnSign_95 rfl ?_
      refine mv_getR 54 fX2_56 (by decide) rfl rfl rfl dX2_goOnSign_96 ?_
      refine mv_iload_n 3 dX2_goOnSign_99 rfl ?_
      obtain ⟨hi17, h⟩ := mv_chkE h
      refine mv_ild (by decide) rfl (mv_inE hi17) dX2_goOnSign_100 ?_
      refine mv_aload_n 1 dX2_goOnSign_101 rfl ?_
      refine mv_getI fX2_37 (by decide) rfl rfl dX2_goOnSign_102 ?_
      refine mv_cvI (As := [.int (M4.1 (b15 + 8) a0.toNatClampNeg), .int (M4.1 54 a1.toNatClampNeg), .int (M4.1 7 9)]) (st := [.ref 7]) okX2_reckon lX2_211 (by decide) rfl rfl rfl (Nat.le_of_ble_eq_true rfl) rfl (Nat.le_of_ble_eq_true rfl) dX2_goOnSign_105 (by omega) rfl (zX2_reckon (d := d - 1) (by omega) (M4.1 (b15 + 8) a0.toNatClampNeg) (M4.1 54 a1.toNatClampNeg) (M4.1 7 9) M4 (mv_bindE h)) (fun r18 M19 h => ?_)
      refine mv_cvV (As := [.int r18]) (st := []) okX2_leave lX2_178 (by decide) rfl rfl rfl (Nat.le_of_ble_eq_true rfl) rfl (Nat.le_of_ble_eq_true rfl) dX2_goOnSign_108 (by omega) rfl (zX2_leave (d := d - 1) (by omega) r18 M19 (mv_bindE h)) (fun _ M20 h => ?_)
      exact mv_vret rfl dX2_goOnSign_111 ⟨rfl, h⟩
theorem dX2_goOn_0 : decode cX2_goOn 0 = .ok (.aload_n 0, 1) := by decide +kernel
theorem dX2_goOn_1 : decode cX2_goOn 1 = .ok (.getfield 47, 3) := by decide +kernel
theorem dX2_goOn_4 : decode cX2_goOn 4 = .ok (.iload_n 1, 1) := by decide +kernel
theorem dX2_goOn_5 : decode cX2_goOn 5 = .ok (.iaload, 1) := by decide +kernel
theorem dX2_goOn_6 : decode cX2_goOn 6 = .ok (.istore_n 2, 1) := by decide +kernel
theorem dX2_goOn_7 : decode cX2_goOn 7 = .ok (.aload_n 0, 1) := by decide +kernel
theorem dX2_goOn_8 : decode cX2_goOn 8 = .ok (.getfield 65, 3) := by decide +kernel
theorem dX2_goOn_11 : decode cX2_goOn 11 = .ok (.iload_n 2, 1) := by decide +kernel
theorem dX2_goOn_12 : decode cX2_goOn 12 = .ok (.invokevirtual 169, 3) := by decide +kernel
theorem dX2_goOn_15 : decode cX2_goOn 15 = .ok (.ifCond .ne 9, 3) := by decide +kernel
theorem dX2_goOn_18 : decode cX2_goOn 18 = .ok (.aload_n 0, 1) := by decide +kernel
theorem dX2_goOn_19 : decode cX2_goOn 19 = .ok (.iconst 2, 1) := by decide +kernel
theorem dX2_goOn_20 : decode cX2_goOn 20 = .ok (.putfield 22, 3) := by decide +kernel
theorem dX2_goOn_23 : decode cX2_goOn 23 = .ok (.return_, 1) := by decide +kernel
theorem dX2_goOn_24 : decode cX2_goOn 24 = .ok (.aload_n 0, 1) := by decide +kernel
theorem dX2_goOn_25 : decode cX2_goOn 25 = .ok (.getfield 65, 3) := by decide +kernel
theorem dX2_goOn_28 : decode cX2_goOn 28 = .ok (.getfield 172, 3) := by decide +kernel
theorem dX2_goOn_31 : decode cX2_goOn 31 = .ok (.iload_n 2, 1) := by decide +kernel
theorem dX2_goOn_32 : decode cX2_goOn 32 = .ok (.iaload, 1) := by decide +kernel
theorem dX2_goOn_33 : decode cX2_goOn 33 = .ok (.lookupswitch 158 #[(2, 99), (3, 75), (5, 149), (6, 135), (301, 108), (304, 117), (306, 126), (308, 91)], 75) := by decide +kernel
theorem dX2_goOn_108 : decode cX2_goOn 108 = .ok (.aload_n 0, 1) := by decide +kernel
theorem dX2_goOn_109 : decode cX2_goOn 109 = .ok (.aload_n 0, 1) := by decide +kernel
theorem dX2_goOn_110 : decode cX2_goOn 110 = .ok (.getfield 65, 3) := by decide +kernel
theorem dX2_goOn_113 : decode cX2_goOn 113 = .ok (.getfield 175, 3) := by decide +kernel
theorem dX2_goOn_116 : decode cX2_goOn 116 = .ok (.iload_n 2, 1) := by decide +kernel
theorem dX2_goOn_117 : decode cX2_goOn 117 = .ok (.iaload, 1) := by decide +kernel
theorem dX2_goOn_118 : decode cX2_goOn 118 = .ok (.invokevirtual 178, 3) := by decide +kernel
theorem dX2_goOn_121 : decode cX2_goOn 121 = .ok (.goto 76, 3) := by decide +kernel
theorem dX2_goOn_124 : decode cX2_goOn 124 = .ok (.aload_n 0, 1) := by decide +kernel
theorem dX2_goOn_125 : decode cX2_goOn 125 = .ok (.iconst 2, 1) := by decide +kernel
theorem dX2_goOn_126 : decode cX2_goOn 126 = .ok (.putfield 22, 3) := by decide +kernel
theorem dX2_goOn_129 : decode cX2_goOn 129 = .ok (.goto 68, 3) := by decide +kernel
theorem dX2_goOn_132 : decode cX2_goOn 132 = .ok (.aload_n 0, 1) := by decide +kernel
theorem dX2_goOn_133 : decode cX2_goOn 133 = .ok (.iload_n 2, 1) := by decide +kernel
theorem dX2_goOn_134 : decode cX2_goOn 134 = .ok (.iload_n 1, 1) := by decide +kernel
theorem dX2_goOn_135 : decode cX2_goOn 135 = .ok (.invokevirtual 181, 3) := by decide +kernel
theorem dX2_goOn_138 : decode cX2_goOn 138 = .ok (.goto 59, 3) := by decide +kernel
theorem dX2_goOn_141 : decode cX2_goOn 141 = .ok (.aload_n 0, 1) := by decide +kernel
theorem dX2_goOn_142 : decode cX2_goOn 142 = .ok (.iload_n 2, 1) := by decide +kernel
theorem dX2_goOn_143 : decode cX2_goOn 143 = .ok (.iload_n 1, 1) := by decide +kernel
theorem dX2_goOn_144 : decode cX2_goOn 144 = .ok (.invokevirtual 184, 3) := by decide +kernel
theorem dX2_goOn_147 : decode cX2_goOn 147 = .ok (.goto 50, 3) := by decide +kernel
theorem dX2_goOn_150 : decode cX2_goOn 150 = .ok (.aload_n 0, 1) := by decide +kernel
theorem dX2_goOn_151 : decode cX2_goOn 151 = .ok (.iload_n 2, 1) := by decide +kernel
theorem dX2_goOn_152 : decode cX2_goOn 152 = .ok (.iload_n 1, 1) := by decide +kernel
theorem dX2_goOn_153 : decode cX2_goOn 153 = .ok (.invokevirtual 187, 3) := by decide +kernel
theorem dX2_goOn_156 : decode cX2_goOn 156 = .ok (.goto 41, 3) := by decide +kernel
theorem dX2_goOn_159 : decode cX2_goOn 159 = .ok (.aload_n 0, 1) := by decide +kernel
theorem dX2_goOn_160 : decode cX2_goOn 160 = .ok (.iload_n 2, 1) := by decide +kernel
theorem dX2_goOn_161 : decode cX2_goOn 161 = .ok (.iload_n 1, 1) := by decide +kernel
theorem dX2_goOn_162 : decode cX2_goOn 162 = .ok (.invokevirtual 190, 3) := by decide +kernel
theorem dX2_goOn_165 : decode cX2_goOn 165 = .ok (.goto 32, 3) := by decide +kernel
theorem dX2_goOn_168 : decode cX2_goOn 168 = .ok (.aload_n 0, 1) := by decide +kernel
theorem dX2_goOn_169 : decode cX2_goOn 169 = .ok (.iload_n 2, 1) := by decide +kernel
theorem dX2_goOn_170 : decode cX2_goOn 170 = .ok (.aload_n 0, 1) := by decide +kernel
theorem dX2_goOn_171 : decode cX2_goOn 171 = .ok (.getfield 50, 3) := by decide +kernel
theorem dX2_goOn_174 : decode cX2_goOn 174 = .ok (.iload_n 1, 1) := by decide +kernel
theorem dX2_goOn_175 : decode cX2_goOn 175 = .ok (.iaload, 1) := by decide +kernel
theorem dX2_goOn_176 : decode cX2_goOn 176 = .ok (.invokevirtual 193, 3) := by decide +kernel
theorem dX2_goOn_179 : decode cX2_goOn 179 = .ok (.goto 18, 3) := by decide +kernel
theorem dX2_goOn_182 : decode cX2_goOn 182 = .ok (.aload_n 0, 1) := by decide +kernel
theorem dX2_goOn_183 : decode cX2_goOn 183 = .ok (.iload_n 2, 1) := by decide +kernel
theorem dX2_goOn_184 : decode cX2_goOn 184 = .ok (.iload_n 1, 1) := by decide +kernel
theorem dX2_goOn_185 : decode cX2_goOn 185 = .ok (.invokevirtual 196, 3) := by decide +kernel
theorem dX2_goOn_188 : decode cX2_goOn 188 = .ok (.goto 9, 3) := by decide +kernel
theorem dX2_goOn_191 : decode cX2_goOn 191 = .ok (.aload_n 0, 1) := by decide +kernel
theorem dX2_goOn_192 : decode cX2_goOn 192 = .ok (.iload_n 2, 1) := by decide +kernel
theorem dX2_goOn_193 : decode cX2_goOn 193 = .ok (.iload_n 1, 1) := by decide +kernel
theorem dX2_goOn_194 : decode cX2_goOn 194 = .ok (.invokevirtual 199, 3) := by decide +kernel
theorem dX2_goOn_197 : decode cX2_goOn 197 = .ok (.return_, 1) := by decide +kernel
noncomputable def fX2_goOn (a0 : Int32) (M : mv_M) : Option (Unit × mv_M) :=
  mv_chk (mv_inb a0 150) <|
  mv_let (M.1 51 a0.toNatClampNeg) fun v2 =>
  mv_getp (M.2.2 7 6) fun b3 =>
  mv_bind (fX4_hasNode b3 v2 M) fun r4 M5 =>
  if r4 = 0 then
    mv_let (mv_si M5 7 2 2) fun M28 =>
    some ((), M28)
  else
    mv_getp (M5.2.2 7 6) fun b6 =>
    mv_chk (mv_inb v2 1000) <|
    if (M5.1 (b6 + 8) v2.toNatClampNeg) = 2 then
      mv_bind (fX2_goOnName v2 a0 M5) fun _ M9 =>
      some ((), M9)
    else
      if (M5.1 (b6 + 8) v2.toNatClampNeg) = 3 then
        mv_getp (M5.2.2 7 6) fun b11 =>
        mv_chk (mv_inb v2 1000) <|
        mv_bind (fX2_leave (M5.1 (b11 + 9) v2.toNatClampNeg) M5) fun _ M13 =>
        some ((), M13)
      else
        if (M5.1 (b6 + 8) v2.toNatClampNeg) = 5 then
          mv_bind (fX2_goOnCall v2 a0 M5) fun _ M15 =>
          some ((), M15)
        else
          if (M5.1 (b6 + 8) v2.toNatClampNeg) = 6 then
            mv_chk (mv_inb a0 150) <|
            mv_bind (fX2_makePair v2 (M5.1 52 a0.toNatClampNeg) M5) fun _ M18 =>
            some ((), M18)
          else
            if (M5.1 (b6 + 8) v2.toNatClampNeg) = 301 then
              mv_bind (fX2_goOnIf v2 a0 M5) fun _ M20 =>
              some ((), M20)
            else
              if (M5.1 (b6 + 8) v2.toNatClampNeg) = 304 then
                mv_bind (fX2_goOnLet v2 a0 M5) fun _ M22 =>
                some ((), M22)
              else
                if (M5.1 (b6 + 8) v2.toNatClampNeg) = 306 then
                  mv_bind (fX2_goOnCase v2 a0 M5) fun _ M24 =>
                  some ((), M24)
                else
                  if (M5.1 (b6 + 8) v2.toNatClampNeg) = 308 then
                    mv_let (mv_si M5 7 2 2) fun M26 =>
                    some ((), M26)
                  else
                    mv_bind (fX2_goOnSign v2 a0 M5) fun _ M27 =>
                    some ((), M27)
set_option maxRecDepth 100000 in
set_option maxHeartbeats 4000000 in
theorem zX2_goOn {l : Launch} {d : Nat} {Q : Unit → mv_M → Prop} (hd : 4 ≤ d) (a0 : Int32) (M : mv_M) (h : mv_ok (fX2_goOn a0 M) Q) : mv l mX2_goOn d 0 0 (lv_args 0 [.ref 7, .int a0]) [] M (mv_qV Q) := by
  unfold fX2_goOn at h
  show mv l mX2_goOn d 0 0 [(0, .ref 7), (1, .int a0)] [] M (mv_qV Q)
  refine mv_aload_n 0 dX2_goOn_0 rfl ?_
  refine mv_getR 51 fX2_47 (by decide) rfl rfl rfl dX2_goOn_1 ?_
  refine mv_iload_n 1 dX2_goOn_4 rfl ?_
  obtain ⟨hi1, h⟩ := mv_chkE h
  refine mv_ild (by decide) rfl (mv_inE hi1) dX2_goOn_5 ?_
  refine mv_topi (fun v2 ev2 => ?_)
  replace h := mv_letE h v2 ev2
  refine mv_istore_n [(2, .int v2), (0, .ref 7), (1, .int a0)] dX2_goOn_6 (by decide) rfl ?_
  refine mv_aload_n 1 dX2_goOn_7 rfl ?_
  obtain ⟨b3, eb3, hb3, h⟩ := mv_getpE h
  refine mv_getP b3 fX2_65 (by decide) rfl rfl eb3 dX2_goOn_8 ?_
  refine mv_iload_n 0 dX2_goOn_11 rfl ?_
  refine mv_cvI (As := [.int v2]) (st := []) okX4_hasNode lX2_169 (mv_pN (t := 0) hb3 (by decide)) (by rcases hb3 with rfl | rfl <;> rfl) rfl rfl (Nat.le_of_ble_eq_true rfl) rfl (Nat.le_of_ble_eq_true rfl) dX2_goOn_12 (by omega) rfl (zX4_hasNode (d := d - 1) (by omega) b3 v2 M hb3 (mv_bindE h)) (fun r4 M5 h => ?_)
  refine mv_if_ne 24 dX2_goOn_15 (by decide) (fun z => ?_) (fun z => ?_)
  · replace h := mv_ifF z h
    refine mv_aload_n 1 dX2_goOn_24 rfl ?_
    obtain ⟨b6, eb6, hb6, h⟩ := mv_getpE h
    refine mv_getP b6 fX2_65 (by decide) rfl rfl eb6 dX2_goOn_25 ?_
    refine mv_getR (b6 + 8) fX2_172 (mv_pN (t := 0) hb6 (by decide)) (by rcases hb6 with rfl | rfl <;> rfl) rfl (by rcases hb6 with rfl | rfl <;> rfl) dX2_goOn_28 ?_
    refine mv_iload_n 0 dX2_goOn_31 rfl ?_
    obtain ⟨hi7, h⟩ := mv_chkE h
    refine mv_ild (mv_pN (t := 8) hb6 (by decide)) (by rcases hb6 with rfl | rfl <;> rfl) (mv_inE hi7) dX2_goOn_32 ?_
    by_cases z8 : (M5.1 (b6 + 8) v2.toNatClampNeg) = 2
    · replace h := mv_ifT z8 h
      refine mv_lookup (off := 99) 132 dX2_goOn_33 (by decide) (mv_swc (mv_eqv z8 (by decide))) (by decide) ?_
      refine mv_aload_n 1 dX2_goOn_132 rfl ?_
      refine mv_iload_n 0 dX2_goOn_133 rfl ?_
      refine mv_iload_n 2 dX2_goOn_134 rfl ?_
      refine mv_cvV (As := [.int v2, .int a0]) (st := []) okX2_goOnName lX2_181 (by decide) rfl rfl rfl (Nat.le_of_ble_eq_true rfl) rfl (Nat.le_of_ble_eq_true rfl) dX2_goOn_135 (by omega) rfl (zX2_goOnName (d := d - 1) (by omega) v2 a0 M5 (mv_bindE h)) (fun _ M9 h => ?_)
      refine mv_goto 197 dX2_goOn_138 (by decide) ?_
      exact mv_vret rfl dX2_goOn_197 ⟨rfl, h⟩
    · replace h := mv_ifF z8 h
      by_cases z10 : (M5.1 (b6 + 8) v2.toNatClampNeg) = 3
      · replace h := mv_ifT z10 h
        refine mv_lookup (off := 75) 108 dX2_goOn_33 (by decide) (mv_swn (mv_ne 2 (by decide) z8) (mv_swc (mv_eqv z10 (by decide)))) (by decide) ?_
        refine mv_aload_n 1 dX2_goOn_108 rfl ?_
        refine mv_aload_n 1 dX2_goOn_109 rfl ?_
        obtain ⟨b11, eb11, hb11, h⟩ := mv_getpE h
        refine mv_getP b11 fX2_65 (by decide) rfl rfl eb11 dX2_goOn_110 ?_
        refine mv_getR (b11 + 9) fX2_175 (mv_pN (t := 0) hb11 (by decide)) (by rcases hb11 with rfl | rfl <;> rfl) rfl (by rcases hb11 with rfl | rfl <;> rfl) dX2_goOn_113 ?_
        refine mv_iload_n 0 dX2_goOn_116 rfl ?_
        obtain ⟨hi12, h⟩ := mv_chkE h
        refine mv_ild (mv_pN (t := 9) hb11 (by decide)) (by rcases hb11 with rfl | rfl <;> rfl) (mv_inE hi12) dX2_goOn_117 ?_
        refine mv_cvV (As := [.int (M5.1 (b11 + 9) v2.toNatClampNeg)]) (st := []) okX2_leave lX2_178 (by decide) rfl rfl rfl (Nat.le_of_ble_eq_true rfl) rfl (Nat.le_of_ble_eq_true rfl) dX2_goOn_118 (by omega) rfl (zX2_leave (d := d - 1) (by omega) (M5.1 (b11 + 9) v2.toNatClampNeg) M5 (mv_bindE h)) (fun _ M13 h => ?_)
        refine mv_goto 197 dX2_goOn_121 (by decide) ?_
        exact mv_vret rfl dX2_goOn_197 ⟨rfl, h⟩
      · replace h := mv_ifF z10 h
        by_cases z14 : (M5.1 (b6 + 8) v2.toNatClampNeg) = 5
        · replace h := mv_ifT z14 h
          refine mv_lookup (off := 149) 182 dX2_goOn_33 (by decide) (mv_swn (mv_ne 2 (by decide) z8) (mv_swn (mv_ne 3 (by decide) z10) (mv_swc (mv_eqv z14 (by decide))))) (by decide) ?_
          refine mv_aload_n 1 dX2_goOn_182 rfl ?_
          refine mv_iload_n 0 dX2_goOn_183 rfl ?_
          refine mv_iload_n 2 dX2_goOn_184 rfl ?_
          refine mv_cvV (As := [.int v2, .int a0]) (st := []) okX2_goOnCall lX2_196 (by decide) rfl rfl rfl (Nat.le_of_ble_eq_true rfl) rfl (Nat.le_of_ble_eq_true rfl) dX2_goOn_185 (by omega) rfl (zX2_goOnCall (d := d - 1) (by omega) v2 a0 M5 (mv_bindE h)) (fun _ M15 h => ?_)
          refine mv_goto 197 dX2_goOn_188 (by decide) ?_
          exact mv_vret rfl dX2_goOn_197 ⟨rfl, h⟩
        · replace h := mv_ifF z14 h
          by_cases z16 : (M5.1 (b6 + 8) v2.toNatClampNeg) = 6
          · replace h := mv_ifT z16 h
            refine mv_lookup (off := 135) 168 dX2_goOn_33 (by decide) (mv_swn (mv_ne 2 (by decide) z8) (mv_swn (mv_ne 3 (by decide) z10) (mv_swn (mv_ne 5 (by decide) z14) (mv_swc (mv_eqv z16 (by decide)))))) (by decide) ?_
            refine mv_aload_n 1 dX2_goOn_168 rfl ?_
            refine mv_iload_n 0 dX2_goOn_169 rfl ?_
            refine mv_aload_n 1 dX2_goOn_170 rfl ?_
            refine mv_getR 52 fX2_50 (by decide) rfl rfl rfl dX2_goOn_171 ?_
            refine mv_iload_n 2 dX2_goOn_174 rfl ?_
            obtain ⟨hi17, h⟩ := mv_chkE h
            refine mv_ild (by decide) rfl (mv_inE hi17) dX2_goOn_175 ?_
            refine mv_cvV (As := [.int v2, .int (M5.1 52 a0.toNatClampNeg)]) (st := []) okX2_makePair lX2_193 (by decide) rfl rfl rfl (Nat.le_of_ble_eq_true rfl) rfl (Nat.le_of_ble_eq_true rfl) dX2_goOn_176 (by omega) rfl (zX2_makePair (d := d - 1) (by omega) v2 (M5.1 52 a0.toNatClampNeg) M5 (mv_bindE h)) (fun _ M18 h => ?_)
            refine mv_goto 197 dX2_goOn_179 (by decide) ?_
            exact mv_vret rfl dX2_goOn_197 ⟨rfl, h⟩
          · replace h := mv_ifF z16 h
            by_cases z19 : (M5.1 (b6 + 8) v2.toNatClampNeg) = 301
            · replace h := mv_ifT z19 h
              refine mv_lookup (off := 108) 141 dX2_goOn_33 (by decide) (mv_swn (mv_ne 2 (by decide) z8) (mv_swn (mv_ne 3 (by decide) z10) (mv_swn (mv_ne 5 (by decide) z14) (mv_swn (mv_ne 6 (by decide) z16) (mv_swc (mv_eqv z19 (by decide))))))) (by decide) ?_
              refine mv_aload_n 1 dX2_goOn_141 rfl ?_
              refine mv_iload_n 0 dX2_goOn_142 rfl ?_
              refine mv_iload_n 2 dX2_goOn_143 rfl ?_
              refine mv_cvV (As := [.int v2, .int a0]) (st := []) okX2_goOnIf lX2_184 (by decide) rfl rfl rfl (Nat.le_of_ble_eq_true rfl) rfl (Nat.le_of_ble_eq_true rfl) dX2_goOn_144 (by omega) rfl (zX2_goOnIf (d := d - 1) (by omega) v2 a0 M5 (mv_bindE h)) (fun _ M20 h => ?_)
              refine mv_goto 197 dX2_goOn_147 (by decide) ?_
              exact mv_vret rfl dX2_goOn_197 ⟨rfl, h⟩
            · replace h := mv_ifF z19 h
              by_cases z21 : (M5.1 (b6 + 8) v2.toNatClampNeg) = 304
              · replace h := mv_ifT z21 h
                refine mv_lookup (off := 117) 150 dX2_goOn_33 (by decide) (mv_swn (mv_ne 2 (by decide) z8) (mv_swn (mv_ne 3 (by decide) z10) (mv_swn (mv_ne 5 (by decide) z14) (mv_swn (mv_ne 6 (by decide) z16) (mv_swn (mv_ne 301 (by decide) z19) (mv_swc (mv_eqv z21 (by decide)))))))) (by decide) ?_
                refine mv_aload_n 1 dX2_goOn_150 rfl ?_
                refine mv_iload_n 0 dX2_goOn_151 rfl ?_
                refine mv_iload_n 2 dX2_goOn_152 rfl ?_
                refine mv_cvV (As := [.int v2, .int a0]) (st := []) okX2_goOnLet lX2_187 (by decide) rfl rfl rfl (Nat.le_of_ble_eq_true rfl) rfl (Nat.le_of_ble_eq_true rfl) dX2_goOn_153 (by omega) rfl (zX2_goOnLet (d := d - 1) (by omega) v2 a0 M5 (mv_bindE h)) (fun _ M22 h => ?_)
                refine mv_goto 197 dX2_goOn_156 (by decide) ?_
                exact mv_vret rfl dX2_goOn_197 ⟨rfl, h⟩
              · replace h := mv_ifF z21 h
                by_cases z23 : (M5.1 (b6 + 8) v2.toNatClampNeg) = 306
                · replace h := mv_ifT z23 h
                  refine mv_lookup (off := 126) 159 dX2_goOn_33 (by decide) (mv_swn (mv_ne 2 (by decide) z8) (mv_swn (mv_ne 3 (by decide) z10) (mv_swn (mv_ne 5 (by decide) z14) (mv_swn (mv_ne 6 (by decide) z16) (mv_swn (mv_ne 301 (by decide) z19) (mv_swn (mv_ne 304 (by decide) z21) (mv_swc (mv_eqv z23 (by decide))))))))) (by decide) ?_
                  refine mv_aload_n 1 dX2_goOn_159 rfl ?_
                  refine mv_iload_n 0 dX2_goOn_160 rfl ?_
                  refine mv_iload_n 2 dX2_goOn_161 rfl ?_
                  refine mv_cvV (As := [.int v2, .int a0]) (st := []) okX2_goOnCase lX2_190 (by decide) rfl rfl rfl (Nat.le_of_ble_eq_true rfl) rfl (Nat.le_of_ble_eq_true rfl) dX2_goOn_162 (by omega) rfl (zX2_goOnCase (d := d - 1) (by omega) v2 a0 M5 (mv_bindE h)) (fun _ M24 h => ?_)
                  refine mv_goto 197 dX2_goOn_165 (by decide) ?_
                  exact mv_vret rfl dX2_goOn_197 ⟨rfl, h⟩
                · replace h := mv_ifF z23 h
                  by_cases z25 : (M5.1 (b6 + 8) v2.toNatClampNeg) = 308
                  · replace h := mv_ifT z25 h
                    refine mv_lookup (off := 91) 124 dX2_goOn_33 (by decide) (mv_swn (mv_ne 2 (by decide) z8) (mv_swn (mv_ne 3 (by decide) z10) (mv_swn (mv_ne 5 (by decide) z14) (mv_swn (mv_ne 6 (by decide) z16) (mv_swn (mv_ne 301 (by decide) z19) (mv_swn (mv_ne 304 (by decide) z21) (mv_swn (mv_ne 306 (by decide) z23) (mv_swc (mv_eqv z25 (by decide)))))))))) (by decide) ?_
                    refine mv_aload_n 1 dX2_goOn_124 rfl ?_
                    refine mv_iconst 2 dX2_goOn_125 (by decide) ?_
                    refine mv_putI fX2_22 (by decide) rfl rfl dX2_goOn_126 (fun M26 eM26 => ?_)
                    replace h := mv_letE h M26 eM26
                    refine mv_goto 197 dX2_goOn_129 (by decide) ?_
                    exact mv_vret rfl dX2_goOn_197 ⟨rfl, h⟩
                  · replace h := mv_ifF z25 h
                    refine mv_lookup (off := 158) 191 dX2_goOn_33 (by decide) (mv_swn (mv_ne 2 (by decide) z8) (mv_swn (mv_ne 3 (by decide) z10) (mv_swn (mv_ne 5 (by decide) z14) (mv_swn (mv_ne 6 (by decide) z16) (mv_swn (mv_ne 301 (by decide) z19) (mv_swn (mv_ne 304 (by decide) z21) (mv_swn (mv_ne 306 (by decide) z23) (mv_swn (mv_ne 308 (by decide) z25) rfl)))))))) (by decide) ?_
                    refine mv_aload_n 1 dX2_goOn_191 rfl ?_
                    refine mv_iload_n 0 dX2_goOn_192 rfl ?_
                    refine mv_iload_n 2 dX2_goOn_193 rfl ?_
                    refine mv_cvV (As := [.int v2, .int a0]) (st := []) okX2_goOnSign lX2_199 (by decide) rfl rfl rfl (Nat.le_of_ble_eq_true rfl) rfl (Nat.le_of_ble_eq_true rfl) dX2_goOn_194 (by omega) rfl (zX2_goOnSign (d := d - 1) (by omega) v2 a0 M5 (mv_bindE h)) (fun _ M27 h => ?_)
                    exact mv_vret rfl dX2_goOn_197 ⟨rfl, h⟩
  · replace h := mv_ifT z h
    refine mv_aload_n 1 dX2_goOn_18 rfl ?_
    refine mv_iconst 2 dX2_goOn_19 (by decide) ?_
    refine mv_putI fX2_22 (by decide) rfl rfl dX2_goOn_20 (fun M28 eM28 => ?_)
    replace h := mv_letE h M28 eM28
    exact mv_vret rfl dX2_goOn_23 ⟨rfl, h⟩
theorem dX2_workOut_0 : decode cX2_workOut 0 = .ok (.aload_n 0, 1) := by decide +kernel
theorem dX2_workOut_1 : decode cX2_workOut 1 = .ok (.iload_n 1, 1) := by decide +kernel
theorem dX2_workOut_2 : decode cX2_workOut 2 = .ok (.iload_n 2, 1) := by decide +kernel
theorem dX2_workOut_3 : decode cX2_workOut 3 = .ok (.invokevirtual 157, 3) := by decide +kernel
theorem dX2_workOut_6 : decode cX2_workOut 6 = .ok (.iconst 0, 1) := by decide +kernel
theorem dX2_workOut_7 : decode cX2_workOut 7 = .ok (.istore_n 3, 1) := by decide +kernel
theorem dX2_workOut_8 : decode cX2_workOut 8 = .ok (.iload_n 3, 1) := by decide +kernel
theorem dX2_workOut_9 : decode cX2_workOut 9 = .ok (.ldc 160, 2) := by decide +kernel
theorem dX2_workOut_11 : decode cX2_workOut 11 = .ok (.if_icmp .ge 33, 3) := by decide +kernel
theorem dX2_workOut_14 : decode cX2_workOut 14 = .ok (.aload_n 0, 1) := by decide +kernel
theorem dX2_workOut_15 : decode cX2_workOut 15 = .ok (.getfield 34, 3) := by decide +kernel
theorem dX2_workOut_18 : decode cX2_workOut 18 = .ok (.ifCond .le 26, 3) := by decide +kernel
theorem dX2_workOut_21 : decode cX2_workOut 21 = .ok (.aload_n 0, 1) := by decide +kernel
theorem dX2_workOut_22 : decode cX2_workOut 22 = .ok (.getfield 22, 3) := by decide +kernel
theorem dX2_workOut_25 : decode cX2_workOut 25 = .ok (.ifCond .ne 19, 3) := by decide +kernel
theorem dX2_workOut_28 : decode cX2_workOut 28 = .ok (.aload_n 0, 1) := by decide +kernel
theorem dX2_workOut_29 : decode cX2_workOut 29 = .ok (.aload_n 0, 1) := by decide +kernel
theorem dX2_workOut_30 : decode cX2_workOut 30 = .ok (.getfield 34, 3) := by decide +kernel
theorem dX2_workOut_33 : decode cX2_workOut 33 = .ok (.iconst 1, 1) := by decide +kernel
theorem dX2_workOut_34 : decode cX2_workOut 34 = .ok (.isub, 1) := by decide +kernel
theorem dX2_workOut_35 : decode cX2_workOut 35 = .ok (.invokevirtual 161, 3) := by decide +kernel
theorem dX2_workOut_38 : decode cX2_workOut 38 = .ok (.iinc 3 1, 3) := by decide +kernel
theorem dX2_workOut_41 : decode cX2_workOut 41 = .ok (.goto (-33), 3) := by decide +kernel
theorem dX2_workOut_44 : decode cX2_workOut 44 = .ok (.return_, 1) := by decide +kernel
noncomputable def gX2_workOut_8 (x3 : Int32) (M : mv_M) : Option (((Int32) ⊕ Unit) × mv_M) :=
  if 1000000 ≤ x3 then
    some (.inr (()), M)
  else
    if (M.1 7 8) ≤ 0 then
      some (.inr (()), M)
    else
      if (M.1 7 2) = 0 then
        mv_bind (fX2_goOn ((M.1 7 8) - 1) M) fun _ M2 =>
        mv_let (x3 + 1) fun v3 =>
        some (.inl v3, M2)
      else
        some (.inr (()), M)
noncomputable def fX2_workOut_8 (x3 : Int32) (M : mv_M) : Option (Unit × mv_M) := mv_loop (fun (s : Int32) M => gX2_workOut_8 s M) x3 M
set_option maxRecDepth 100000 in
set_option maxHeartbeats 4000000 in
theorem zX2_workOut_8 {l : Launch} {d : Nat} {Q : Unit → mv_M → Prop} (hd : 5 ≤ d) (x3 : Int32) (M : mv_M) (h : mv_ok (fX2_workOut_8 x3 M) Q) : mv l mX2_workOut d 0 8 [(0, .ref 7), (3, .int x3)] [] M (mv_qV Q) := by
  unfold fX2_workOut_8 at h
  refine mv_loopE (A := (fun (s : Int32) M => mv l mX2_workOut d 0 8 [(0, .ref 7), (3, .int s)] [] M (mv_qV Q))) ?_ x3 M h
  · intro x3 M h
    try dsimp only at h
    show mv l mX2_workOut d 0 8 [(0, .ref 7), (3, .int x3)] [] M (mv_qV Q)
    unfold gX2_workOut_8 at h
    refine mv_iload_n 1 dX2_workOut_8 rfl ?_
    refine mv_ldc kX2_160 dX2_workOut_9 ?_
    refine mv_icmp_ge 44 dX2_workOut_11 (by decide) (fun z => ?_) (fun z => ?_)
    · replace h := mv_ifT z h
      exact mv_vret rfl dX2_workOut_44 ⟨rfl, h⟩
    · replace h := mv_ifF z h
      refine mv_aload_n 0 dX2_workOut_14 rfl ?_
      refine mv_getI fX2_34 (by decide) rfl rfl dX2_workOut_15 ?_
      refine mv_if_le 44 dX2_workOut_18 (by decide) (fun z => ?_) (fun z => ?_)
      · replace h := mv_ifT z h
        exact mv_vret rfl dX2_workOut_44 ⟨rfl, h⟩
      · replace h := mv_ifF z h
        refine mv_aload_n 0 dX2_workOut_21 rfl ?_
        refine mv_getI fX2_22 (by decide) rfl rfl dX2_workOut_22 ?_
        refine mv_if_ne 44 dX2_workOut_25 (by decide) (fun z => ?_) (fun z => ?_)
        · replace h := mv_ifF z h
          exact mv_vret rfl dX2_workOut_44 ⟨rfl, h⟩
        · replace h := mv_ifT z h
          refine mv_aload_n 0 dX2_workOut_28 rfl ?_
          refine mv_aload_n 0 dX2_workOut_29 rfl ?_
          refine mv_getI fX2_34 (by decide) rfl rfl dX2_workOut_30 ?_
          refine mv_iconst 1 dX2_workOut_33 (by decide) ?_
          refine mv_isub dX2_workOut_34 ?_
          refine mv_cvV (As := [.int ((M.1 7 8) - 1)]) (st := []) okX2_goOn lX2_161 (by decide) rfl rfl rfl (Nat.le_of_ble_eq_true rfl) rfl (Nat.le_of_ble_eq_true rfl) dX2_workOut_35 (by omega) rfl (zX2_goOn (d := d - 1) (by omega) ((M.1 7 8) - 1) M (mv_bindE h)) (fun _ M2 h => ?_)
          obtain ⟨v3, ev3⟩ : ∃ z : Int32, z = x3 + 1 := ⟨_, rfl⟩
          replace h := mv_letE h v3 ev3
          refine mv_iinc v3 1 [(3, .int v3), (0, .ref 7)] dX2_workOut_38 rfl (by rw [ev3]; rfl) (by decide) rfl ?_
          refine mv_goto 8 dX2_workOut_41 (by decide) ?_
          refine mv_sub [1, 0] rfl ?_
          exact h
noncomputable def fX2_workOut (a0 : Int32) (a1 : Int32) (M : mv_M) : Option (Unit × mv_M) :=
  mv_bind (fX2_enter a0 a1 M) fun _ M1 =>
  fX2_workOut_8 0 M1
set_option maxRecDepth 100000 in
set_option maxHeartbeats 4000000 in
theorem zX2_workOut {l : Launch} {d : Nat} {Q : Unit → mv_M → Prop} (hd : 5 ≤ d) (a0 : Int32) (a1 : Int32) (M : mv_M) (h : mv_ok (fX2_workOut a0 a1 M) Q) : mv l mX2_workOut d 0 0 (lv_args 0 [.ref 7, .int a0, .int a1]) [] M (mv_qV Q) := by
  unfold fX2_workOut at h
  show mv l mX2_workOut d 0 0 [(0, .ref 7), (1, .int a0), (2, .int a1)] [] M (mv_qV Q)
  refine mv_aload_n 0 dX2_workOut_0 rfl ?_
  refine mv_iload_n 1 dX2_workOut_1 rfl ?_
  refine mv_iload_n 2 dX2_workOut_2 rfl ?_
  refine mv_cvV (As := [.int a0, .int a1]) (st := []) okX2_enter lX2_157 (by decide) rfl rfl rfl (Nat.le_of_ble_eq_true rfl) rfl (Nat.le_of_ble_eq_true rfl) dX2_workOut_3 (by omega) rfl (zX2_enter (d := d - 1) (by omega) a0 a1 M (mv_bindE h)) (fun _ M1 h => ?_)
  refine mv_iconst 0 dX2_workOut_6 (by decide) ?_
  refine mv_istore_n [(3, .int 0), (0, .ref 7), (1, .int a0), (2, .int a1)] dX2_workOut_7 (by decide) rfl ?_
  refine mv_sub [1, 0] rfl ?_
  exact zX2_workOut_8 hd 0 M1 h
theorem dX2_needParts_0 : decode cX2_needParts 0 = .ok (.iload_n 2, 1) := by decide +kernel
theorem dX2_needParts_1 : decode cX2_needParts 1 = .ok (.ifCond .le 65, 3) := by decide +kernel
theorem dX2_needParts_4 : decode cX2_needParts 4 = .ok (.aload_n 0, 1) := by decide +kernel
theorem dX2_needParts_5 : decode cX2_needParts 5 = .ok (.getfield 22, 3) := by decide +kernel
theorem dX2_needParts_8 : decode cX2_needParts 8 = .ok (.ifCond .ne 58, 3) := by decide +kernel
theorem dX2_needParts_11 : decode cX2_needParts 11 = .ok (.aload_n 0, 1) := by decide +kernel
theorem dX2_needParts_12 : decode cX2_needParts 12 = .ok (.getfield 12, 3) := by decide +kernel
theorem dX2_needParts_15 : decode cX2_needParts 15 = .ok (.iload_n 1, 1) := by decide +kernel
theorem dX2_needParts_16 : decode cX2_needParts 16 = .ok (.invokevirtual 102, 3) := by decide +kernel
theorem dX2_needParts_19 : decode cX2_needParts 19 = .ok (.ifCond .eq 47, 3) := by decide +kernel
theorem dX2_needParts_22 : decode cX2_needParts 22 = .ok (.aload_n 0, 1) := by decide +kernel
theorem dX2_needParts_23 : decode cX2_needParts 23 = .ok (.aload_n 0, 1) := by decide +kernel
theorem dX2_needParts_24 : decode cX2_needParts 24 = .ok (.getfield 12, 3) := by decide +kernel
theorem dX2_needParts_27 : decode cX2_needParts 27 = .ok (.getfield 131, 3) := by decide +kernel
theorem dX2_needParts_30 : decode cX2_needParts 30 = .ok (.iload_n 1, 1) := by decide +kernel
theorem dX2_needParts_31 : decode cX2_needParts 31 = .ok (.iaload, 1) := by decide +kernel
theorem dX2_needParts_32 : decode cX2_needParts 32 = .ok (.iload_n 2, 1) := by decide +kernel
theorem dX2_needParts_33 : decode cX2_needParts 33 = .ok (.invokestatic 123, 3) := by decide +kernel
theorem dX2_needParts_36 : decode cX2_needParts 36 = .ok (.iload_n 2, 1) := by decide +kernel
theorem dX2_needParts_37 : decode cX2_needParts 37 = .ok (.iload_n 3, 1) := by decide +kernel
theorem dX2_needParts_38 : decode cX2_needParts 38 = .ok (.invokestatic 137, 3) := by decide +kernel
theorem dX2_needParts_41 : decode cX2_needParts 41 = .ok (.invokevirtual 140, 3) := by decide +kernel
theorem dX2_needParts_44 : decode cX2_needParts 44 = .ok (.aload_n 0, 1) := by decide +kernel
theorem dX2_needParts_45 : decode cX2_needParts 45 = .ok (.aload_n 0, 1) := by decide +kernel
theorem dX2_needParts_46 : decode cX2_needParts 46 = .ok (.getfield 12, 3) := by decide +kernel
theorem dX2_needParts_49 : decode cX2_needParts 49 = .ok (.getfield 134, 3) := by decide +kernel
theorem dX2_needParts_52 : decode cX2_needParts 52 = .ok (.iload_n 1, 1) := by decide +kernel
theorem dX2_needParts_53 : decode cX2_needParts 53 = .ok (.iaload, 1) := by decide +kernel
theorem dX2_needParts_54 : decode cX2_needParts 54 = .ok (.iload_n 2, 1) := by decide +kernel
theorem dX2_needParts_55 : decode cX2_needParts 55 = .ok (.invokestatic 128, 3) := by decide +kernel
theorem dX2_needParts_58 : decode cX2_needParts 58 = .ok (.iload_n 2, 1) := by decide +kernel
theorem dX2_needParts_59 : decode cX2_needParts 59 = .ok (.iload_n 3, 1) := by decide +kernel
theorem dX2_needParts_60 : decode cX2_needParts 60 = .ok (.invokestatic 143, 3) := by decide +kernel
theorem dX2_needParts_63 : decode cX2_needParts 63 = .ok (.invokevirtual 140, 3) := by decide +kernel
theorem dX2_needParts_66 : decode cX2_needParts 66 = .ok (.return_, 1) := by decide +kernel
noncomputable def fX2_needParts (r_X2_needPart : Int32 → Int32 → Int32 → mv_M → Option (Unit × mv_M)) (a0 : Int32) (a1 : Int32) (a2 : Int32) (M : mv_M) : Option (Unit × mv_M) :=
  if a1 ≤ 0 then
    some ((), M)
  else
    if (M.1 7 2) = 0 then
      mv_bind (fX7_has a0 M) fun r1 M2 =>
      if r1 = 0 then
        some ((), M2)
      else
        mv_chk (mv_inb a0 1540) <|
        mv_bind (fX6_firstOf a1 M2) fun r4 M5 =>
        mv_bind (fX6_askedOfFirst a1 a2 M5) fun r6 M7 =>
        mv_bind (r_X2_needPart (M2.1 60 a0.toNatClampNeg) r4 r6 M7) fun _ M8 =>
        mv_chk (mv_inb a0 1540) <|
        mv_bind (fX6_secondOf a1 M8) fun r10 M11 =>
        mv_bind (fX6_askedOfSecond a1 a2 M11) fun r12 M13 =>
        mv_bind (r_X2_needPart (M8.1 61 a0.toNatClampNeg) r10 r12 M13) fun _ M14 =>
        some ((), M14)
    else
      some ((), M)
set_option maxRecDepth 100000 in
set_option maxHeartbeats 4000000 in
theorem zX2_needParts {l : Launch} {d : Nat} {Q : Unit → mv_M → Prop} {r_X2_needPart : Int32 → Int32 → Int32 → mv_M → Option (Unit × mv_M)} (hd : 2 ≤ d) (hr_X2_needPart : ∀ (a0 : Int32) (a1 : Int32) (a2 : Int32) (M : mv_M) (Q : Unit → mv_M → Prop), mv_ok (r_X2_needPart a0 a1 a2 M) Q → mv l mX2_needPart (d - 1) 0 0 (lv_args 0 [.ref 7, .int a0, .int a1, .int a2]) [] M (mv_qV Q)) (a0 : Int32) (a1 : Int32) (a2 : Int32) (M : mv_M) (h : mv_ok (fX2_needParts r_X2_needPart a0 a1 a2 M) Q) : mv l mX2_needParts d 0 0 (lv_args 0 [.ref 7, .int a0, .int a1, .int a2]) [] M (mv_qV Q) := by
  unfold fX2_needParts at h
  show mv l mX2_needParts d 0 0 [(0, .ref 7), (1, .int a0), (2, .int a1), (3, .int a2)] [] M (mv_qV Q)
  refine mv_iload_n 2 dX2_needParts_0 rfl ?_
  refine mv_if_le 66 dX2_needParts_1 (by decide) (fun z => ?_) (fun z => ?_)
  · replace h := mv_ifT z h
    exact mv_vret rfl dX2_needParts_66 ⟨rfl, h⟩
  · replace h := mv_ifF z h
    refine mv_aload_n 0 dX2_needParts_4 rfl ?_
    refine mv_getI fX2_22 (by decide) rfl rfl dX2_needParts_5 ?_
    refine mv_if_ne 66 dX2_needParts_8 (by decide) (fun z => ?_) (fun z => ?_)
    · replace h := mv_ifF z h
      exact mv_vret rfl dX2_needParts_66 ⟨rfl, h⟩
    · replace h := mv_ifT z h
      refine mv_aload_n 0 dX2_needParts_11 rfl ?_
      refine mv_getR 8 fX2_12 (by decide) rfl rfl rfl dX2_needParts_12 ?_
      refine mv_iload_n 1 dX2_needParts_15 rfl ?_
      refine mv_cvI (As := [.int a0]) (st := []) okX7_has lX2_102 (by decide) rfl rfl rfl (Nat.le_of_ble_eq_true rfl) rfl (Nat.le_of_ble_eq_true rfl) dX2_needParts_16 (by omega) rfl (zX7_has (d := d - 1) (by omega) a0 M (mv_bindE h)) (fun r1 M2 h => ?_)
      refine mv_if_eq 66 dX2_needParts_19 (by decide) (fun z => ?_) (fun z => ?_)
      · replace h := mv_ifT z h
        exact mv_vret rfl dX2_needParts_66 ⟨rfl, h⟩
      · replace h := mv_ifF z h
        refine mv_aload_n 0 dX2_needParts_22 rfl ?_
        refine mv_aload_n 0 dX2_needParts_23 rfl ?_
        refine mv_getR 8 fX2_12 (by decide) rfl rfl rfl dX2_needParts_24 ?_
        refine mv_getR 60 fX2_131 (by decide) rfl rfl rfl dX2_needParts_27 ?_
        refine mv_iload_n 1 dX2_needParts_30 rfl ?_
        obtain ⟨hi3, h⟩ := mv_chkE h
        refine mv_ild (by decide) rfl (mv_inE hi3) dX2_needParts_31 ?_
        refine mv_iload_n 2 dX2_needParts_32 rfl ?_
        refine mv_csI (As := [.int a1]) (st := [.int (M2.1 60 a0.toNatClampNeg), .ref 7]) okX6_firstOf lX2_123 rfl (Nat.le_of_ble_eq_true rfl) rfl (Nat.le_of_ble_eq_true rfl) dX2_needParts_33 (by omega) rfl (zX6_firstOf (d := d - 1) (by omega) a1 M2 (mv_bindE h)) (fun r4 M5 h => ?_)
        refine mv_iload_n 2 dX2_needParts_36 rfl ?_
        refine mv_iload_n 3 dX2_needParts_37 rfl ?_
        refine mv_csI (As := [.int a1, .int a2]) (st := [.int r4, .int (M2.1 60 a0.toNatClampNeg), .ref 7]) okX6_askedOfFirst lX2_137 rfl (Nat.le_of_ble_eq_true rfl) rfl (Nat.le_of_ble_eq_true rfl) dX2_needParts_38 (by omega) rfl (zX6_askedOfFirst (d := d - 1) (by omega) a1 a2 M5 (mv_bindE h)) (fun r6 M7 h => ?_)
        refine mv_cvV (As := [.int (M2.1 60 a0.toNatClampNeg), .int r4, .int r6]) (st := []) okX2_needPart lX2_140 (by decide) rfl rfl rfl (Nat.le_of_ble_eq_true rfl) rfl (Nat.le_of_ble_eq_true rfl) dX2_needParts_41 (by omega) rfl (hr_X2_needPart (M2.1 60 a0.toNatClampNeg) r4 r6 M7 _ (mv_bindE h)) (fun _ M8 h => ?_)
        refine mv_aload_n 0 dX2_needParts_44 rfl ?_
        refine mv_aload_n 0 dX2_needParts_45 rfl ?_
        refine mv_getR 8 fX2_12 (by decide) rfl rfl rfl dX2_needParts_46 ?_
        refine mv_getR 61 fX2_134 (by decide) rfl rfl rfl dX2_needParts_49 ?_
        refine mv_iload_n 1 dX2_needParts_52 rfl ?_
        obtain ⟨hi9, h⟩ := mv_chkE h
        refine mv_ild (by decide) rfl (mv_inE hi9) dX2_needParts_53 ?_
        refine mv_iload_n 2 dX2_needParts_54 rfl ?_
        refine mv_csI (As := [.int a1]) (st := [.int (M8.1 61 a0.toNatClampNeg), .ref 7]) okX6_secondOf lX2_128 rfl (Nat.le_of_ble_eq_true rfl) rfl (Nat.le_of_ble_eq_true rfl) dX2_needParts_55 (by omega) rfl (zX6_secondOf (d := d - 1) (by omega) a1 M8 (mv_bindE h)) (fun r10 M11 h => ?_)
        refine mv_iload_n 2 dX2_needParts_58 rfl ?_
        refine mv_iload_n 3 dX2_needParts_59 rfl ?_
        refine mv_csI (As := [.int a1, .int a2]) (st := [.int r10, .int (M8.1 61 a0.toNatClampNeg), .ref 7]) okX6_askedOfSecond lX2_143 rfl (Nat.le_of_ble_eq_true rfl) rfl (Nat.le_of_ble_eq_true rfl) dX2_needParts_60 (by omega) rfl (zX6_askedOfSecond (d := d - 1) (by omega) a1 a2 M11 (mv_bindE h)) (fun r12 M13 h => ?_)
        refine mv_cvV (As := [.int (M8.1 61 a0.toNatClampNeg), .int r10, .int r12]) (st := []) okX2_needPart lX2_140 (by decide) rfl rfl rfl (Nat.le_of_ble_eq_true rfl) rfl (Nat.le_of_ble_eq_true rfl) dX2_needParts_63 (by omega) rfl (hr_X2_needPart (M8.1 61 a0.toNatClampNeg) r10 r12 M13 _ (mv_bindE h)) (fun _ M14 h => ?_)
        exact mv_vret rfl dX2_needParts_66 ⟨rfl, h⟩
theorem dX2_needPart_0 : decode cX2_needPart 0 = .ok (.iload_n 3, 1) := by decide +kernel
theorem dX2_needPart_1 : decode cX2_needPart 1 = .ok (.ifCond .eq 10, 3) := by decide +kernel
theorem dX2_needPart_4 : decode cX2_needPart 4 = .ok (.aload_n 0, 1) := by decide +kernel
theorem dX2_needPart_5 : decode cX2_needPart 5 = .ok (.getfield 22, 3) := by decide +kernel
theorem dX2_needPart_8 : decode cX2_needPart 8 = .ok (.ifCond .eq 4, 3) := by decide +kernel
theorem dX2_needPart_11 : decode cX2_needPart 11 = .ok (.return_, 1) := by decide +kernel
theorem dX2_needPart_12 : decode cX2_needPart 12 = .ok (.aload_n 0, 1) := by decide +kernel
theorem dX2_needPart_13 : decode cX2_needPart 13 = .ok (.iload_n 1, 1) := by decide +kernel
theorem dX2_needPart_14 : decode cX2_needPart 14 = .ok (.invokevirtual 146, 3) := by decide +kernel
theorem dX2_needPart_17 : decode cX2_needPart 17 = .ok (.ifCond .eq 30, 3) := by decide +kernel
theorem dX2_needPart_20 : decode cX2_needPart 20 = .ok (.aload_n 0, 1) := by decide +kernel
theorem dX2_needPart_21 : decode cX2_needPart 21 = .ok (.aload_n 0, 1) := by decide +kernel
theorem dX2_needPart_22 : decode cX2_needPart 22 = .ok (.getfield 12, 3) := by decide +kernel
theorem dX2_needPart_25 : decode cX2_needPart 25 = .ok (.getfield 149, 3) := by decide +kernel
theorem dX2_needPart_28 : decode cX2_needPart 28 = .ok (.iload_n 1, 1) := by decide +kernel
theorem dX2_needPart_29 : decode cX2_needPart 29 = .ok (.iaload, 1) := by decide +kernel
theorem dX2_needPart_30 : decode cX2_needPart 30 = .ok (.aload_n 0, 1) := by decide +kernel
theorem dX2_needPart_31 : decode cX2_needPart 31 = .ok (.getfield 12, 3) := by decide +kernel
theorem dX2_needPart_34 : decode cX2_needPart 34 = .ok (.getfield 152, 3) := by decide +kernel
theorem dX2_needPart_37 : decode cX2_needPart 37 = .ok (.iload_n 1, 1) := by decide +kernel
theorem dX2_needPart_38 : decode cX2_needPart 38 = .ok (.iaload, 1) := by decide +kernel
theorem dX2_needPart_39 : decode cX2_needPart 39 = .ok (.invokevirtual 88, 3) := by decide +kernel
theorem dX2_needPart_42 : decode cX2_needPart 42 = .ok (.aload_n 0, 1) := by decide +kernel
theorem dX2_needPart_43 : decode cX2_needPart 43 = .ok (.iload_n 1, 1) := by decide +kernel
theorem dX2_needPart_44 : decode cX2_needPart 44 = .ok (.invokevirtual 153, 3) := by decide +kernel
theorem dX2_needPart_47 : decode cX2_needPart 47 = .ok (.aload_n 0, 1) := by decide +kernel
theorem dX2_needPart_48 : decode cX2_needPart 48 = .ok (.aload_n 0, 1) := by decide +kernel
theorem dX2_needPart_49 : decode cX2_needPart 49 = .ok (.getfield 37, 3) := by decide +kernel
theorem dX2_needPart_52 : decode cX2_needPart 52 = .ok (.iload_n 2, 1) := by decide +kernel
theorem dX2_needPart_53 : decode cX2_needPart 53 = .ok (.iload_n 3, 1) := by decide +kernel
theorem dX2_needPart_54 : decode cX2_needPart 54 = .ok (.invokevirtual 95, 3) := by decide +kernel
theorem dX2_needPart_57 : decode cX2_needPart 57 = .ok (.return_, 1) := by decide +kernel
noncomputable def fX2_needPart_47 (r_X2_needParts : Int32 → Int32 → Int32 → mv_M → Option (Unit × mv_M)) (x2 : Int32) (x3 : Int32) (M : mv_M) : Option (Unit × mv_M) :=
  mv_bind (r_X2_needParts (M.1 7 9) x2 x3 M) fun _ M7 =>
  some ((), M7)
set_option maxRecDepth 100000 in
set_option maxHeartbeats 4000000 in
theorem zX2_needPart_47 {l : Launch} {d : Nat} {Q : Unit → mv_M → Prop} {r_X2_needParts : Int32 → Int32 → Int32 → mv_M → Option (Unit × mv_M)} (hd : 6 ≤ d) (hr_X2_needParts : ∀ (a0 : Int32) (a1 : Int32) (a2 : Int32) (M : mv_M) (Q : Unit → mv_M → Prop), mv_ok (r_X2_needParts a0 a1 a2 M) Q → mv l mX2_needParts (d - 1) 0 0 (lv_args 0 [.ref 7, .int a0, .int a1, .int a2]) [] M (mv_qV Q)) (x2 : Int32) (x3 : Int32) (M : mv_M) (h : mv_ok (fX2_needPart_47 r_X2_needParts x2 x3 M) Q) : mv l mX2_needPart d 0 47 [(0, .ref 7), (2, .int x2), (3, .int x3)] [] M (mv_qV Q) := by
  unfold fX2_needPart_47 at h
  refine mv_aload_n 0 dX2_needPart_47 rfl ?_
  refine mv_aload_n 0 dX2_needPart_48 rfl ?_
  refine mv_getI fX2_37 (by decide) rfl rfl dX2_needPart_49 ?_
  refine mv_iload_n 1 dX2_needPart_52 rfl ?_
  refine mv_iload_n 2 dX2_needPart_53 rfl ?_
  refine mv_cvV (As := [.int (M.1 7 9), .int x2, .int x3]) (st := []) okX2_needParts lX2_95 (by decide) rfl rfl rfl (Nat.le_of_ble_eq_true rfl) rfl (Nat.le_of_ble_eq_true rfl) dX2_needPart_54 (by omega) rfl (hr_X2_needParts (M.1 7 9) x2 x3 M _ (mv_bindE h)) (fun _ M7 h => ?_)
  exact mv_vret rfl dX2_needPart_57 ⟨rfl, h⟩
noncomputable def fX2_needPart (r_X2_needParts : Int32 → Int32 → Int32 → mv_M → Option (Unit × mv_M)) (a0 : Int32) (a1 : Int32) (a2 : Int32) (M : mv_M) : Option (Unit × mv_M) :=
  if a2 = 0 then
    some ((), M)
  else
    if (M.1 7 2) = 0 then
      mv_bind (fX2_isToBeWorked a0 M) fun r1 M2 =>
      if r1 = 0 then
        fX2_needPart_47 r_X2_needParts a1 a2 M2
      else
        mv_chk (mv_inb a0 1500) <|
        mv_chk (mv_inb a0 1500) <|
        mv_bind (fX2_workOut (M2.1 55 a0.toNatClampNeg) (M2.1 56 a0.toNatClampNeg) M2) fun _ M5 =>
        mv_bind (fX2_settle a0 M5) fun _ M6 =>
        fX2_needPart_47 r_X2_needParts a1 a2 M6
    else
      some ((), M)
set_option maxRecDepth 100000 in
set_option maxHeartbeats 4000000 in
theorem zX2_needPart {l : Launch} {d : Nat} {Q : Unit → mv_M → Prop} {r_X2_needParts : Int32 → Int32 → Int32 → mv_M → Option (Unit × mv_M)} (hd : 6 ≤ d) (hr_X2_needParts : ∀ (a0 : Int32) (a1 : Int32) (a2 : Int32) (M : mv_M) (Q : Unit → mv_M → Prop), mv_ok (r_X2_needParts a0 a1 a2 M) Q → mv l mX2_needParts (d - 1) 0 0 (lv_args 0 [.ref 7, .int a0, .int a1, .int a2]) [] M (mv_qV Q)) (a0 : Int32) (a1 : Int32) (a2 : Int32) (M : mv_M) (h : mv_ok (fX2_needPart r_X2_needParts a0 a1 a2 M) Q) : mv l mX2_needPart d 0 0 (lv_args 0 [.ref 7, .int a0, .int a1, .int a2]) [] M (mv_qV Q) := by
  unfold fX2_needPart at h
  show mv l mX2_needPart d 0 0 [(0, .ref 7), (1, .int a0), (2, .int a1), (3, .int a2)] [] M (mv_qV Q)
  refine mv_iload_n 3 dX2_needPart_0 rfl ?_
  refine mv_if_eq 11 dX2_needPart_1 (by decide) (fun z => ?_) (fun z => ?_)
  · replace h := mv_ifT z h
    exact mv_vret rfl dX2_needPart_11 ⟨rfl, h⟩
  · replace h := mv_ifF z h
    refine mv_aload_n 0 dX2_needPart_4 rfl ?_
    refine mv_getI fX2_22 (by decide) rfl rfl dX2_needPart_5 ?_
    refine mv_if_eq 12 dX2_needPart_8 (by decide) (fun z => ?_) (fun z => ?_)
    · replace h := mv_ifT z h
      refine mv_aload_n 0 dX2_needPart_12 rfl ?_
      refine mv_iload_n 1 dX2_needPart_13 rfl ?_
      refine mv_cvI (As := [.int a0]) (st := []) okX2_isToBeWorked lX2_146 (by decide) rfl rfl rfl (Nat.le_of_ble_eq_true rfl) rfl (Nat.le_of_ble_eq_true rfl) dX2_needPart_14 (by omega) rfl (zX2_isToBeWorked (d := d - 1) (by omega) a0 M (mv_bindE h)) (fun r1 M2 h => ?_)
      refine mv_if_eq 47 dX2_needPart_17 (by decide) (fun z => ?_) (fun z => ?_)
      · replace h := mv_ifT z h
        refine mv_sub [0, 2, 3] rfl ?_
        exact zX2_needPart_47 hd hr_X2_needParts a1 a2 M2 h
      · replace h := mv_ifF z h
        refine mv_aload_n 0 dX2_needPart_20 rfl ?_
        refine mv_aload_n 0 dX2_needPart_21 rfl ?_
        refine mv_getR 8 fX2_12 (by decide) rfl rfl rfl dX2_needPart_22 ?_
        refine mv_getR 55 fX2_149 (by decide) rfl rfl rfl dX2_needPart_25 ?_
        refine mv_iload_n 1 dX2_needPart_28 rfl ?_
        obtain ⟨hi3, h⟩ := mv_chkE h
        refine mv_ild (by decide) rfl (mv_inE hi3) dX2_needPart_29 ?_
        refine mv_aload_n 0 dX2_needPart_30 rfl ?_
        refine mv_getR 8 fX2_12 (by decide) rfl rfl rfl dX2_needPart_31 ?_
        refine mv_getR 56 fX2_152 (by decide) rfl rfl rfl dX2_needPart_34 ?_
        refine mv_iload_n 1 dX2_needPart_37 rfl ?_
        obtain ⟨hi4, h⟩ := mv_chkE h
        refine mv_ild (by decide) rfl (mv_inE hi4) dX2_needPart_38 ?_
        refine mv_cvV (As := [.int (M2.1 55 a0.toNatClampNeg), .int (M2.1 56 a0.toNatClampNeg)]) (st := []) okX2_workOut lX2_88 (by decide) rfl rfl rfl (Nat.le_of_ble_eq_true rfl) rfl (Nat.le_of_ble_eq_true rfl) dX2_needPart_39 (by omega) rfl (zX2_workOut (d := d - 1) (by omega) (M2.1 55 a0.toNatClampNeg) (M2.1 56 a0.toNatClampNeg) M2 (mv_bindE h)) (fun _ M5 h => ?_)
        refine mv_aload_n 0 dX2_needPart_42 rfl ?_
        refine mv_iload_n 1 dX2_needPart_43 rfl ?_
        refine mv_cvV (As := [.int a0]) (st := []) okX2_settle lX2_153 (by decide) rfl rfl rfl (Nat.le_of_ble_eq_true rfl) rfl (Nat.le_of_ble_eq_true rfl) dX2_needPart_44 (by omega) rfl (zX2_settle (d := d - 1) (by omega) a0 M5 (mv_bindE h)) (fun _ M6 h => ?_)
        refine mv_sub [0, 2, 3] rfl ?_
        exact zX2_needPart_47 hd hr_X2_needParts a1 a2 M6 h
    · replace h := mv_ifF z h
      exact mv_vret rfl dX2_needPart_11 ⟨rfl, h⟩
noncomputable def RX2_needParts : Nat → Nat → Int32 → Int32 → Int32 → mv_M → Option (Unit × mv_M)
  | 0, _, _, _, _, _ => none
  | n + 1, s, a0, a1, a2, M =>
    if s = 0 then fX2_needParts (fun a0 a1 a2 M => RX2_needParts n 1 a0 a1 a2 M) a0 a1 a2 M else
    fX2_needPart (fun a0 a1 a2 M => RX2_needParts n 0 a0 a1 a2 M) a0 a1 a2 M
set_option maxRecDepth 100000 in
theorem zRX2_needParts {l : Launch} : ∀ (n d : Nat), n + 7 ≤ d → (∀ (a0 : Int32) (a1 : Int32) (a2 : Int32) (M : mv_M) (Q : Unit → mv_M → Prop), mv_ok (RX2_needParts n 0 a0 a1 a2 M) Q → mv l mX2_needParts d 0 0 (lv_args 0 [.ref 7, .int a0, .int a1, .int a2]) [] M (mv_qV Q)) ∧ (∀ (a0 : Int32) (a1 : Int32) (a2 : Int32) (M : mv_M) (Q : Unit → mv_M → Prop), mv_ok (RX2_needParts n 1 a0 a1 a2 M) Q → mv l mX2_needPart d 0 0 (lv_args 0 [.ref 7, .int a0, .int a1, .int a2]) [] M (mv_qV Q)) := by
  intro n
  induction n with
  | zero =>
    intro d hd
    exact ⟨(fun _ _ _ _ _ h => by rw [RX2_needParts] at h; exact False.elim h), (fun _ _ _ _ _ h => by rw [RX2_needParts] at h; exact False.elim h)⟩
  | succ n ih =>
    intro d hd
    have hi := ih (d - 1) (by omega)
    refine ⟨?_, ?_⟩
    · intro a0 a1 a2 M Q h
      rw [RX2_needParts] at h
      replace h := mv_ifT rfl h
      exact zX2_needParts (by omega) hi.2 a0 a1 a2 M h
    · intro a0 a1 a2 M Q h
      rw [RX2_needParts] at h
      replace h := mv_ifF (by decide) h
      exact zX2_needPart (by omega) hi.1 a0 a1 a2 M h

noncomputable def tX2_needParts (a0 : Int32) (a1 : Int32) (a2 : Int32) (M : mv_M) : Option (Unit × mv_M) := RX2_needParts 12 0 a0 a1 a2 M
theorem ztX2_needParts {l : Launch} {d : Nat} {Q : Unit → mv_M → Prop} (hd : 19 ≤ d) (a0 : Int32) (a1 : Int32) (a2 : Int32) (M : mv_M) (h : mv_ok (tX2_needParts a0 a1 a2 M) Q) : mv l mX2_needParts d 0 0 (lv_args 0 [.ref 7, .int a0, .int a1, .int a2]) [] M (mv_qV Q) := (zRX2_needParts 12 d hd).1 a0 a1 a2 M Q h
noncomputable def tX2_needPart (a0 : Int32) (a1 : Int32) (a2 : Int32) (M : mv_M) : Option (Unit × mv_M) := RX2_needParts 12 1 a0 a1 a2 M
theorem ztX2_needPart {l : Launch} {d : Nat} {Q : Unit → mv_M → Prop} (hd : 19 ≤ d) (a0 : Int32) (a1 : Int32) (a2 : Int32) (M : mv_M) (h : mv_ok (tX2_needPart a0 a1 a2 M) Q) : mv l mX2_needPart d 0 0 (lv_args 0 [.ref 7, .int a0, .int a1, .int a2]) [] M (mv_qV Q) := (zRX2_needParts 12 d hd).2 a0 a1 a2 M Q h
theorem dX2_perform_0 : decode cX2_perform 0 = .ok (.aload_n 0, 1) := by decide +kernel
theorem dX2_perform_1 : decode cX2_perform 1 = .ok (.aload_n 0, 1) := by decide +kernel
theorem dX2_perform_2 : decode cX2_perform 2 = .ok (.getfield 65, 3) := by decide +kernel
theorem dX2_perform_5 : decode cX2_perform 5 = .ok (.getfield 85, 3) := by decide +kernel
theorem dX2_perform_8 : decode cX2_perform 8 = .ok (.aload_n 0, 1) := by decide +kernel
theorem dX2_perform_9 : decode cX2_perform 9 = .ok (.getfield 18, 3) := by decide +kernel
theorem dX2_perform_12 : decode cX2_perform 12 = .ok (.iaload, 1) := by decide +kernel
theorem dX2_perform_13 : decode cX2_perform 13 = .ok (.iconst 0, 1) := by decide +kernel
theorem dX2_perform_14 : decode cX2_perform 14 = .ok (.invokevirtual 88, 3) := by decide +kernel
theorem dX2_perform_17 : decode cX2_perform 17 = .ok (.aload_n 0, 1) := by decide +kernel
theorem dX2_perform_18 : decode cX2_perform 18 = .ok (.aload_n 0, 1) := by decide +kernel
theorem dX2_perform_19 : decode cX2_perform 19 = .ok (.getfield 37, 3) := by decide +kernel
theorem dX2_perform_22 : decode cX2_perform 22 = .ok (.putfield 40, 3) := by decide +kernel
theorem dX2_perform_25 : decode cX2_perform 25 = .ok (.aload_n 0, 1) := by decide +kernel
theorem dX2_perform_26 : decode cX2_perform 26 = .ok (.aload_n 0, 1) := by decide +kernel
theorem dX2_perform_27 : decode cX2_perform 27 = .ok (.getfield 40, 3) := by decide +kernel
theorem dX2_perform_30 : decode cX2_perform 30 = .ok (.aload_n 0, 1) := by decide +kernel
theorem dX2_perform_31 : decode cX2_perform 31 = .ok (.getfield 65, 3) := by decide +kernel
theorem dX2_perform_34 : decode cX2_perform 34 = .ok (.getfield 92, 3) := by decide +kernel
theorem dX2_perform_37 : decode cX2_perform 37 = .ok (.aload_n 0, 1) := by decide +kernel
theorem dX2_perform_38 : decode cX2_perform 38 = .ok (.getfield 18, 3) := by decide +kernel
theorem dX2_perform_41 : decode cX2_perform 41 = .ok (.iaload, 1) := by decide +kernel
theorem dX2_perform_42 : decode cX2_perform 42 = .ok (.iload_n 1, 1) := by decide +kernel
theorem dX2_perform_43 : decode cX2_perform 43 = .ok (.invokevirtual 95, 3) := by decide +kernel
theorem dX2_perform_46 : decode cX2_perform 46 = .ok (.aload_n 0, 1) := by decide +kernel
theorem dX2_perform_47 : decode cX2_perform 47 = .ok (.getfield 22, 3) := by decide +kernel
theorem dX2_perform_50 : decode cX2_perform 50 = .ok (.ifCond .ne 8, 3) := by decide +kernel
theorem dX2_perform_53 : decode cX2_perform 53 = .ok (.aload_n 0, 1) := by decide +kernel
theorem dX2_perform_54 : decode cX2_perform 54 = .ok (.iconst 1, 1) := by decide +kernel
theorem dX2_perform_55 : decode cX2_perform 55 = .ok (.putfield 22, 3) := by decide +kernel
theorem dX2_perform_58 : decode cX2_perform 58 = .ok (.return_, 1) := by decide +kernel
noncomputable def fX2_perform (a0 : Int32) (M : mv_M) : Option (Unit × mv_M) :=
  mv_getp (M.2.2 7 6) fun b1 =>
  mv_chk (mv_inb (M.1 7 1) 12) <|
  mv_bind (fX2_workOut (M.1 (b1 + 5) (M.1 7 1).toNatClampNeg) 0 M) fun _ M3 =>
  mv_let (mv_si M3 7 10 (M3.1 7 9)) fun M4 =>
  mv_getp (M4.2.2 7 6) fun b5 =>
  mv_chk (mv_inb (M4.1 7 1) 12) <|
  mv_bind (tX2_needParts (M4.1 7 10) (M4.1 (b5 + 4) (M4.1 7 1).toNatClampNeg) a0 M4) fun _ M7 =>
  if (M7.1 7 2) = 0 then
    mv_let (mv_si M7 7 2 1) fun M8 =>
    some ((), M8)
  else
    some ((), M7)
set_option maxRecDepth 100000 in
set_option maxHeartbeats 4000000 in
theorem zX2_perform {l : Launch} {d : Nat} {Q : Unit → mv_M → Prop} (hd : 20 ≤ d) (a0 : Int32) (M : mv_M) (h : mv_ok (fX2_perform a0 M) Q) : mv l mX2_perform d 0 0 (lv_args 0 [.ref 7, .int a0]) [] M (mv_qV Q) := by
  unfold fX2_perform at h
  show mv l mX2_perform d 0 0 [(0, .ref 7), (1, .int a0)] [] M (mv_qV Q)
  refine mv_aload_n 0 dX2_perform_0 rfl ?_
  refine mv_aload_n 0 dX2_perform_1 rfl ?_
  obtain ⟨b1, eb1, hb1, h⟩ := mv_getpE h
  refine mv_getP b1 fX2_65 (by decide) rfl rfl eb1 dX2_perform_2 ?_
  refine mv_getR (b1 + 5) fX2_85 (mv_pN (t := 0) hb1 (by decide)) (by rcases hb1 with rfl | rfl <;> rfl) rfl (by rcases hb1 with rfl | rfl <;> rfl) dX2_perform_5 ?_
  refine mv_aload_n 0 dX2_perform_8 rfl ?_
  refine mv_getI fX2_18 (by decide) rfl rfl dX2_perform_9 ?_
  obtain ⟨hi2, h⟩ := mv_chkE h
  refine mv_ild (mv_pN (t := 5) hb1 (by decide)) (by rcases hb1 with rfl | rfl <;> rfl) (mv_inE hi2) dX2_perform_12 ?_
  refine mv_iconst 0 dX2_perform_13 (by decide) ?_
  refine mv_cvV (As := [.int (M.1 (b1 + 5) (M.1 7 1).toNatClampNeg), .int 0]) (st := []) okX2_workOut lX2_88 (by decide) rfl rfl rfl (Nat.le_of_ble_eq_true rfl) rfl (Nat.le_of_ble_eq_true rfl) dX2_perform_14 (by omega) rfl (zX2_workOut (d := d - 1) (by omega) (M.1 (b1 + 5) (M.1 7 1).toNatClampNeg) 0 M (mv_bindE h)) (fun _ M3 h => ?_)
  refine mv_aload_n 0 dX2_perform_17 rfl ?_
  refine mv_aload_n 0 dX2_perform_18 rfl ?_
  refine mv_getI fX2_37 (by decide) rfl rfl dX2_perform_19 ?_
  refine mv_putI fX2_40 (by decide) rfl rfl dX2_perform_22 (fun M4 eM4 => ?_)
  replace h := mv_letE h M4 eM4
  refine mv_aload_n 0 dX2_perform_25 rfl ?_
  refine mv_aload_n 0 dX2_perform_26 rfl ?_
  refine mv_getI fX2_40 (by decide) rfl rfl dX2_perform_27 ?_
  refine mv_aload_n 0 dX2_perform_30 rfl ?_
  obtain ⟨b5, eb5, hb5, h⟩ := mv_getpE h
  refine mv_getP b5 fX2_65 (by decide) rfl rfl eb5 dX2_perform_31 ?_
  refine mv_getR (b5 + 4) fX2_92 (mv_pN (t := 0) hb5 (by decide)) (by rcases hb5 with rfl | rfl <;> rfl) rfl (by rcases hb5 with rfl | rfl <;> rfl) dX2_perform_34 ?_
  refine mv_aload_n 0 dX2_perform_37 rfl ?_
  refine mv_getI fX2_18 (by decide) rfl rfl dX2_perform_38 ?_
  obtain ⟨hi6, h⟩ := mv_chkE h
  refine mv_ild (mv_pN (t := 4) hb5 (by decide)) (by rcases hb5 with rfl | rfl <;> rfl) (mv_inE hi6) dX2_perform_41 ?_
  refine mv_iload_n 1 dX2_perform_42 rfl ?_
  refine mv_cvV (As := [.int (M4.1 7 10), .int (M4.1 (b5 + 4) (M4.1 7 1).toNatClampNeg), .int a0]) (st := []) okX2_needParts lX2_95 (by decide) rfl rfl rfl (Nat.le_of_ble_eq_true rfl) rfl (Nat.le_of_ble_eq_true rfl) dX2_perform_43 (by omega) rfl (ztX2_needParts (d := d - 1) (by omega) (M4.1 7 10) (M4.1 (b5 + 4) (M4.1 7 1).toNatClampNeg) a0 M4 (mv_bindE h)) (fun _ M7 h => ?_)
  refine mv_aload_n 0 dX2_perform_46 rfl ?_
  refine mv_getI fX2_22 (by decide) rfl rfl dX2_perform_47 ?_
  refine mv_if_ne 58 dX2_perform_50 (by decide) (fun z => ?_) (fun z => ?_)
  · replace h := mv_ifF z h
    exact mv_vret rfl dX2_perform_58 ⟨rfl, h⟩
  · replace h := mv_ifT z h
    refine mv_aload_n 0 dX2_perform_53 rfl ?_
    refine mv_iconst 1 dX2_perform_54 (by decide) ?_
    refine mv_putI fX2_22 (by decide) rfl rfl dX2_perform_55 (fun M8 eM8 => ?_)
    replace h := mv_letE h M8 eM8
    exact mv_vret rfl dX2_perform_58 ⟨rfl, h⟩
theorem dX2_typeAt_0 : decode cX2_typeAt 0 = .ok (.iload_n 1, 1) := by decide +kernel
theorem dX2_typeAt_1 : decode cX2_typeAt 1 = .ok (.ifCond .gt 16, 3) := by decide +kernel
theorem dX2_typeAt_4 : decode cX2_typeAt 4 = .ok (.aload_n 0, 1) := by decide +kernel
theorem dX2_typeAt_5 : decode cX2_typeAt 5 = .ok (.getfield 65, 3) := by decide +kernel
theorem dX2_typeAt_8 : decode cX2_typeAt 8 = .ok (.getfield 92, 3) := by decide +kernel
theorem dX2_typeAt_11 : decode cX2_typeAt 11 = .ok (.aload_n 0, 1) := by decide +kernel
theorem dX2_typeAt_12 : decode cX2_typeAt 12 = .ok (.getfield 18, 3) := by decide +kernel
theorem dX2_typeAt_15 : decode cX2_typeAt 15 = .ok (.iaload, 1) := by decide +kernel
theorem dX2_typeAt_16 : decode cX2_typeAt 16 = .ok (.ireturn, 1) := by decide +kernel
theorem dX2_typeAt_17 : decode cX2_typeAt 17 = .ok (.aload_n 0, 1) := by decide +kernel
theorem dX2_typeAt_18 : decode cX2_typeAt 18 = .ok (.iload_n 1, 1) := by decide +kernel
theorem dX2_typeAt_19 : decode cX2_typeAt 19 = .ok (.iconst 1, 1) := by decide +kernel
theorem dX2_typeAt_20 : decode cX2_typeAt 20 = .ok (.isub, 1) := by decide +kernel
theorem dX2_typeAt_21 : decode cX2_typeAt 21 = .ok (.iconst 2, 1) := by decide +kernel
theorem dX2_typeAt_22 : decode cX2_typeAt 22 = .ok (.idiv, 1) := by decide +kernel
theorem dX2_typeAt_23 : decode cX2_typeAt 23 = .ok (.invokevirtual 110, 3) := by decide +kernel
theorem dX2_typeAt_26 : decode cX2_typeAt 26 = .ok (.istore_n 2, 1) := by decide +kernel
theorem dX2_typeAt_27 : decode cX2_typeAt 27 = .ok (.iload_n 2, 1) := by decide +kernel
theorem dX2_typeAt_28 : decode cX2_typeAt 28 = .ok (.ifCond .gt 5, 3) := by decide +kernel
theorem dX2_typeAt_31 : decode cX2_typeAt 31 = .ok (.iconst (-1), 1) := by decide +kernel
theorem dX2_typeAt_32 : decode cX2_typeAt 32 = .ok (.ireturn, 1) := by decide +kernel
theorem dX2_typeAt_33 : decode cX2_typeAt 33 = .ok (.iload_n 1, 1) := by decide +kernel
theorem dX2_typeAt_34 : decode cX2_typeAt 34 = .ok (.iconst 2, 1) := by decide +kernel
theorem dX2_typeAt_35 : decode cX2_typeAt 35 = .ok (.irem, 1) := by decide +kernel
theorem dX2_typeAt_36 : decode cX2_typeAt 36 = .ok (.iconst 1, 1) := by decide +kernel
theorem dX2_typeAt_37 : decode cX2_typeAt 37 = .ok (.if_icmp .ne 10, 3) := by decide +kernel
theorem dX2_typeAt_40 : decode cX2_typeAt 40 = .ok (.iload_n 2, 1) := by decide +kernel
theorem dX2_typeAt_41 : decode cX2_typeAt 41 = .ok (.invokestatic 123, 3) := by decide +kernel
theorem dX2_typeAt_44 : decode cX2_typeAt 44 = .ok (.goto 7, 3) := by decide +kernel
theorem dX2_typeAt_47 : decode cX2_typeAt 47 = .ok (.iload_n 2, 1) := by decide +kernel
theorem dX2_typeAt_48 : decode cX2_typeAt 48 = .ok (.invokestatic 128, 3) := by decide +kernel
theorem dX2_typeAt_51 : decode cX2_typeAt 51 = .ok (.ireturn, 1) := by decide +kernel
noncomputable def fX2_typeAt (r_X2_typeAt : Int32 → mv_M → Option (Int32 × mv_M)) (a0 : Int32) (M : mv_M) : Option (Int32 × mv_M) :=
  if 0 < a0 then
    mv_bind (r_X2_typeAt ((a0 - 1) / 2) M) fun r1 M2 =>
    if 0 < r1 then
      if (a0 - a0 / 2 * 2) = 1 then
        mv_bind (fX6_firstOf r1 M2) fun r5 M6 =>
        some (r5, M6)
      else
        mv_bind (fX6_secondOf r1 M2) fun r3 M4 =>
        some (r3, M4)
    else
      some ((-1), M2)
  else
    mv_getp (M.2.2 7 6) fun b7 =>
    mv_chk (mv_inb (M.1 7 1) 12) <|
    some (M.1 (b7 + 4) (M.1 7 1).toNatClampNeg, M)
set_option maxRecDepth 100000 in
set_option maxHeartbeats 4000000 in
theorem zX2_typeAt {l : Launch} {d : Nat} {Q : Int32 → mv_M → Prop} {r_X2_typeAt : Int32 → mv_M → Option (Int32 × mv_M)} (hd : 1 ≤ d) (hr_X2_typeAt : ∀ (a0 : Int32) (M : mv_M) (Q : Int32 → mv_M → Prop), mv_ok (r_X2_typeAt a0 M) Q → mv l mX2_typeAt (d - 1) 0 0 (lv_args 0 [.ref 7, .int a0]) [] M (mv_qI Q)) (a0 : Int32) (M : mv_M) (h : mv_ok (fX2_typeAt r_X2_typeAt a0 M) Q) : mv l mX2_typeAt d 0 0 (lv_args 0 [.ref 7, .int a0]) [] M (mv_qI Q) := by
  unfold fX2_typeAt at h
  show mv l mX2_typeAt d 0 0 [(0, .ref 7), (1, .int a0)] [] M (mv_qI Q)
  refine mv_iload_n 1 dX2_typeAt_0 rfl ?_
  refine mv_if_gt 17 dX2_typeAt_1 (by decide) (fun z => ?_) (fun z => ?_)
  · replace h := mv_ifT z h
    refine mv_aload_n 0 dX2_typeAt_17 rfl ?_
    refine mv_iload_n 1 dX2_typeAt_18 rfl ?_
    refine mv_iconst 1 dX2_typeAt_19 (by decide) ?_
    refine mv_isub dX2_typeAt_20 ?_
    refine mv_iconst 2 dX2_typeAt_21 (by decide) ?_
    refine mv_idiv dX2_typeAt_22 (by decide) ?_
    refine mv_cvI (As := [.int ((a0 - 1) / 2)]) (st := []) okX2_typeAt lX2_110 (by decide) rfl rfl rfl (Nat.le_of_ble_eq_true rfl) rfl (Nat.le_of_ble_eq_true rfl) dX2_typeAt_23 (by omega) rfl (hr_X2_typeAt ((a0 - 1) / 2) M _ (mv_bindE h)) (fun r1 M2 h => ?_)
    refine mv_istore_n [(2, .int r1), (0, .ref 7), (1, .int a0)] dX2_typeAt_26 (by decide) rfl ?_
    refine mv_iload_n 0 dX2_typeAt_27 rfl ?_
    refine mv_if_gt 33 dX2_typeAt_28 (by decide) (fun z => ?_) (fun z => ?_)
    · replace h := mv_ifT z h
      refine mv_iload_n 2 dX2_typeAt_33 rfl ?_
      refine mv_iconst 2 dX2_typeAt_34 (by decide) ?_
      refine mv_irem dX2_typeAt_35 (by decide) ?_
      refine mv_iconst 1 dX2_typeAt_36 (by decide) ?_
      refine mv_icmp_ne 47 dX2_typeAt_37 (by decide) (fun z => ?_) (fun z => ?_)
      · replace h := mv_ifF z h
        refine mv_iload_n 0 dX2_typeAt_47 rfl ?_
        refine mv_csI (As := [.int r1]) (st := []) okX6_secondOf lX2_128 rfl (Nat.le_of_ble_eq_true rfl) rfl (Nat.le_of_ble_eq_true rfl) dX2_typeAt_48 (by omega) rfl (zX6_secondOf (d := d - 1) (by omega) r1 M2 (mv_bindE h)) (fun r3 M4 h => ?_)
        exact mv_iret rfl dX2_typeAt_51 ⟨_, rfl, h⟩
      · replace h := mv_ifT z h
        refine mv_iload_n 0 dX2_typeAt_40 rfl ?_
        refine mv_csI (As := [.int r1]) (st := []) okX6_firstOf lX2_123 rfl (Nat.le_of_ble_eq_true rfl) rfl (Nat.le_of_ble_eq_true rfl) dX2_typeAt_41 (by omega) rfl (zX6_firstOf (d := d - 1) (by omega) r1 M2 (mv_bindE h)) (fun r5 M6 h => ?_)
        refine mv_goto 51 dX2_typeAt_44 (by decide) ?_
        exact mv_iret rfl dX2_typeAt_51 ⟨_, rfl, h⟩
    · replace h := mv_ifF z h
      refine mv_iconst (-1) dX2_typeAt_31 (by decide) ?_
      exact mv_iret rfl dX2_typeAt_32 ⟨_, rfl, h⟩
  · replace h := mv_ifF z h
    refine mv_aload_n 0 dX2_typeAt_4 rfl ?_
    obtain ⟨b7, eb7, hb7, h⟩ := mv_getpE h
    refine mv_getP b7 fX2_65 (by decide) rfl rfl eb7 dX2_typeAt_5 ?_
    refine mv_getR (b7 + 4) fX2_92 (mv_pN (t := 0) hb7 (by decide)) (by rcases hb7 with rfl | rfl <;> rfl) rfl (by rcases hb7 with rfl | rfl <;> rfl) dX2_typeAt_8 ?_
    refine mv_aload_n 0 dX2_typeAt_11 rfl ?_
    refine mv_getI fX2_18 (by decide) rfl rfl dX2_typeAt_12 ?_
    obtain ⟨hi8, h⟩ := mv_chkE h
    refine mv_ild (mv_pN (t := 4) hb7 (by decide)) (by rcases hb7 with rfl | rfl <;> rfl) (mv_inE hi8) dX2_typeAt_15 ?_
    exact mv_iret rfl dX2_typeAt_16 ⟨_, rfl, h⟩
noncomputable def RX2_typeAt : Nat → Nat → Int32 → mv_M → Option (Int32 × mv_M)
  | 0, _, _, _ => none
  | n + 1, s, a0, M =>
    fX2_typeAt (fun a0 M => RX2_typeAt n 0 a0 M) a0 M
set_option maxRecDepth 100000 in
theorem zRX2_typeAt {l : Launch} : ∀ (n d : Nat), n + 2 ≤ d → (∀ (a0 : Int32) (M : mv_M) (Q : Int32 → mv_M → Prop), mv_ok (RX2_typeAt n 0 a0 M) Q → mv l mX2_typeAt d 0 0 (lv_args 0 [.ref 7, .int a0]) [] M (mv_qI Q)) := by
  intro n
  induction n with
  | zero =>
    intro d hd
    intro a0 M Q h
    rw [RX2_typeAt] at h
    exact False.elim h
  | succ n ih =>
    intro d hd
    have hi := ih (d - 1) (by omega)
    intro a0 M Q h
    rw [RX2_typeAt] at h
    exact zX2_typeAt (by omega) hi a0 M h

noncomputable def tX2_typeAt (a0 : Int32) (M : mv_M) : Option (Int32 × mv_M) := RX2_typeAt 12 0 a0 M
theorem ztX2_typeAt {l : Launch} {d : Nat} {Q : Int32 → mv_M → Prop} (hd : 14 ≤ d) (a0 : Int32) (M : mv_M) (h : mv_ok (tX2_typeAt a0 M) Q) : mv l mX2_typeAt d 0 0 (lv_args 0 [.ref 7, .int a0]) [] M (mv_qI Q) := (zRX2_typeAt 12 d hd) a0 M Q h
theorem dX2_thingAt_0 : decode cX2_thingAt 0 = .ok (.aload_n 0, 1) := by decide +kernel
theorem dX2_thingAt_1 : decode cX2_thingAt 1 = .ok (.getfield 40, 3) := by decide +kernel
theorem dX2_thingAt_4 : decode cX2_thingAt 4 = .ok (.istore_n 2, 1) := by decide +kernel
theorem dX2_thingAt_5 : decode cX2_thingAt 5 = .ok (.iload_n 1, 1) := by decide +kernel
theorem dX2_thingAt_6 : decode cX2_thingAt 6 = .ok (.iconst 2, 1) := by decide +kernel
theorem dX2_thingAt_7 : decode cX2_thingAt 7 = .ok (.if_icmp .le 36, 3) := by decide +kernel
theorem dX2_thingAt_10 : decode cX2_thingAt 10 = .ok (.aload_n 0, 1) := by decide +kernel
theorem dX2_thingAt_11 : decode cX2_thingAt 11 = .ok (.iload_n 1, 1) := by decide +kernel
theorem dX2_thingAt_12 : decode cX2_thingAt 12 = .ok (.iconst 1, 1) := by decide +kernel
theorem dX2_thingAt_13 : decode cX2_thingAt 13 = .ok (.isub, 1) := by decide +kernel
theorem dX2_thingAt_14 : decode cX2_thingAt 14 = .ok (.iconst 2, 1) := by decide +kernel
theorem dX2_thingAt_15 : decode cX2_thingAt 15 = .ok (.idiv, 1) := by decide +kernel
theorem dX2_thingAt_16 : decode cX2_thingAt 16 = .ok (.invokevirtual 114, 3) := by decide +kernel
theorem dX2_thingAt_19 : decode cX2_thingAt 19 = .ok (.istore_n 3, 1) := by decide +kernel
theorem dX2_thingAt_20 : decode cX2_thingAt 20 = .ok (.aload_n 0, 1) := by decide +kernel
theorem dX2_thingAt_21 : decode cX2_thingAt 21 = .ok (.getfield 12, 3) := by decide +kernel
theorem dX2_thingAt_24 : decode cX2_thingAt 24 = .ok (.iload_n 3, 1) := by decide +kernel
theorem dX2_thingAt_25 : decode cX2_thingAt 25 = .ok (.invokevirtual 117, 3) := by decide +kernel
theorem dX2_thingAt_28 : decode cX2_thingAt 28 = .ok (.ifCond .ne 5, 3) := by decide +kernel
theorem dX2_thingAt_31 : decode cX2_thingAt 31 = .ok (.iconst (-1), 1) := by decide +kernel
theorem dX2_thingAt_32 : decode cX2_thingAt 32 = .ok (.ireturn, 1) := by decide +kernel
theorem dX2_thingAt_33 : decode cX2_thingAt 33 = .ok (.aload_n 0, 1) := by decide +kernel
theorem dX2_thingAt_34 : decode cX2_thingAt 34 = .ok (.getfield 12, 3) := by decide +kernel
theorem dX2_thingAt_37 : decode cX2_thingAt 37 = .ok (.getfield 120, 3) := by decide +kernel
theorem dX2_thingAt_40 : decode cX2_thingAt 40 = .ok (.iload_n 3, 1) := by decide +kernel
theorem dX2_thingAt_41 : decode cX2_thingAt 41 = .ok (.iaload, 1) := by decide +kernel
theorem dX2_thingAt_42 : decode cX2_thingAt 42 = .ok (.istore_n 2, 1) := by decide +kernel
theorem dX2_thingAt_43 : decode cX2_thingAt 43 = .ok (.aload_n 0, 1) := by decide +kernel
theorem dX2_thingAt_44 : decode cX2_thingAt 44 = .ok (.getfield 12, 3) := by decide +kernel
theorem dX2_thingAt_47 : decode cX2_thingAt 47 = .ok (.iload_n 2, 1) := by decide +kernel
theorem dX2_thingAt_48 : decode cX2_thingAt 48 = .ok (.invokevirtual 102, 3) := by decide +kernel
theorem dX2_thingAt_51 : decode cX2_thingAt 51 = .ok (.ifCond .ne 5, 3) := by decide +kernel
theorem dX2_thingAt_54 : decode cX2_thingAt 54 = .ok (.iconst (-1), 1) := by decide +kernel
theorem dX2_thingAt_55 : decode cX2_thingAt 55 = .ok (.ireturn, 1) := by decide +kernel
theorem dX2_thingAt_56 : decode cX2_thingAt 56 = .ok (.iload_n 1, 1) := by decide +kernel
theorem dX2_thingAt_57 : decode cX2_thingAt 57 = .ok (.iconst 2, 1) := by decide +kernel
theorem dX2_thingAt_58 : decode cX2_thingAt 58 = .ok (.irem, 1) := by decide +kernel
theorem dX2_thingAt_59 : decode cX2_thingAt 59 = .ok (.iconst 1, 1) := by decide +kernel
theorem dX2_thingAt_60 : decode cX2_thingAt 60 = .ok (.if_icmp .ne 15, 3) := by decide +kernel
theorem dX2_thingAt_63 : decode cX2_thingAt 63 = .ok (.aload_n 0, 1) := by decide +kernel
theorem dX2_thingAt_64 : decode cX2_thingAt 64 = .ok (.getfield 12, 3) := by decide +kernel
theorem dX2_thingAt_67 : decode cX2_thingAt 67 = .ok (.getfield 131, 3) := by decide +kernel
theorem dX2_thingAt_70 : decode cX2_thingAt 70 = .ok (.iload_n 2, 1) := by decide +kernel
theorem dX2_thingAt_71 : decode cX2_thingAt 71 = .ok (.iaload, 1) := by decide +kernel
theorem dX2_thingAt_72 : decode cX2_thingAt 72 = .ok (.goto 12, 3) := by decide +kernel
theorem dX2_thingAt_75 : decode cX2_thingAt 75 = .ok (.aload_n 0, 1) := by decide +kernel
theorem dX2_thingAt_76 : decode cX2_thingAt 76 = .ok (.getfield 12, 3) := by decide +kernel
theorem dX2_thingAt_79 : decode cX2_thingAt 79 = .ok (.getfield 134, 3) := by decide +kernel
theorem dX2_thingAt_82 : decode cX2_thingAt 82 = .ok (.iload_n 2, 1) := by decide +kernel
theorem dX2_thingAt_83 : decode cX2_thingAt 83 = .ok (.iaload, 1) := by decide +kernel
theorem dX2_thingAt_84 : decode cX2_thingAt 84 = .ok (.ireturn, 1) := by decide +kernel
noncomputable def fX2_thingAt_43 (r_X2_thingAt : Int32 → mv_M → Option (Int32 × mv_M)) (x1 : Int32) (x2 : Int32) (M : mv_M) : Option (Int32 × mv_M) :=
  mv_bind (fX7_has x2 M) fun r8 M9 =>
  if r8 = 0 then
    some ((-1), M9)
  else
    if (x1 - x1 / 2 * 2) = 1 then
      mv_chk (mv_inb x2 1540) <|
      some (M9.1 60 x2.toNatClampNeg, M9)
    else
      mv_chk (mv_inb x2 1540) <|
      some (M9.1 61 x2.toNatClampNeg, M9)
set_option maxRecDepth 100000 in
set_option maxHeartbeats 4000000 in
theorem zX2_thingAt_43 {l : Launch} {d : Nat} {Q : Int32 → mv_M → Prop} {r_X2_thingAt : Int32 → mv_M → Option (Int32 × mv_M)} (hd : 2 ≤ d) (hr_X2_thingAt : ∀ (a0 : Int32) (M : mv_M) (Q : Int32 → mv_M → Prop), mv_ok (r_X2_thingAt a0 M) Q → mv l mX2_thingAt (d - 1) 0 0 (lv_args 0 [.ref 7, .int a0]) [] M (mv_qI Q)) (x1 : Int32) (x2 : Int32) (M : mv_M) (h : mv_ok (fX2_thingAt_43 r_X2_thingAt x1 x2 M) Q) : mv l mX2_thingAt d 0 43 [(0, .ref 7), (1, .int x1), (2, .int x2)] [] M (mv_qI Q) := by
  unfold fX2_thingAt_43 at h
  refine mv_aload_n 0 dX2_thingAt_43 rfl ?_
  refine mv_getR 8 fX2_12 (by decide) rfl rfl rfl dX2_thingAt_44 ?_
  refine mv_iload_n 2 dX2_thingAt_47 rfl ?_
  refine mv_cvI (As := [.int x2]) (st := []) okX7_has lX2_102 (by decide) rfl rfl rfl (Nat.le_of_ble_eq_true rfl) rfl (Nat.le_of_ble_eq_true rfl) dX2_thingAt_48 (by omega) rfl (zX7_has (d := d - 1) (by omega) x2 M (mv_bindE h)) (fun r8 M9 h => ?_)
  refine mv_if_ne 56 dX2_thingAt_51 (by decide) (fun z => ?_) (fun z => ?_)
  · replace h := mv_ifF z h
    refine mv_iload_n 1 dX2_thingAt_56 rfl ?_
    refine mv_iconst 2 dX2_thingAt_57 (by decide) ?_
    refine mv_irem dX2_thingAt_58 (by decide) ?_
    refine mv_iconst 1 dX2_thingAt_59 (by decide) ?_
    refine mv_icmp_ne 75 dX2_thingAt_60 (by decide) (fun z => ?_) (fun z => ?_)
    · replace h := mv_ifF z h
      refine mv_aload_n 0 dX2_thingAt_75 rfl ?_
      refine mv_getR 8 fX2_12 (by decide) rfl rfl rfl dX2_thingAt_76 ?_
      refine mv_getR 61 fX2_134 (by decide) rfl rfl rfl dX2_thingAt_79 ?_
      refine mv_iload_n 2 dX2_thingAt_82 rfl ?_
      obtain ⟨hi10, h⟩ := mv_chkE h
      refine mv_ild (by decide) rfl (mv_inE hi10) dX2_thingAt_83 ?_
      exact mv_iret rfl dX2_thingAt_84 ⟨_, rfl, h⟩
    · replace h := mv_ifT z h
      refine mv_aload_n 0 dX2_thingAt_63 rfl ?_
      refine mv_getR 8 fX2_12 (by decide) rfl rfl rfl dX2_thingAt_64 ?_
      refine mv_getR 60 fX2_131 (by decide) rfl rfl rfl dX2_thingAt_67 ?_
      refine mv_iload_n 2 dX2_thingAt_70 rfl ?_
      obtain ⟨hi11, h⟩ := mv_chkE h
      refine mv_ild (by decide) rfl (mv_inE hi11) dX2_thingAt_71 ?_
      refine mv_goto 84 dX2_thingAt_72 (by decide) ?_
      exact mv_iret rfl dX2_thingAt_84 ⟨_, rfl, h⟩
  · replace h := mv_ifT z h
    refine mv_iconst (-1) dX2_thingAt_54 (by decide) ?_
    exact mv_iret rfl dX2_thingAt_55 ⟨_, rfl, h⟩
noncomputable def fX2_thingAt (r_X2_thingAt : Int32 → mv_M → Option (Int32 × mv_M)) (a0 : Int32) (M : mv_M) : Option (Int32 × mv_M) :=
  mv_let (M.1 7 10) fun v1 =>
  if a0 ≤ 2 then
    fX2_thingAt_43 r_X2_thingAt a0 v1 M
  else
    mv_bind (r_X2_thingAt ((a0 - 1) / 2) M) fun r2 M3 =>
    mv_bind (fX7_hasValue r2 M3) fun r4 M5 =>
    if r4 = 0 then
      some ((-1), M5)
    else
      mv_chk (mv_inb r2 1540) <|
      mv_let (M5.1 58 r2.toNatClampNeg) fun v7 =>
      fX2_thingAt_43 r_X2_thingAt a0 v7 M5
set_option maxRecDepth 100000 in
set_option maxHeartbeats 4000000 in
theorem zX2_thingAt {l : Launch} {d : Nat} {Q : Int32 → mv_M → Prop} {r_X2_thingAt : Int32 → mv_M → Option (Int32 × mv_M)} (hd : 2 ≤ d) (hr_X2_thingAt : ∀ (a0 : Int32) (M : mv_M) (Q : Int32 → mv_M → Prop), mv_ok (r_X2_thingAt a0 M) Q → mv l mX2_thingAt (d - 1) 0 0 (lv_args 0 [.ref 7, .int a0]) [] M (mv_qI Q)) (a0 : Int32) (M : mv_M) (h : mv_ok (fX2_thingAt r_X2_thingAt a0 M) Q) : mv l mX2_thingAt d 0 0 (lv_args 0 [.ref 7, .int a0]) [] M (mv_qI Q) := by
  unfold fX2_thingAt at h
  show mv l mX2_thingAt d 0 0 [(0, .ref 7), (1, .int a0)] [] M (mv_qI Q)
  refine mv_aload_n 0 dX2_thingAt_0 rfl ?_
  refine mv_getI fX2_40 (by decide) rfl rfl dX2_thingAt_1 ?_
  refine mv_topi (fun v1 ev1 => ?_)
  replace h := mv_letE h v1 ev1
  refine mv_istore_n [(2, .int v1), (0, .ref 7), (1, .int a0)] dX2_thingAt_4 (by decide) rfl ?_
  refine mv_iload_n 2 dX2_thingAt_5 rfl ?_
  refine mv_iconst 2 dX2_thingAt_6 (by decide) ?_
  refine mv_icmp_le 43 dX2_thingAt_7 (by decide) (fun z => ?_) (fun z => ?_)
  · replace h := mv_ifT z h
    refine mv_sub [1, 2, 0] rfl ?_
    exact zX2_thingAt_43 hd hr_X2_thingAt a0 v1 M h
  · replace h := mv_ifF z h
    refine mv_aload_n 1 dX2_thingAt_10 rfl ?_
    refine mv_iload_n 2 dX2_thingAt_11 rfl ?_
    refine mv_iconst 1 dX2_thingAt_12 (by decide) ?_
    refine mv_isub dX2_thingAt_13 ?_
    refine mv_iconst 2 dX2_thingAt_14 (by decide) ?_
    refine mv_idiv dX2_thingAt_15 (by decide) ?_
    refine mv_cvI (As := [.int ((a0 - 1) / 2)]) (st := []) okX2_thingAt lX2_114 (by decide) rfl rfl rfl (Nat.le_of_ble_eq_true rfl) rfl (Nat.le_of_ble_eq_true rfl) dX2_thingAt_16 (by omega) rfl (hr_X2_thingAt ((a0 - 1) / 2) M _ (mv_bindE h)) (fun r2 M3 h => ?_)
    refine mv_istore_n [(3, .int r2), (2, .int v1), (0, .ref 7), (1, .int a0)] dX2_thingAt_19 (by decide) rfl ?_
    refine mv_aload_n 2 dX2_thingAt_20 rfl ?_
    refine mv_getR 8 fX2_12 (by decide) rfl rfl rfl dX2_thingAt_21 ?_
    refine mv_iload_n 0 dX2_thingAt_24 rfl ?_
    refine mv_cvI (As := [.int r2]) (st := []) okX7_hasValue lX2_117 (by decide) rfl rfl rfl (Nat.le_of_ble_eq_true rfl) rfl (Nat.le_of_ble_eq_true rfl) dX2_thingAt_25 (by omega) rfl (zX7_hasValue (d := d - 1) (by omega) r2 M3 (mv_bindE h)) (fun r4 M5 h => ?_)
    refine mv_if_ne 33 dX2_thingAt_28 (by decide) (fun z => ?_) (fun z => ?_)
    · replace h := mv_ifF z h
      refine mv_aload_n 2 dX2_thingAt_33 rfl ?_
      refine mv_getR 8 fX2_12 (by decide) rfl rfl rfl dX2_thingAt_34 ?_
      refine mv_getR 58 fX2_120 (by decide) rfl rfl rfl dX2_thingAt_37 ?_
      refine mv_iload_n 0 dX2_thingAt_40 rfl ?_
      obtain ⟨hi6, h⟩ := mv_chkE h
      refine mv_ild (by decide) rfl (mv_inE hi6) dX2_thingAt_41 ?_
      refine mv_topi (fun v7 ev7 => ?_)
      replace h := mv_letE h v7 ev7
      refine mv_istore_n [(2, .int v7), (3, .int r2), (0, .ref 7), (1, .int a0)] dX2_thingAt_42 (by decide) rfl ?_
      refine mv_sub [2, 3, 0] rfl ?_
      exact zX2_thingAt_43 hd hr_X2_thingAt a0 v7 M5 h
    · replace h := mv_ifT z h
      refine mv_iconst (-1) dX2_thingAt_31 (by decide) ?_
      exact mv_iret rfl dX2_thingAt_32 ⟨_, rfl, h⟩
noncomputable def RX2_thingAt : Nat → Nat → Int32 → mv_M → Option (Int32 × mv_M)
  | 0, _, _, _ => none
  | n + 1, s, a0, M =>
    fX2_thingAt (fun a0 M => RX2_thingAt n 0 a0 M) a0 M
set_option maxRecDepth 100000 in
theorem zRX2_thingAt {l : Launch} : ∀ (n d : Nat), n + 3 ≤ d → (∀ (a0 : Int32) (M : mv_M) (Q : Int32 → mv_M → Prop), mv_ok (RX2_thingAt n 0 a0 M) Q → mv l mX2_thingAt d 0 0 (lv_args 0 [.ref 7, .int a0]) [] M (mv_qI Q)) := by
  intro n
  induction n with
  | zero =>
    intro d hd
    intro a0 M Q h
    rw [RX2_thingAt] at h
    exact False.elim h
  | succ n ih =>
    intro d hd
    have hi := ih (d - 1) (by omega)
    intro a0 M Q h
    rw [RX2_thingAt] at h
    exact zX2_thingAt (by omega) hi a0 M h

noncomputable def tX2_thingAt (a0 : Int32) (M : mv_M) : Option (Int32 × mv_M) := RX2_thingAt 12 0 a0 M
theorem ztX2_thingAt {l : Launch} {d : Nat} {Q : Int32 → mv_M → Prop} (hd : 15 ≤ d) (a0 : Int32) (M : mv_M) (h : mv_ok (tX2_thingAt a0 M) Q) : mv l mX2_thingAt d 0 0 (lv_args 0 [.ref 7, .int a0]) [] M (mv_qI Q) := (zRX2_thingAt 12 d hd) a0 M Q h
theorem dX2_hasNumber_0 : decode cX2_hasNumber 0 = .ok (.aload_n 0, 1) := by decide +kernel
theorem dX2_hasNumber_1 : decode cX2_hasNumber 1 = .ok (.getfield 22, 3) := by decide +kernel
theorem dX2_hasNumber_4 : decode cX2_hasNumber 4 = .ok (.iconst 1, 1) := by decide +kernel
theorem dX2_hasNumber_5 : decode cX2_hasNumber 5 = .ok (.if_icmp .ne 11, 3) := by decide +kernel
theorem dX2_hasNumber_8 : decode cX2_hasNumber 8 = .ok (.aload_n 0, 1) := by decide +kernel
theorem dX2_hasNumber_9 : decode cX2_hasNumber 9 = .ok (.iload_n 1, 1) := by decide +kernel
theorem dX2_hasNumber_10 : decode cX2_hasNumber 10 = .ok (.invokevirtual 110, 3) := by decide +kernel
theorem dX2_hasNumber_13 : decode cX2_hasNumber 13 = .ok (.ifCond .eq 5, 3) := by decide +kernel
theorem dX2_hasNumber_16 : decode cX2_hasNumber 16 = .ok (.iconst 0, 1) := by decide +kernel
theorem dX2_hasNumber_17 : decode cX2_hasNumber 17 = .ok (.ireturn, 1) := by decide +kernel
theorem dX2_hasNumber_18 : decode cX2_hasNumber 18 = .ok (.iload_n 1, 1) := by decide +kernel
theorem dX2_hasNumber_19 : decode cX2_hasNumber 19 = .ok (.ifCond .eq 18, 3) := by decide +kernel
theorem dX2_hasNumber_22 : decode cX2_hasNumber 22 = .ok (.aload_n 0, 1) := by decide +kernel
theorem dX2_hasNumber_23 : decode cX2_hasNumber 23 = .ok (.getfield 12, 3) := by decide +kernel
theorem dX2_hasNumber_26 : decode cX2_hasNumber 26 = .ok (.aload_n 0, 1) := by decide +kernel
theorem dX2_hasNumber_27 : decode cX2_hasNumber 27 = .ok (.iload_n 1, 1) := by decide +kernel
theorem dX2_hasNumber_28 : decode cX2_hasNumber 28 = .ok (.invokevirtual 114, 3) := by decide +kernel
theorem dX2_hasNumber_31 : decode cX2_hasNumber 31 = .ok (.invokevirtual 117, 3) := by decide +kernel
theorem dX2_hasNumber_34 : decode cX2_hasNumber 34 = .ok (.ifCond .eq 7, 3) := by decide +kernel
theorem dX2_hasNumber_37 : decode cX2_hasNumber 37 = .ok (.iconst 1, 1) := by decide +kernel
theorem dX2_hasNumber_38 : decode cX2_hasNumber 38 = .ok (.goto 4, 3) := by decide +kernel
theorem dX2_hasNumber_41 : decode cX2_hasNumber 41 = .ok (.iconst 0, 1) := by decide +kernel
theorem dX2_hasNumber_42 : decode cX2_hasNumber 42 = .ok (.ireturn, 1) := by decide +kernel
noncomputable def fX2_hasNumber_37 (M : mv_M) : Option (Int32 × mv_M) :=
  some (1, M)
set_option maxRecDepth 100000 in
set_option maxHeartbeats 4000000 in
theorem zX2_hasNumber_37 {l : Launch} {d : Nat} {Q : Int32 → mv_M → Prop} (hd : 16 ≤ d) (M : mv_M) (h : mv_ok (fX2_hasNumber_37 M) Q) : mv l mX2_hasNumber d 0 37 [] [] M (mv_qI Q) := by
  unfold fX2_hasNumber_37 at h
  refine mv_iconst 1 dX2_hasNumber_37 (by decide) ?_
  refine mv_goto 42 dX2_hasNumber_38 (by decide) ?_
  exact mv_zret (by decide) rfl dX2_hasNumber_42 ⟨_, rfl, h⟩
noncomputable def fX2_hasNumber (a0 : Int32) (M : mv_M) : Option (Int32 × mv_M) :=
  if (M.1 7 2) = 1 then
    mv_bind (tX2_typeAt a0 M) fun r1 M2 =>
    if r1 = 0 then
      if a0 = 0 then
        fX2_hasNumber_37 M2
      else
        mv_bind (tX2_thingAt a0 M2) fun r3 M4 =>
        mv_bind (fX7_hasValue r3 M4) fun r5 M6 =>
        if r5 = 0 then
          some (0, M6)
        else
          fX2_hasNumber_37 M6
    else
      some (0, M2)
  else
    some (0, M)
set_option maxRecDepth 100000 in
set_option maxHeartbeats 4000000 in
theorem zX2_hasNumber {l : Launch} {d : Nat} {Q : Int32 → mv_M → Prop} (hd : 16 ≤ d) (a0 : Int32) (M : mv_M) (h : mv_ok (fX2_hasNumber a0 M) Q) : mv l mX2_hasNumber d 0 0 (lv_args 0 [.ref 7, .int a0]) [] M (mv_qI Q) := by
  unfold fX2_hasNumber at h
  show mv l mX2_hasNumber d 0 0 [(0, .ref 7), (1, .int a0)] [] M (mv_qI Q)
  refine mv_aload_n 0 dX2_hasNumber_0 rfl ?_
  refine mv_getI fX2_22 (by decide) rfl rfl dX2_hasNumber_1 ?_
  refine mv_iconst 1 dX2_hasNumber_4 (by decide) ?_
  refine mv_icmp_ne 16 dX2_hasNumber_5 (by decide) (fun z => ?_) (fun z => ?_)
  · replace h := mv_ifF z h
    refine mv_iconst 0 dX2_hasNumber_16 (by decide) ?_
    exact mv_zret (by decide) rfl dX2_hasNumber_17 ⟨_, rfl, h⟩
  · replace h := mv_ifT z h
    refine mv_aload_n 0 dX2_hasNumber_8 rfl ?_
    refine mv_iload_n 1 dX2_hasNumber_9 rfl ?_
    refine mv_cvI (As := [.int a0]) (st := []) okX2_typeAt lX2_110 (by decide) rfl rfl rfl (Nat.le_of_ble_eq_true rfl) rfl (Nat.le_of_ble_eq_true rfl) dX2_hasNumber_10 (by omega) rfl (ztX2_typeAt (d := d - 1) (by omega) a0 M (mv_bindE h)) (fun r1 M2 h => ?_)
    refine mv_if_eq 18 dX2_hasNumber_13 (by decide) (fun z => ?_) (fun z => ?_)
    · replace h := mv_ifT z h
      refine mv_iload_n 1 dX2_hasNumber_18 rfl ?_
      refine mv_if_eq 37 dX2_hasNumber_19 (by decide) (fun z => ?_) (fun z => ?_)
      · replace h := mv_ifT z h
        refine mv_sub [] rfl ?_
        exact zX2_hasNumber_37 hd M2 h
      · replace h := mv_ifF z h
        refine mv_aload_n 0 dX2_hasNumber_22 rfl ?_
        refine mv_getR 8 fX2_12 (by decide) rfl rfl rfl dX2_hasNumber_23 ?_
        refine mv_aload_n 0 dX2_hasNumber_26 rfl ?_
        refine mv_iload_n 1 dX2_hasNumber_27 rfl ?_
        refine mv_cvI (As := [.int a0]) (st := [.ref 8]) okX2_thingAt lX2_114 (by decide) rfl rfl rfl (Nat.le_of_ble_eq_true rfl) rfl (Nat.le_of_ble_eq_true rfl) dX2_hasNumber_28 (by omega) rfl (ztX2_thingAt (d := d - 1) (by omega) a0 M2 (mv_bindE h)) (fun r3 M4 h => ?_)
        refine mv_cvI (As := [.int r3]) (st := []) okX7_hasValue lX2_117 (by decide) rfl rfl rfl (Nat.le_of_ble_eq_true rfl) rfl (Nat.le_of_ble_eq_true rfl) dX2_hasNumber_31 (by omega) rfl (zX7_hasValue (d := d - 1) (by omega) r3 M4 (mv_bindE h)) (fun r5 M6 h => ?_)
        refine mv_if_eq 41 dX2_hasNumber_34 (by decide) (fun z => ?_) (fun z => ?_)
        · replace h := mv_ifT z h
          refine mv_iconst 0 dX2_hasNumber_41 (by decide) ?_
          exact mv_zret (by decide) rfl dX2_hasNumber_42 ⟨_, rfl, h⟩
        · replace h := mv_ifF z h
          refine mv_sub [] rfl ?_
          exact zX2_hasNumber_37 hd M6 h
    · replace h := mv_ifF z h
      refine mv_iconst 0 dX2_hasNumber_16 (by decide) ?_
      exact mv_zret (by decide) rfl dX2_hasNumber_17 ⟨_, rfl, h⟩
theorem dX2_numberAt_0 : decode cX2_numberAt 0 = .ok (.iload_n 1, 1) := by decide +kernel
theorem dX2_numberAt_1 : decode cX2_numberAt 1 = .ok (.ifCond .ne 8, 3) := by decide +kernel
theorem dX2_numberAt_4 : decode cX2_numberAt 4 = .ok (.aload_n 0, 1) := by decide +kernel
theorem dX2_numberAt_5 : decode cX2_numberAt 5 = .ok (.getfield 40, 3) := by decide +kernel
theorem dX2_numberAt_8 : decode cX2_numberAt 8 = .ok (.ireturn, 1) := by decide +kernel
theorem dX2_numberAt_9 : decode cX2_numberAt 9 = .ok (.aload_n 0, 1) := by decide +kernel
theorem dX2_numberAt_10 : decode cX2_numberAt 10 = .ok (.iload_n 1, 1) := by decide +kernel
theorem dX2_numberAt_11 : decode cX2_numberAt 11 = .ok (.invokevirtual 114, 3) := by decide +kernel
theorem dX2_numberAt_14 : decode cX2_numberAt 14 = .ok (.istore_n 2, 1) := by decide +kernel
theorem dX2_numberAt_15 : decode cX2_numberAt 15 = .ok (.aload_n 0, 1) := by decide +kernel
theorem dX2_numberAt_16 : decode cX2_numberAt 16 = .ok (.getfield 12, 3) := by decide +kernel
theorem dX2_numberAt_19 : decode cX2_numberAt 19 = .ok (.iload_n 2, 1) := by decide +kernel
theorem dX2_numberAt_20 : decode cX2_numberAt 20 = .ok (.invokevirtual 102, 3) := by decide +kernel
theorem dX2_numberAt_23 : decode cX2_numberAt 23 = .ok (.ifCond .eq 15, 3) := by decide +kernel
theorem dX2_numberAt_26 : decode cX2_numberAt 26 = .ok (.aload_n 0, 1) := by decide +kernel
theorem dX2_numberAt_27 : decode cX2_numberAt 27 = .ok (.getfield 12, 3) := by decide +kernel
theorem dX2_numberAt_30 : decode cX2_numberAt 30 = .ok (.getfield 120, 3) := by decide +kernel
theorem dX2_numberAt_33 : decode cX2_numberAt 33 = .ok (.iload_n 2, 1) := by decide +kernel
theorem dX2_numberAt_34 : decode cX2_numberAt 34 = .ok (.iaload, 1) := by decide +kernel
theorem dX2_numberAt_35 : decode cX2_numberAt 35 = .ok (.goto 4, 3) := by decide +kernel
theorem dX2_numberAt_38 : decode cX2_numberAt 38 = .ok (.iconst 0, 1) := by decide +kernel
theorem dX2_numberAt_39 : decode cX2_numberAt 39 = .ok (.ireturn, 1) := by decide +kernel
noncomputable def fX2_numberAt (a0 : Int32) (M : mv_M) : Option (Int32 × mv_M) :=
  if a0 = 0 then
    some (M.1 7 10, M)
  else
    mv_bind (tX2_thingAt a0 M) fun r1 M2 =>
    mv_bind (fX7_has r1 M2) fun r3 M4 =>
    if r3 = 0 then
      some (0, M4)
    else
      mv_chk (mv_inb r1 1540) <|
      some (M4.1 58 r1.toNatClampNeg, M4)
set_option maxRecDepth 100000 in
set_option maxHeartbeats 4000000 in
theorem zX2_numberAt {l : Launch} {d : Nat} {Q : Int32 → mv_M → Prop} (hd : 16 ≤ d) (a0 : Int32) (M : mv_M) (h : mv_ok (fX2_numberAt a0 M) Q) : mv l mX2_numberAt d 0 0 (lv_args 0 [.ref 7, .int a0]) [] M (mv_qI Q) := by
  unfold fX2_numberAt at h
  show mv l mX2_numberAt d 0 0 [(0, .ref 7), (1, .int a0)] [] M (mv_qI Q)
  refine mv_iload_n 1 dX2_numberAt_0 rfl ?_
  refine mv_if_ne 9 dX2_numberAt_1 (by decide) (fun z => ?_) (fun z => ?_)
  · replace h := mv_ifF z h
    refine mv_aload_n 0 dX2_numberAt_9 rfl ?_
    refine mv_iload_n 1 dX2_numberAt_10 rfl ?_
    refine mv_cvI (As := [.int a0]) (st := []) okX2_thingAt lX2_114 (by decide) rfl rfl rfl (Nat.le_of_ble_eq_true rfl) rfl (Nat.le_of_ble_eq_true rfl) dX2_numberAt_11 (by omega) rfl (ztX2_thingAt (d := d - 1) (by omega) a0 M (mv_bindE h)) (fun r1 M2 h => ?_)
    refine mv_istore_n [(2, .int r1), (0, .ref 7), (1, .int a0)] dX2_numberAt_14 (by decide) rfl ?_
    refine mv_aload_n 1 dX2_numberAt_15 rfl ?_
    refine mv_getR 8 fX2_12 (by decide) rfl rfl rfl dX2_numberAt_16 ?_
    refine mv_iload_n 0 dX2_numberAt_19 rfl ?_
    refine mv_cvI (As := [.int r1]) (st := []) okX7_has lX2_102 (by decide) rfl rfl rfl (Nat.le_of_ble_eq_true rfl) rfl (Nat.le_of_ble_eq_true rfl) dX2_numberAt_20 (by omega) rfl (zX7_has (d := d - 1) (by omega) r1 M2 (mv_bindE h)) (fun r3 M4 h => ?_)
    refine mv_if_eq 38 dX2_numberAt_23 (by decide) (fun z => ?_) (fun z => ?_)
    · replace h := mv_ifT z h
      refine mv_iconst 0 dX2_numberAt_38 (by decide) ?_
      exact mv_iret rfl dX2_numberAt_39 ⟨_, rfl, h⟩
    · replace h := mv_ifF z h
      refine mv_aload_n 1 dX2_numberAt_26 rfl ?_
      refine mv_getR 8 fX2_12 (by decide) rfl rfl rfl dX2_numberAt_27 ?_
      refine mv_getR 58 fX2_120 (by decide) rfl rfl rfl dX2_numberAt_30 ?_
      refine mv_iload_n 0 dX2_numberAt_33 rfl ?_
      obtain ⟨hi5, h⟩ := mv_chkE h
      refine mv_ild (by decide) rfl (mv_inE hi5) dX2_numberAt_34 ?_
      refine mv_goto 39 dX2_numberAt_35 (by decide) ?_
      exact mv_iret rfl dX2_numberAt_39 ⟨_, rfl, h⟩
  · replace h := mv_ifT z h
    refine mv_aload_n 0 dX2_numberAt_4 rfl ?_
    refine mv_getI fX2_40 (by decide) rfl rfl dX2_numberAt_5 ?_
    exact mv_iret rfl dX2_numberAt_8 ⟨_, rfl, h⟩
theorem dX2_wasParamNeeded_0 : decode cX2_wasParamNeeded 0 = .ok (.aload_n 0, 1) := by decide +kernel
theorem dX2_wasParamNeeded_1 : decode cX2_wasParamNeeded 1 = .ok (.iconst 0, 1) := by decide +kernel
theorem dX2_wasParamNeeded_2 : decode cX2_wasParamNeeded 2 = .ok (.iload_n 1, 1) := by decide +kernel
theorem dX2_wasParamNeeded_3 : decode cX2_wasParamNeeded 3 = .ok (.invokevirtual 98, 3) := by decide +kernel
theorem dX2_wasParamNeeded_6 : decode cX2_wasParamNeeded 6 = .ok (.istore_n 2, 1) := by decide +kernel
theorem dX2_wasParamNeeded_7 : decode cX2_wasParamNeeded 7 = .ok (.aload_n 0, 1) := by decide +kernel
theorem dX2_wasParamNeeded_8 : decode cX2_wasParamNeeded 8 = .ok (.getfield 12, 3) := by decide +kernel
theorem dX2_wasParamNeeded_11 : decode cX2_wasParamNeeded 11 = .ok (.iload_n 2, 1) := by decide +kernel
theorem dX2_wasParamNeeded_12 : decode cX2_wasParamNeeded 12 = .ok (.invokevirtual 102, 3) := by decide +kernel
theorem dX2_wasParamNeeded_15 : decode cX2_wasParamNeeded 15 = .ok (.ifCond .eq 19, 3) := by decide +kernel
theorem dX2_wasParamNeeded_18 : decode cX2_wasParamNeeded 18 = .ok (.aload_n 0, 1) := by decide +kernel
theorem dX2_wasParamNeeded_19 : decode cX2_wasParamNeeded 19 = .ok (.getfield 12, 3) := by decide +kernel
theorem dX2_wasParamNeeded_22 : decode cX2_wasParamNeeded 22 = .ok (.getfield 106, 3) := by decide +kernel
theorem dX2_wasParamNeeded_25 : decode cX2_wasParamNeeded 25 = .ok (.iload_n 2, 1) := by decide +kernel
theorem dX2_wasParamNeeded_26 : decode cX2_wasParamNeeded 26 = .ok (.baload, 1) := by decide +kernel
theorem dX2_wasParamNeeded_27 : decode cX2_wasParamNeeded 27 = .ok (.ifCond .eq 7, 3) := by decide +kernel
theorem dX2_wasParamNeeded_30 : decode cX2_wasParamNeeded 30 = .ok (.iconst 1, 1) := by decide +kernel
theorem dX2_wasParamNeeded_31 : decode cX2_wasParamNeeded 31 = .ok (.goto 4, 3) := by decide +kernel
theorem dX2_wasParamNeeded_34 : decode cX2_wasParamNeeded 34 = .ok (.iconst 0, 1) := by decide +kernel
theorem dX2_wasParamNeeded_35 : decode cX2_wasParamNeeded 35 = .ok (.ireturn, 1) := by decide +kernel
noncomputable def fX2_wasParamNeeded (a0 : Int32) (M : mv_M) : Option (Int32 × mv_M) :=
  mv_bind (fX2_thingOf 0 a0 M) fun r1 M2 =>
  mv_bind (fX7_has r1 M2) fun r3 M4 =>
  if r3 = 0 then
    some (0, M4)
  else
    mv_chk (mv_inb r1 1540) <|
    if (M4.1 59 r1.toNatClampNeg) = 0 then
      some (0, M4)
    else
      some (1, M4)
set_option maxRecDepth 100000 in
set_option maxHeartbeats 4000000 in
theorem zX2_wasParamNeeded {l : Launch} {d : Nat} {Q : Int32 → mv_M → Prop} (hd : 2 ≤ d) (a0 : Int32) (M : mv_M) (h : mv_ok (fX2_wasParamNeeded a0 M) Q) : mv l mX2_wasParamNeeded d 0 0 (lv_args 0 [.ref 7, .int a0]) [] M (mv_qI Q) := by
  unfold fX2_wasParamNeeded at h
  show mv l mX2_wasParamNeeded d 0 0 [(0, .ref 7), (1, .int a0)] [] M (mv_qI Q)
  refine mv_aload_n 0 dX2_wasParamNeeded_0 rfl ?_
  refine mv_iconst 0 dX2_wasParamNeeded_1 (by decide) ?_
  refine mv_iload_n 1 dX2_wasParamNeeded_2 rfl ?_
  refine mv_cvI (As := [.int 0, .int a0]) (st := []) okX2_thingOf lX2_98 (by decide) rfl rfl rfl (Nat.le_of_ble_eq_true rfl) rfl (Nat.le_of_ble_eq_true rfl) dX2_wasParamNeeded_3 (by omega) rfl (zX2_thingOf (d := d - 1) (by omega) 0 a0 M (mv_bindE h)) (fun r1 M2 h => ?_)
  refine mv_istore_n [(2, .int r1), (0, .ref 7), (1, .int a0)] dX2_wasParamNeeded_6 (by decide) rfl ?_
  refine mv_aload_n 1 dX2_wasParamNeeded_7 rfl ?_
  refine mv_getR 8 fX2_12 (by decide) rfl rfl rfl dX2_wasParamNeeded_8 ?_
  refine mv_iload_n 0 dX2_wasParamNeeded_11 rfl ?_
  refine mv_cvI (As := [.int r1]) (st := []) okX7_has lX2_102 (by decide) rfl rfl rfl (Nat.le_of_ble_eq_true rfl) rfl (Nat.le_of_ble_eq_true rfl) dX2_wasParamNeeded_12 (by omega) rfl (zX7_has (d := d - 1) (by omega) r1 M2 (mv_bindE h)) (fun r3 M4 h => ?_)
  refine mv_if_eq 34 dX2_wasParamNeeded_15 (by decide) (fun z => ?_) (fun z => ?_)
  · replace h := mv_ifT z h
    refine mv_iconst 0 dX2_wasParamNeeded_34 (by decide) ?_
    exact mv_zret (by decide) rfl dX2_wasParamNeeded_35 ⟨_, rfl, h⟩
  · replace h := mv_ifF z h
    refine mv_aload_n 1 dX2_wasParamNeeded_18 rfl ?_
    refine mv_getR 8 fX2_12 (by decide) rfl rfl rfl dX2_wasParamNeeded_19 ?_
    refine mv_getR 59 fX2_106 (by decide) rfl rfl rfl dX2_wasParamNeeded_22 ?_
    refine mv_iload_n 0 dX2_wasParamNeeded_25 rfl ?_
    obtain ⟨hi5, h⟩ := mv_chkE h
    refine mv_zld (by decide) rfl (mv_inE hi5) dX2_wasParamNeeded_26 ?_
    refine mv_if_eq 34 dX2_wasParamNeeded_27 (by decide) (fun z => ?_) (fun z => ?_)
    · replace h := mv_ifT z h
      refine mv_iconst 0 dX2_wasParamNeeded_34 (by decide) ?_
      exact mv_zret (by decide) rfl dX2_wasParamNeeded_35 ⟨_, rfl, h⟩
    · replace h := mv_ifF z h
      refine mv_iconst 1 dX2_wasParamNeeded_30 (by decide) ?_
      refine mv_goto 35 dX2_wasParamNeeded_31 (by decide) ?_
      exact mv_zret (by decide) rfl dX2_wasParamNeeded_35 ⟨_, rfl, h⟩
