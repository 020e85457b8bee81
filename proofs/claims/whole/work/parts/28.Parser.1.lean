theorem dX3_parseFunction_0 : decode cX3_parseFunction 0 = .ok (.aload_n 0, 1) := by decide +kernel
theorem dX3_parseFunction_1 : decode cX3_parseFunction 1 = .ok (.getfield 9, 3) := by decide +kernel
theorem dX3_parseFunction_4 : decode cX3_parseFunction 4 = .ok (.aload_n 0, 1) := by decide +kernel
theorem dX3_parseFunction_5 : decode cX3_parseFunction 5 = .ok (.getfield 28, 3) := by decide +kernel
theorem dX3_parseFunction_8 : decode cX3_parseFunction 8 = .ok (.invokevirtual 64, 3) := by decide +kernel
theorem dX3_parseFunction_11 : decode cX3_parseFunction 11 = .ok (.lstore_n 1, 1) := by decide +kernel
theorem dX3_parseFunction_12 : decode cX3_parseFunction 12 = .ok (.aload_n 0, 1) := by decide +kernel
theorem dX3_parseFunction_13 : decode cX3_parseFunction 13 = .ok (.aload_n 0, 1) := by decide +kernel
theorem dX3_parseFunction_14 : decode cX3_parseFunction 14 = .ok (.getfield 19, 3) := by decide +kernel
theorem dX3_parseFunction_17 : decode cX3_parseFunction 17 = .ok (.lload_n 1, 1) := by decide +kernel
theorem dX3_parseFunction_18 : decode cX3_parseFunction 18 = .ok (.invokevirtual 68, 3) := by decide +kernel
theorem dX3_parseFunction_21 : decode cX3_parseFunction 21 = .ok (.iconst (-1), 1) := by decide +kernel
theorem dX3_parseFunction_22 : decode cX3_parseFunction 22 = .ok (.if_icmp .eq 7, 3) := by decide +kernel
theorem dX3_parseFunction_25 : decode cX3_parseFunction 25 = .ok (.iconst 1, 1) := by decide +kernel
theorem dX3_parseFunction_26 : decode cX3_parseFunction 26 = .ok (.goto 4, 3) := by decide +kernel
theorem dX3_parseFunction_29 : decode cX3_parseFunction 29 = .ok (.iconst 0, 1) := by decide +kernel
theorem dX3_parseFunction_30 : decode cX3_parseFunction 30 = .ok (.aload_n 0, 1) := by decide +kernel
theorem dX3_parseFunction_31 : decode cX3_parseFunction 31 = .ok (.getfield 19, 3) := by decide +kernel
theorem dX3_parseFunction_34 : decode cX3_parseFunction 34 = .ok (.getfield 72, 3) := by decide +kernel
theorem dX3_parseFunction_37 : decode cX3_parseFunction 37 = .ok (.bipush 12, 2) := by decide +kernel
theorem dX3_parseFunction_39 : decode cX3_parseFunction 39 = .ok (.if_icmp .lt 7, 3) := by decide +kernel
theorem dX3_parseFunction_42 : decode cX3_parseFunction 42 = .ok (.iconst 1, 1) := by decide +kernel
theorem dX3_parseFunction_43 : decode cX3_parseFunction 43 = .ok (.goto 4, 3) := by decide +kernel
theorem dX3_parseFunction_46 : decode cX3_parseFunction 46 = .ok (.iconst 0, 1) := by decide +kernel
theorem dX3_parseFunction_47 : decode cX3_parseFunction 47 = .ok (.invokevirtual 75, 3) := by decide +kernel
theorem dX3_parseFunction_50 : decode cX3_parseFunction 50 = .ok (.aload_n 0, 1) := by decide +kernel
theorem dX3_parseFunction_51 : decode cX3_parseFunction 51 = .ok (.getfield 15, 3) := by decide +kernel
theorem dX3_parseFunction_54 : decode cX3_parseFunction 54 = .ok (.getfield 79, 3) := by decide +kernel
theorem dX3_parseFunction_57 : decode cX3_parseFunction 57 = .ok (.ifCond .eq 4, 3) := by decide +kernel
theorem dX3_parseFunction_60 : decode cX3_parseFunction 60 = .ok (.return_, 1) := by decide +kernel
theorem dX3_parseFunction_61 : decode cX3_parseFunction 61 = .ok (.aload_n 0, 1) := by decide +kernel
theorem dX3_parseFunction_62 : decode cX3_parseFunction 62 = .ok (.aload_n 0, 1) := by decide +kernel
theorem dX3_parseFunction_63 : decode cX3_parseFunction 63 = .ok (.getfield 19, 3) := by decide +kernel
theorem dX3_parseFunction_66 : decode cX3_parseFunction 66 = .ok (.getfield 72, 3) := by decide +kernel
theorem dX3_parseFunction_69 : decode cX3_parseFunction 69 = .ok (.putfield 82, 3) := by decide +kernel
theorem dX3_parseFunction_72 : decode cX3_parseFunction 72 = .ok (.aload_n 0, 1) := by decide +kernel
theorem dX3_parseFunction_73 : decode cX3_parseFunction 73 = .ok (.getfield 19, 3) := by decide +kernel
theorem dX3_parseFunction_76 : decode cX3_parseFunction 76 = .ok (.lload_n 1, 1) := by decide +kernel
theorem dX3_parseFunction_77 : decode cX3_parseFunction 77 = .ok (.invokevirtual 85, 3) := by decide +kernel
theorem dX3_parseFunction_80 : decode cX3_parseFunction 80 = .ok (.aload_n 0, 1) := by decide +kernel
theorem dX3_parseFunction_81 : decode cX3_parseFunction 81 = .ok (.bipush 40, 2) := by decide +kernel
theorem dX3_parseFunction_83 : decode cX3_parseFunction 83 = .ok (.invokevirtual 89, 3) := by decide +kernel
theorem dX3_parseFunction_86 : decode cX3_parseFunction 86 = .ok (.aload_n 0, 1) := by decide +kernel
theorem dX3_parseFunction_87 : decode cX3_parseFunction 87 = .ok (.invokevirtual 35, 3) := by decide +kernel
theorem dX3_parseFunction_90 : decode cX3_parseFunction 90 = .ok (.bipush 41, 2) := by decide +kernel
theorem dX3_parseFunction_92 : decode cX3_parseFunction 92 = .ok (.if_icmp .eq 7, 3) := by decide +kernel
theorem dX3_parseFunction_95 : decode cX3_parseFunction 95 = .ok (.aload_n 0, 1) := by decide +kernel
theorem dX3_parseFunction_96 : decode cX3_parseFunction 96 = .ok (.invokevirtual 92, 3) := by decide +kernel
theorem dX3_parseFunction_99 : decode cX3_parseFunction 99 = .ok (.aload_n 0, 1) := by decide +kernel
theorem dX3_parseFunction_100 : decode cX3_parseFunction 100 = .ok (.bipush 41, 2) := by decide +kernel
theorem dX3_parseFunction_102 : decode cX3_parseFunction 102 = .ok (.invokevirtual 89, 3) := by decide +kernel
theorem dX3_parseFunction_105 : decode cX3_parseFunction 105 = .ok (.aload_n 0, 1) := by decide +kernel
theorem dX3_parseFunction_106 : decode cX3_parseFunction 106 = .ok (.bipush 58, 2) := by decide +kernel
theorem dX3_parseFunction_108 : decode cX3_parseFunction 108 = .ok (.invokevirtual 89, 3) := by decide +kernel
theorem dX3_parseFunction_111 : decode cX3_parseFunction 111 = .ok (.aload_n 0, 1) := by decide +kernel
theorem dX3_parseFunction_112 : decode cX3_parseFunction 112 = .ok (.getfield 19, 3) := by decide +kernel
theorem dX3_parseFunction_115 : decode cX3_parseFunction 115 = .ok (.getfield 95, 3) := by decide +kernel
theorem dX3_parseFunction_118 : decode cX3_parseFunction 118 = .ok (.aload_n 0, 1) := by decide +kernel
theorem dX3_parseFunction_119 : decode cX3_parseFunction 119 = .ok (.getfield 82, 3) := by decide +kernel
theorem dX3_parseFunction_122 : decode cX3_parseFunction 122 = .ok (.aload_n 0, 1) := by decide +kernel
theorem dX3_parseFunction_123 : decode cX3_parseFunction 123 = .ok (.iconst 0, 1) := by decide +kernel
theorem dX3_parseFunction_124 : decode cX3_parseFunction 124 = .ok (.invokevirtual 99, 3) := by decide +kernel
theorem dX3_parseFunction_127 : decode cX3_parseFunction 127 = .ok (.iastore, 1) := by decide +kernel
theorem dX3_parseFunction_128 : decode cX3_parseFunction 128 = .ok (.aload_n 0, 1) := by decide +kernel
theorem dX3_parseFunction_129 : decode cX3_parseFunction 129 = .ok (.bipush 61, 2) := by decide +kernel
theorem dX3_parseFunction_131 : decode cX3_parseFunction 131 = .ok (.invokevirtual 89, 3) := by decide +kernel
theorem dX3_parseFunction_134 : decode cX3_parseFunction 134 = .ok (.aload_n 0, 1) := by decide +kernel
theorem dX3_parseFunction_135 : decode cX3_parseFunction 135 = .ok (.getfield 19, 3) := by decide +kernel
theorem dX3_parseFunction_138 : decode cX3_parseFunction 138 = .ok (.getfield 102, 3) := by decide +kernel
theorem dX3_parseFunction_141 : decode cX3_parseFunction 141 = .ok (.aload_n 0, 1) := by decide +kernel
theorem dX3_parseFunction_142 : decode cX3_parseFunction 142 = .ok (.getfield 82, 3) := by decide +kernel
theorem dX3_parseFunction_145 : decode cX3_parseFunction 145 = .ok (.aload_n 0, 1) := by decide +kernel
theorem dX3_parseFunction_146 : decode cX3_parseFunction 146 = .ok (.iconst 0, 1) := by decide +kernel
theorem dX3_parseFunction_147 : decode cX3_parseFunction 147 = .ok (.invokevirtual 105, 3) := by decide +kernel
theorem dX3_parseFunction_150 : decode cX3_parseFunction 150 = .ok (.iastore, 1) := by decide +kernel
theorem dX3_parseFunction_151 : decode cX3_parseFunction 151 = .ok (.aload_n 0, 1) := by decide +kernel
theorem dX3_parseFunction_152 : decode cX3_parseFunction 152 = .ok (.bipush 59, 2) := by decide +kernel
theorem dX3_parseFunction_154 : decode cX3_parseFunction 154 = .ok (.invokevirtual 89, 3) := by decide +kernel
theorem dX3_parseFunction_157 : decode cX3_parseFunction 157 = .ok (.return_, 1) := by decide +kernel
noncomputable def fX3_parseFunction_99 (M : mv_M) : Option (Unit × mv_M) :=
  mv_bind (fX3_take 41 M) fun _ M16 =>
  mv_bind (fX3_take 58 M16) fun _ M17 =>
  mv_getp (M17.2.2 3 2) fun b18 =>
  mv_bind (tX3_parseType 0 M17) fun r19 M20 =>
  mv_chk (mv_inb (M17.1 3 4) 12) <|
  mv_let (mv_si M20 (b18 + 4) (M17.1 3 4).toNatClampNeg r19) fun M22 =>
  mv_bind (fX3_take 61 M22) fun _ M23 =>
  mv_getp (M23.2.2 3 2) fun b24 =>
  mv_bind (tX3_parseE 0 M23) fun r25 M26 =>
  mv_chk (mv_inb (M23.1 3 4) 12) <|
  mv_let (mv_si M26 (b24 + 5) (M23.1 3 4).toNatClampNeg r25) fun M28 =>
  mv_bind (fX3_take 59 M28) fun _ M29 =>
  some ((), M29)
set_option maxRecDepth 100000 in
set_option maxHeartbeats 4000000 in
theorem zX3_parseFunction_99 {l : Launch} {d : Nat} {Q : Unit → mv_M → Prop} (hd : 242 ≤ d) (M : mv_M) (h : mv_ok (fX3_parseFunction_99 M) Q) : mv l mX3_parseFunction d 0 99 [(0, .ref 3)] [] M (mv_qV Q) := by
  unfold fX3_parseFunction_99 at h
  refine mv_aload_n 0 dX3_parseFunction_99 rfl ?_
  refine mv_bipush 41 dX3_parseFunction_100 (by decide) ?_
  refine mv_cvV (As := [.int 41]) (st := []) okX3_take lX3_89 (by decide) rfl rfl rfl (Nat.le_of_ble_eq_true rfl) rfl (Nat.le_of_ble_eq_true rfl) dX3_parseFunction_102 (by omega) rfl (zX3_take (d := d - 1) (by omega) 41 M (mv_bindE h)) (fun _ M16 h => ?_)
  refine mv_aload_n 0 dX3_parseFunction_105 rfl ?_
  refine mv_bipush 58 dX3_parseFunction_106 (by decide) ?_
  refine mv_cvV (As := [.int 58]) (st := []) okX3_take lX3_89 (by decide) rfl rfl rfl (Nat.le_of_ble_eq_true rfl) rfl (Nat.le_of_ble_eq_true rfl) dX3_parseFunction_108 (by omega) rfl (zX3_take (d := d - 1) (by omega) 58 M16 (mv_bindE h)) (fun _ M17 h => ?_)
  refine mv_aload_n 0 dX3_parseFunction_111 rfl ?_
  obtain ⟨b18, eb18, hb18, h⟩ := mv_getpE h
  refine mv_getP b18 fX3_19 (by decide) rfl rfl eb18 dX3_parseFunction_112 ?_
  refine mv_getR (b18 + 4) fX3_95 (mv_pN (t := 0) hb18 (by decide)) (by rcases hb18 with rfl | rfl <;> rfl) rfl (by rcases hb18 with rfl | rfl <;> rfl) dX3_parseFunction_115 ?_
  refine mv_aload_n 0 dX3_parseFunction_118 rfl ?_
  refine mv_getI fX3_82 (by decide) rfl rfl dX3_parseFunction_119 ?_
  refine mv_aload_n 0 dX3_parseFunction_122 rfl ?_
  refine mv_iconst 0 dX3_parseFunction_123 (by decide) ?_
  refine mv_cvI (As := [.int 0]) (st := [.int (M17.1 3 4), .ref (b18 + 4)]) okX3_parseType lX3_99 (by decide) rfl rfl rfl (Nat.le_of_ble_eq_true rfl) rfl (Nat.le_of_ble_eq_true rfl) dX3_parseFunction_124 (by omega) rfl (ztX3_parseType (d := d - 1) (by omega) 0 M17 (mv_bindE h)) (fun r19 M20 h => ?_)
  obtain ⟨hi21, h⟩ := mv_chkE h
  refine mv_ist (mv_pN (t := 4) hb18 (by decide)) (by rcases hb18 with rfl | rfl <;> rfl) (mv_inE hi21) dX3_parseFunction_127 (fun M22 eM22 => ?_)
  replace h := mv_letE h M22 eM22
  refine mv_aload_n 0 dX3_parseFunction_128 rfl ?_
  refine mv_bipush 61 dX3_parseFunction_129 (by decide) ?_
  refine mv_cvV (As := [.int 61]) (st := []) okX3_take lX3_89 (by decide) rfl rfl rfl (Nat.le_of_ble_eq_true rfl) rfl (Nat.le_of_ble_eq_true rfl) dX3_parseFunction_131 (by omega) rfl (zX3_take (d := d - 1) (by omega) 61 M22 (mv_bindE h)) (fun _ M23 h => ?_)
  refine mv_aload_n 0 dX3_parseFunction_134 rfl ?_
  obtain ⟨b24, eb24, hb24, h⟩ := mv_getpE h
  refine mv_getP b24 fX3_19 (by decide) rfl rfl eb24 dX3_parseFunction_135 ?_
  refine mv_getR (b24 + 5) fX3_102 (mv_pN (t := 0) hb24 (by decide)) (by rcases hb24 with rfl | rfl <;> rfl) rfl (by rcases hb24 with rfl | rfl <;> rfl) dX3_parseFunction_138 ?_
  refine mv_aload_n 0 dX3_parseFunction_141 rfl ?_
  refine mv_getI fX3_82 (by decide) rfl rfl dX3_parseFunction_142 ?_
  refine mv_aload_n 0 dX3_parseFunction_145 rfl ?_
  refine mv_iconst 0 dX3_parseFunction_146 (by decide) ?_
  refine mv_cvI (As := [.int 0]) (st := [.int (M23.1 3 4), .ref (b24 + 5)]) okX3_parseE lX3_105 (by decide) rfl rfl rfl (Nat.le_of_ble_eq_true rfl) rfl (Nat.le_of_ble_eq_true rfl) dX3_parseFunction_147 (by omega) rfl (ztX3_parseE (d := d - 1) (by omega) 0 M23 (mv_bindE h)) (fun r25 M26 h => ?_)
  obtain ⟨hi27, h⟩ := mv_chkE h
  refine mv_ist (mv_pN (t := 5) hb24 (by decide)) (by rcases hb24 with rfl | rfl <;> rfl) (mv_inE hi27) dX3_parseFunction_150 (fun M28 eM28 => ?_)
  replace h := mv_letE h M28 eM28
  refine mv_aload_n 0 dX3_parseFunction_151 rfl ?_
  refine mv_bipush 59 dX3_parseFunction_152 (by decide) ?_
  refine mv_cvV (As := [.int 59]) (st := []) okX3_take lX3_89 (by decide) rfl rfl rfl (Nat.le_of_ble_eq_true rfl) rfl (Nat.le_of_ble_eq_true rfl) dX3_parseFunction_154 (by omega) rfl (zX3_take (d := d - 1) (by omega) 59 M28 (mv_bindE h)) (fun _ M29 h => ?_)
  exact mv_vret rfl dX3_parseFunction_157 ⟨rfl, h⟩
noncomputable def fX3_parseFunction_47 (x1 : Int64) (s0 : Int32) (s1 : Int32) (M : mv_M) : Option (Unit × mv_M) :=
  mv_bind (fX3_takeNewName s1 s0 M) fun _ M7 =>
  if (M7.1 1 0) = 0 then
    mv_getp (M7.2.2 3 2) fun b8 =>
    mv_let (mv_si M7 3 4 (M7.1 b8 0)) fun M9 =>
    mv_getp (M9.2.2 3 2) fun b10 =>
    mv_bind (fX4_addFunction b10 x1 M9) fun _ M11 =>
    mv_bind (fX3_take 40 M11) fun _ M12 =>
    mv_bind (fX3_kind M12) fun r13 M14 =>
    if r13 = 41 then
      fX3_parseFunction_99 M14
    else
      mv_bind (fX3_parseParams M14) fun _ M15 =>
      fX3_parseFunction_99 M15
  else
    some ((), M7)
set_option maxRecDepth 100000 in
set_option maxHeartbeats 4000000 in
theorem zX3_parseFunction_47 {l : Launch} {d : Nat} {Q : Unit → mv_M → Prop} (hd : 242 ≤ d) (x1 : Int64) (s0 : Int32) (s1 : Int32) (M : mv_M) (h : mv_ok (fX3_parseFunction_47 x1 s0 s1 M) Q) : mv l mX3_parseFunction d 0 47 [(0, .ref 3), (1, .long x1)] [.int s0, .int s1, .ref 3] M (mv_qV Q) := by
  unfold fX3_parseFunction_47 at h
  refine mv_cvV (As := [.int s1, .int s0]) (st := []) okX3_takeNewName lX3_75 (by decide) rfl rfl rfl (Nat.le_of_ble_eq_true rfl) rfl (Nat.le_of_ble_eq_true rfl) dX3_parseFunction_47 (by omega) rfl (zX3_takeNewName (d := d - 1) (by omega) s1 s0 M (mv_bindE h)) (fun _ M7 h => ?_)
  refine mv_aload_n 0 dX3_parseFunction_50 rfl ?_
  refine mv_getR 1 fX3_15 (by decide) rfl rfl rfl dX3_parseFunction_51 ?_
  refine mv_getI fX3_79 (by decide) rfl rfl dX3_parseFunction_54 ?_
  refine mv_if_eq 61 dX3_parseFunction_57 (by decide) (fun z => ?_) (fun z => ?_)
  · replace h := mv_ifT z h
    refine mv_aload_n 0 dX3_parseFunction_61 rfl ?_
    refine mv_aload_n 0 dX3_parseFunction_62 rfl ?_
    obtain ⟨b8, eb8, hb8, h⟩ := mv_getpE h
    refine mv_getP b8 fX3_19 (by decide) rfl rfl eb8 dX3_parseFunction_63 ?_
    refine mv_getI fX3_72 (mv_pN (t := 0) hb8 (by decide)) (by rcases hb8 with rfl | rfl <;> rfl) rfl dX3_parseFunction_66 ?_
    refine mv_putI fX3_82 (by decide) rfl rfl dX3_parseFunction_69 (fun M9 eM9 => ?_)
    replace h := mv_letE h M9 eM9
    refine mv_aload_n 0 dX3_parseFunction_72 rfl ?_
    obtain ⟨b10, eb10, hb10, h⟩ := mv_getpE h
    refine mv_getP b10 fX3_19 (by decide) rfl rfl eb10 dX3_parseFunction_73 ?_
    refine mv_lload_n 1 dX3_parseFunction_76 rfl ?_
    refine mv_cvV (As := [.long x1]) (st := []) okX4_addFunction lX3_85 (mv_pN (t := 0) hb10 (by decide)) (by rcases hb10 with rfl | rfl <;> rfl) rfl rfl (Nat.le_of_ble_eq_true rfl) rfl (Nat.le_of_ble_eq_true rfl) dX3_parseFunction_77 (by omega) rfl (zX4_addFunction (d := d - 1) (by omega) b10 x1 M9 hb10 (mv_bindE h)) (fun _ M11 h => ?_)
    refine mv_aload_n 0 dX3_parseFunction_80 rfl ?_
    refine mv_bipush 40 dX3_parseFunction_81 (by decide) ?_
    refine mv_cvV (As := [.int 40]) (st := []) okX3_take lX3_89 (by decide) rfl rfl rfl (Nat.le_of_ble_eq_true rfl) rfl (Nat.le_of_ble_eq_true rfl) dX3_parseFunction_83 (by omega) rfl (zX3_take (d := d - 1) (by omega) 40 M11 (mv_bindE h)) (fun _ M12 h => ?_)
    refine mv_aload_n 0 dX3_parseFunction_86 rfl ?_
    refine mv_cvI (As := []) (st := []) okX3_kind lX3_35 (by decide) rfl rfl rfl (Nat.le_of_ble_eq_true rfl) rfl (Nat.le_of_ble_eq_true rfl) dX3_parseFunction_87 (by omega) rfl (zX3_kind (d := d - 1) (by omega) M12 (mv_bindE h)) (fun r13 M14 h => ?_)
    refine mv_bipush 41 dX3_parseFunction_90 (by decide) ?_
    refine mv_icmp_eq 99 dX3_parseFunction_92 (by decide) (fun z => ?_) (fun z => ?_)
    · replace h := mv_ifT z h
      refine mv_sub [0] rfl ?_
      exact zX3_parseFunction_99 hd M14 h
    · replace h := mv_ifF z h
      refine mv_aload_n 0 dX3_parseFunction_95 rfl ?_
      refine mv_cvV (As := []) (st := []) okX3_parseParams lX3_92 (by decide) rfl rfl rfl (Nat.le_of_ble_eq_true rfl) rfl (Nat.le_of_ble_eq_true rfl) dX3_parseFunction_96 (by omega) rfl (zX3_parseParams (d := d - 1) (by omega) M14 (mv_bindE h)) (fun _ M15 h => ?_)
      refine mv_sub [0] rfl ?_
      exact zX3_parseFunction_99 hd M15 h
  · replace h := mv_ifF z h
    exact mv_vret rfl dX3_parseFunction_60 ⟨rfl, h⟩
noncomputable def fX3_parseFunction_30 (x1 : Int64) (s0 : Int32) (M : mv_M) : Option (Unit × mv_M) :=
  mv_getp (M.2.2 3 2) fun b6 =>
  if (M.1 b6 0) < 12 then
    fX3_parseFunction_47 x1 0 s0 M
  else
    fX3_parseFunction_47 x1 1 s0 M
set_option maxRecDepth 100000 in
set_option maxHeartbeats 4000000 in
theorem zX3_parseFunction_30 {l : Launch} {d : Nat} {Q : Unit → mv_M → Prop} (hd : 242 ≤ d) (x1 : Int64) (s0 : Int32) (M : mv_M) (h : mv_ok (fX3_parseFunction_30 x1 s0 M) Q) : mv l mX3_parseFunction d 0 30 [(0, .ref 3), (1, .long x1)] [.int s0, .ref 3] M (mv_qV Q) := by
  unfold fX3_parseFunction_30 at h
  refine mv_aload_n 0 dX3_parseFunction_30 rfl ?_
  obtain ⟨b6, eb6, hb6, h⟩ := mv_getpE h
  refine mv_getP b6 fX3_19 (by decide) rfl rfl eb6 dX3_parseFunction_31 ?_
  refine mv_getI fX3_72 (mv_pN (t := 0) hb6 (by decide)) (by rcases hb6 with rfl | rfl <;> rfl) rfl dX3_parseFunction_34 ?_
  refine mv_bipush 12 dX3_parseFunction_37 (by decide) ?_
  refine mv_icmp_lt 46 dX3_parseFunction_39 (by decide) (fun z => ?_) (fun z => ?_)
  · replace h := mv_ifT z h
    refine mv_iconst 0 dX3_parseFunction_46 (by decide) ?_
    refine mv_sub [0, 1] rfl ?_
    exact zX3_parseFunction_47 hd x1 0 s0 M h
  · replace h := mv_ifF z h
    refine mv_iconst 1 dX3_parseFunction_42 (by decide) ?_
    refine mv_goto 47 dX3_parseFunction_43 (by decide) ?_
    refine mv_sub [0, 1] rfl ?_
    exact zX3_parseFunction_47 hd x1 1 s0 M h
noncomputable def fX3_parseFunction (M : mv_M) : Option (Unit × mv_M) :=
  mv_bind (fX8_textOf (M.1 3 3) M) fun r1 M2 =>
  mv_getp (M2.2.2 3 2) fun b3 =>
  mv_bind (fX4_functionOf b3 r1 M2) fun r4 M5 =>
  if r4 = (-1) then
    fX3_parseFunction_30 r1 0 M5
  else
    fX3_parseFunction_30 r1 1 M5
set_option maxRecDepth 100000 in
set_option maxHeartbeats 4000000 in
theorem zX3_parseFunction {l : Launch} {d : Nat} {Q : Unit → mv_M → Prop} (hd : 242 ≤ d) (M : mv_M) (h : mv_ok (fX3_parseFunction M) Q) : mv l mX3_parseFunction d 0 0 (lv_args 0 [.ref 3]) [] M (mv_qV Q) := by
  unfold fX3_parseFunction at h
  show mv l mX3_parseFunction d 0 0 [(0, .ref 3)] [] M (mv_qV Q)
  refine mv_aload_n 0 dX3_parseFunction_0 rfl ?_
  refine mv_getR 2 fX3_9 (by decide) rfl rfl rfl dX3_parseFunction_1 ?_
  refine mv_aload_n 0 dX3_parseFunction_4 rfl ?_
  refine mv_getI fX3_28 (by decide) rfl rfl dX3_parseFunction_5 ?_
  refine mv_cvL (As := [.int (M.1 3 3)]) (st := []) okX8_textOf lX3_64 (by decide) rfl rfl rfl (Nat.le_of_ble_eq_true rfl) rfl (Nat.le_of_ble_eq_true rfl) dX3_parseFunction_8 (by omega) rfl (zX8_textOf (d := d - 1) (by omega) (M.1 3 3) M (mv_bindE h)) (fun r1 M2 h => ?_)
  refine mv_lstore_n [(1, .long r1), (0, .ref 3)] dX3_parseFunction_11 (by decide) rfl ?_
  refine mv_aload_n 1 dX3_parseFunction_12 rfl ?_
  refine mv_aload_n 1 dX3_parseFunction_13 rfl ?_
  obtain ⟨b3, eb3, hb3, h⟩ := mv_getpE h
  refine mv_getP b3 fX3_19 (by decide) rfl rfl eb3 dX3_parseFunction_14 ?_
  refine mv_lload_n 0 dX3_parseFunction_17 rfl ?_
  refine mv_cvI (As := [.long r1]) (st := [.ref 3]) okX4_functionOf lX3_68 (mv_pN (t := 0) hb3 (by decide)) (by rcases hb3 with rfl | rfl <;> rfl) rfl rfl (Nat.le_of_ble_eq_true rfl) rfl (Nat.le_of_ble_eq_true rfl) dX3_parseFunction_18 (by omega) rfl (zX4_functionOf (d := d - 1) (by omega) b3 r1 M2 hb3 (mv_bindE h)) (fun r4 M5 h => ?_)
  refine mv_iconst (-1) dX3_parseFunction_21 (by decide) ?_
  refine mv_icmp_eq 29 dX3_parseFunction_22 (by decide) (fun z => ?_) (fun z => ?_)
  · replace h := mv_ifT z h
    refine mv_iconst 0 dX3_parseFunction_29 (by decide) ?_
    refine mv_sub [1, 0] rfl ?_
    exact zX3_parseFunction_30 hd r1 0 M5 h
  · replace h := mv_ifF z h
    refine mv_iconst 1 dX3_parseFunction_25 (by decide) ?_
    refine mv_goto 30 dX3_parseFunction_26 (by decide) ?_
    refine mv_sub [1, 0] rfl ?_
    exact zX3_parseFunction_30 hd r1 1 M5 h
theorem dX3_parse_0 : decode cX3_parse 0 = .ok (.aload_n 0, 1) := by decide +kernel
theorem dX3_parse_1 : decode cX3_parse 1 = .ok (.aload_n 1, 1) := by decide +kernel
theorem dX3_parse_2 : decode cX3_parse 2 = .ok (.putfield 19, 3) := by decide +kernel
theorem dX3_parse_5 : decode cX3_parse 5 = .ok (.aload_n 0, 1) := by decide +kernel
theorem dX3_parse_6 : decode cX3_parse 6 = .ok (.getfield 19, 3) := by decide +kernel
theorem dX3_parse_9 : decode cX3_parse 9 = .ok (.invokevirtual 23, 3) := by decide +kernel
theorem dX3_parse_12 : decode cX3_parse 12 = .ok (.aload_n 0, 1) := by decide +kernel
theorem dX3_parse_13 : decode cX3_parse 13 = .ok (.iconst 0, 1) := by decide +kernel
theorem dX3_parse_14 : decode cX3_parse 14 = .ok (.putfield 28, 3) := by decide +kernel
theorem dX3_parse_17 : decode cX3_parse 17 = .ok (.aload_n 0, 1) := by decide +kernel
theorem dX3_parse_18 : decode cX3_parse 18 = .ok (.invokevirtual 32, 3) := by decide +kernel
theorem dX3_parse_21 : decode cX3_parse 21 = .ok (.iconst 0, 1) := by decide +kernel
theorem dX3_parse_22 : decode cX3_parse 22 = .ok (.istore_n 2, 1) := by decide +kernel
theorem dX3_parse_23 : decode cX3_parse 23 = .ok (.iload_n 2, 1) := by decide +kernel
theorem dX3_parse_24 : decode cX3_parse 24 = .ok (.bipush 12, 2) := by decide +kernel
theorem dX3_parse_26 : decode cX3_parse 26 = .ok (.if_icmp .ge 20, 3) := by decide +kernel
theorem dX3_parse_29 : decode cX3_parse 29 = .ok (.aload_n 0, 1) := by decide +kernel
theorem dX3_parse_30 : decode cX3_parse 30 = .ok (.invokevirtual 35, 3) := by decide +kernel
theorem dX3_parse_33 : decode cX3_parse 33 = .ok (.ifCond .eq 13, 3) := by decide +kernel
theorem dX3_parse_36 : decode cX3_parse 36 = .ok (.aload_n 0, 1) := by decide +kernel
theorem dX3_parse_37 : decode cX3_parse 37 = .ok (.invokevirtual 32, 3) := by decide +kernel
theorem dX3_parse_40 : decode cX3_parse 40 = .ok (.iinc 2 1, 3) := by decide +kernel
theorem dX3_parse_43 : decode cX3_parse 43 = .ok (.goto (-20), 3) := by decide +kernel
theorem dX3_parse_46 : decode cX3_parse 46 = .ok (.return_, 1) := by decide +kernel
noncomputable def gX3_parse_23 (x2 : Int32) (M : mv_M) : Option (((Int32) ⊕ Unit) × mv_M) :=
  if 12 ≤ x2 then
    some (.inr (()), M)
  else
    mv_bind (fX3_kind M) fun r6 M7 =>
    if r6 = 0 then
      some (.inr (()), M7)
    else
      mv_bind (fX3_parseFunction M7) fun _ M8 =>
      mv_let (x2 + 1) fun v9 =>
      some (.inl v9, M8)
noncomputable def fX3_parse_23 (x2 : Int32) (M : mv_M) : Option (Unit × mv_M) := mv_loop (fun (s : Int32) M => gX3_parse_23 s M) x2 M
set_option maxRecDepth 100000 in
set_option maxHeartbeats 4000000 in
theorem zX3_parse_23 {l : Launch} {d : Nat} {Q : Unit → mv_M → Prop} (hd : 243 ≤ d) (x2 : Int32) (M : mv_M) (h : mv_ok (fX3_parse_23 x2 M) Q) : mv l mX3_parse d 0 23 [(0, .ref 3), (2, .int x2)] [] M (mv_qV Q) := by
  unfold fX3_parse_23 at h
  refine mv_loopE (A := (fun (s : Int32) M => mv l mX3_parse d 0 23 [(0, .ref 3), (2, .int s)] [] M (mv_qV Q))) ?_ x2 M h
  · intro x2 M h
    try dsimp only at h
    show mv l mX3_parse d 0 23 [(0, .ref 3), (2, .int x2)] [] M (mv_qV Q)
    unfold gX3_parse_23 at h
    refine mv_iload_n 1 dX3_parse_23 rfl ?_
    refine mv_bipush 12 dX3_parse_24 (by decide) ?_
    refine mv_icmp_ge 46 dX3_parse_26 (by decide) (fun z => ?_) (fun z => ?_)
    · replace h := mv_ifT z h
      exact mv_vret rfl dX3_parse_46 ⟨rfl, h⟩
    · replace h := mv_ifF z h
      refine mv_aload_n 0 dX3_parse_29 rfl ?_
      refine mv_cvI (As := []) (st := []) okX3_kind lX3_35 (by decide) rfl rfl rfl (Nat.le_of_ble_eq_true rfl) rfl (Nat.le_of_ble_eq_true rfl) dX3_parse_30 (by omega) rfl (zX3_kind (d := d - 1) (by omega) M (mv_bindE h)) (fun r6 M7 h => ?_)
      refine mv_if_eq 46 dX3_parse_33 (by decide) (fun z => ?_) (fun z => ?_)
      · replace h := mv_ifT z h
        exact mv_vret rfl dX3_parse_46 ⟨rfl, h⟩
      · replace h := mv_ifF z h
        refine mv_aload_n 0 dX3_parse_36 rfl ?_
        refine mv_cvV (As := []) (st := []) okX3_parseFunction lX3_32 (by decide) rfl rfl rfl (Nat.le_of_ble_eq_true rfl) rfl (Nat.le_of_ble_eq_true rfl) dX3_parse_37 (by omega) rfl (zX3_parseFunction (d := d - 1) (by omega) M7 (mv_bindE h)) (fun _ M8 h => ?_)
        obtain ⟨v9, ev9⟩ : ∃ z : Int32, z = x2 + 1 := ⟨_, rfl⟩
        replace h := mv_letE h v9 ev9
        refine mv_iinc v9 1 [(2, .int v9), (0, .ref 3)] dX3_parse_40 rfl (by rw [ev9]; rfl) (by decide) rfl ?_
        refine mv_goto 23 dX3_parse_43 (by decide) ?_
        refine mv_sub [1, 0] rfl ?_
        exact h
noncomputable def fX3_parse (b1 : Nat) (M : mv_M) : Option (Unit × mv_M) :=
  mv_let (mv_sr M 3 2 (some b1)) fun M1 =>
  mv_getp (M1.2.2 3 2) fun b2 =>
  mv_bind (fX4_clear b2 M1) fun _ M3 =>
  mv_let (mv_si M3 3 3 0) fun M4 =>
  mv_bind (fX3_parseFunction M4) fun _ M5 =>
  fX3_parse_23 0 M5
set_option maxRecDepth 100000 in
set_option maxHeartbeats 4000000 in
theorem zX3_parse {l : Launch} {d : Nat} {Q : Unit → mv_M → Prop} (hd : 243 ≤ d) (b1 : Nat) (M : mv_M) (hb1 : b1 = 9 ∨ b1 = 24) (h : mv_ok (fX3_parse b1 M) Q) : mv l mX3_parse d 0 0 (lv_args 0 [.ref 3, .ref b1]) [] M (mv_qV Q) := by
  unfold fX3_parse at h
  show mv l mX3_parse d 0 0 [(0, .ref 3), (1, .ref b1)] [] M (mv_qV Q)
  refine mv_aload_n 0 dX3_parse_0 rfl ?_
  refine mv_aload_n 1 dX3_parse_1 rfl ?_
  refine mv_putR fX3_19 (by decide) rfl rfl dX3_parse_2 (fun M1 eM1 => ?_)
  replace h := mv_letE h M1 eM1
  refine mv_aload_n 0 dX3_parse_5 rfl ?_
  obtain ⟨b2, eb2, hb2, h⟩ := mv_getpE h
  refine mv_getP b2 fX3_19 (by decide) rfl rfl eb2 dX3_parse_6 ?_
  refine mv_cvV (As := []) (st := []) okX4_clear lX3_23 (mv_pN (t := 0) hb2 (by decide)) (by rcases hb2 with rfl | rfl <;> rfl) rfl rfl (Nat.le_of_ble_eq_true rfl) rfl (Nat.le_of_ble_eq_true rfl) dX3_parse_9 (by omega) rfl (zX4_clear (d := d - 1) (by omega) b2 M1 hb2 (mv_bindE h)) (fun _ M3 h => ?_)
  refine mv_aload_n 0 dX3_parse_12 rfl ?_
  refine mv_iconst 0 dX3_parse_13 (by decide) ?_
  refine mv_putI fX3_28 (by decide) rfl rfl dX3_parse_14 (fun M4 eM4 => ?_)
  replace h := mv_letE h M4 eM4
  refine mv_aload_n 0 dX3_parse_17 rfl ?_
  refine mv_cvV (As := []) (st := []) okX3_parseFunction lX3_32 (by decide) rfl rfl rfl (Nat.le_of_ble_eq_true rfl) rfl (Nat.le_of_ble_eq_true rfl) dX3_parse_18 (by omega) rfl (zX3_parseFunction (d := d - 1) (by omega) M4 (mv_bindE h)) (fun _ M5 h => ?_)
  refine mv_iconst 0 dX3_parse_21 (by decide) ?_
  refine mv_istore_n [(2, .int 0), (0, .ref 3), (1, .ref b1)] dX3_parse_22 (by decide) rfl ?_
  refine mv_sub [1, 0] rfl ?_
  exact zX3_parse_23 hd 0 M5 h
