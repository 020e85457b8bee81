theorem dX10_feed_0 : decode cX10_feed 0 = .ok (.aload_n 0, 1) := by decide +kernel
theorem dX10_feed_1 : decode cX10_feed 1 = .ok (.getfield 19, 3) := by decide +kernel
theorem dX10_feed_4 : decode cX10_feed 4 = .ok (.getfield 70, 3) := by decide +kernel
theorem dX10_feed_7 : decode cX10_feed 7 = .ok (.sipush 3980, 3) := by decide +kernel
theorem dX10_feed_10 : decode cX10_feed 10 = .ok (.if_icmp .le 13, 3) := by decide +kernel
theorem dX10_feed_13 : decode cX10_feed 13 = .ok (.new 74, 3) := by decide +kernel
theorem dX10_feed_16 : decode cX10_feed 16 = .ok (.dup, 1) := by decide +kernel
theorem dX10_feed_17 : decode cX10_feed 17 = .ok (.ldc 76, 2) := by decide +kernel
theorem dX10_feed_19 : decode cX10_feed 19 = .ok (.invokespecial 78, 3) := by decide +kernel
theorem dX10_feed_22 : decode cX10_feed 22 = .ok (.athrow, 1) := by decide +kernel
theorem dX10_feed_23 : decode cX10_feed 23 = .ok (.aload_n 0, 1) := by decide +kernel
theorem dX10_feed_24 : decode cX10_feed 24 = .ok (.getfield 19, 3) := by decide +kernel
theorem dX10_feed_27 : decode cX10_feed 27 = .ok (.iload_n 1, 1) := by decide +kernel
theorem dX10_feed_28 : decode cX10_feed 28 = .ok (.invokevirtual 81, 3) := by decide +kernel
theorem dX10_feed_31 : decode cX10_feed 31 = .ok (.aload_n 0, 1) := by decide +kernel
theorem dX10_feed_32 : decode cX10_feed 32 = .ok (.getfield 19, 3) := by decide +kernel
theorem dX10_feed_35 : decode cX10_feed 35 = .ok (.iload_n 2, 1) := by decide +kernel
theorem dX10_feed_36 : decode cX10_feed 36 = .ok (.invokevirtual 81, 3) := by decide +kernel
theorem dX10_feed_39 : decode cX10_feed 39 = .ok (.aload_n 0, 1) := by decide +kernel
theorem dX10_feed_40 : decode cX10_feed 40 = .ok (.getfield 19, 3) := by decide +kernel
theorem dX10_feed_43 : decode cX10_feed 43 = .ok (.iload_n 3, 1) := by decide +kernel
theorem dX10_feed_44 : decode cX10_feed 44 = .ok (.invokevirtual 81, 3) := by decide +kernel
theorem dX10_feed_47 : decode cX10_feed 47 = .ok (.aload_n 0, 1) := by decide +kernel
theorem dX10_feed_48 : decode cX10_feed 48 = .ok (.getfield 19, 3) := by decide +kernel
theorem dX10_feed_51 : decode cX10_feed 51 = .ok (.iload 4, 2) := by decide +kernel
theorem dX10_feed_53 : decode cX10_feed 53 = .ok (.invokevirtual 81, 3) := by decide +kernel
theorem dX10_feed_56 : decode cX10_feed 56 = .ok (.aload_n 0, 1) := by decide +kernel
theorem dX10_feed_57 : decode cX10_feed 57 = .ok (.getfield 19, 3) := by decide +kernel
theorem dX10_feed_60 : decode cX10_feed 60 = .ok (.iload 5, 2) := by decide +kernel
theorem dX10_feed_62 : decode cX10_feed 62 = .ok (.invokevirtual 81, 3) := by decide +kernel
theorem dX10_feed_65 : decode cX10_feed 65 = .ok (.aload_n 0, 1) := by decide +kernel
theorem dX10_feed_66 : decode cX10_feed 66 = .ok (.getfield 19, 3) := by decide +kernel
theorem dX10_feed_69 : decode cX10_feed 69 = .ok (.getfield 70, 3) := by decide +kernel
theorem dX10_feed_72 : decode cX10_feed 72 = .ok (.ireturn, 1) := by decide +kernel
noncomputable def fX10_feed (a0 : Int32) (a1 : Int32) (a2 : Int32) (a3 : Int32) (a4 : Int32) (M : mv_M) : Option ((Int32 ⊕ String) × mv_M) :=
  if (M.1 2 1) ≤ 3980 then
    mv_bind (fX8_append a0 M) fun _ M1 =>
    mv_bind (fX8_append a1 M1) fun _ M2 =>
    mv_bind (fX8_append a2 M2) fun _ M3 =>
    mv_bind (fX8_append a3 M3) fun _ M4 =>
    mv_bind (fX8_append a4 M4) fun _ M5 =>
    some (.inl (M5.1 2 1), M5)
  else
    some (.inr "java/lang/IllegalStateException", M)
set_option maxRecDepth 100000 in
set_option maxHeartbeats 4000000 in
theorem zX10_feed {l : Launch} {d : Nat} {Q : (Int32 ⊕ String) → mv_M → Prop} (hd : 7 ≤ d) (hl : l.stackTraces = false) (a0 : Int32) (a1 : Int32) (a2 : Int32) (a3 : Int32) (a4 : Int32) (M : mv_M) (h : mv_ok (fX10_feed a0 a1 a2 a3 a4 M) Q) : mv l mX10_feed d 4 0 (lv_args 0 [.ref 0, .int a0, .int a1, .int a2, .int a3, .int a4]) [] M (mv_xI Q) := by
  unfold fX10_feed at h
  show mv l mX10_feed d 4 0 [(0, .ref 0), (1, .int a0), (2, .int a1), (3, .int a2), (4, .int a3), (5, .int a4)] [] M (mv_xI Q)
  refine mv_aload_n 0 dX10_feed_0 rfl ?_
  refine mv_getR 2 fX10_19 (by decide) rfl rfl rfl dX10_feed_1 ?_
  refine mv_getI fX10_70 (by decide) rfl rfl dX10_feed_4 ?_
  refine mv_sipush 3980 dX10_feed_7 (by decide) ?_
  refine mv_icmp_le 23 dX10_feed_10 (by decide) (fun z => ?_) (fun z => ?_)
  · replace h := mv_ifT z h
    refine mv_aload_n 0 dX10_feed_23 rfl ?_
    refine mv_getR 2 fX10_19 (by decide) rfl rfl rfl dX10_feed_24 ?_
    refine mv_iload_n 1 dX10_feed_27 rfl ?_
    refine mv_cvV (As := [.int a0]) (st := []) okX8_append lX10_81 (by decide) rfl rfl rfl (Nat.le_of_ble_eq_true rfl) rfl (Nat.le_of_ble_eq_true rfl) dX10_feed_28 (by omega) rfl (zX8_append (d := d - 1) (by omega) a0 M (mv_bindE h)) (fun _ M1 h => ?_)
    refine mv_aload_n 0 dX10_feed_31 rfl ?_
    refine mv_getR 2 fX10_19 (by decide) rfl rfl rfl dX10_feed_32 ?_
    refine mv_iload_n 2 dX10_feed_35 rfl ?_
    refine mv_cvV (As := [.int a1]) (st := []) okX8_append lX10_81 (by decide) rfl rfl rfl (Nat.le_of_ble_eq_true rfl) rfl (Nat.le_of_ble_eq_true rfl) dX10_feed_36 (by omega) rfl (zX8_append (d := d - 1) (by omega) a1 M1 (mv_bindE h)) (fun _ M2 h => ?_)
    refine mv_aload_n 0 dX10_feed_39 rfl ?_
    refine mv_getR 2 fX10_19 (by decide) rfl rfl rfl dX10_feed_40 ?_
    refine mv_iload_n 3 dX10_feed_43 rfl ?_
    refine mv_cvV (As := [.int a2]) (st := []) okX8_append lX10_81 (by decide) rfl rfl rfl (Nat.le_of_ble_eq_true rfl) rfl (Nat.le_of_ble_eq_true rfl) dX10_feed_44 (by omega) rfl (zX8_append (d := d - 1) (by omega) a2 M2 (mv_bindE h)) (fun _ M3 h => ?_)
    refine mv_aload_n 0 dX10_feed_47 rfl ?_
    refine mv_getR 2 fX10_19 (by decide) rfl rfl rfl dX10_feed_48 ?_
    refine mv_iload 4 dX10_feed_51 rfl ?_
    refine mv_cvV (As := [.int a3]) (st := []) okX8_append lX10_81 (by decide) rfl rfl rfl (Nat.le_of_ble_eq_true rfl) rfl (Nat.le_of_ble_eq_true rfl) dX10_feed_53 (by omega) rfl (zX8_append (d := d - 1) (by omega) a3 M3 (mv_bindE h)) (fun _ M4 h => ?_)
    refine mv_aload_n 0 dX10_feed_56 rfl ?_
    refine mv_getR 2 fX10_19 (by decide) rfl rfl rfl dX10_feed_57 ?_
    refine mv_iload 5 dX10_feed_60 rfl ?_
    refine mv_cvV (As := [.int a4]) (st := []) okX8_append lX10_81 (by decide) rfl rfl rfl (Nat.le_of_ble_eq_true rfl) rfl (Nat.le_of_ble_eq_true rfl) dX10_feed_62 (by omega) rfl (zX8_append (d := d - 1) (by omega) a4 M4 (mv_bindE h)) (fun _ M5 h => ?_)
    refine mv_aload_n 0 dX10_feed_65 rfl ?_
    refine mv_getR 2 fX10_19 (by decide) rfl rfl rfl dX10_feed_66 ?_
    refine mv_getI fX10_70 (by decide) rfl rfl dX10_feed_69 ?_
    exact mv_iret rfl dX10_feed_72 (Or.inl ⟨_, rfl, h⟩)
  · replace h := mv_ifF z h
    exact mv_throw hl hX10_74 sX10_76 dX10_feed_13 dX10_feed_16 dX10_feed_17 dX10_feed_19 dX10_feed_22 rfl (by decide) (by omega) (by omega) (Nat.le_of_ble_eq_true rfl) (Or.inr ⟨_, rfl, h⟩)
theorem dX10_cut_0 : decode cX10_cut 0 = .ok (.iload_n 1, 1) := by decide +kernel
theorem dX10_cut_1 : decode cX10_cut 1 = .ok (.ifCond .lt 14, 3) := by decide +kernel
theorem dX10_cut_4 : decode cX10_cut 4 = .ok (.iload_n 1, 1) := by decide +kernel
theorem dX10_cut_5 : decode cX10_cut 5 = .ok (.aload_n 0, 1) := by decide +kernel
theorem dX10_cut_6 : decode cX10_cut 6 = .ok (.getfield 19, 3) := by decide +kernel
theorem dX10_cut_9 : decode cX10_cut 9 = .ok (.getfield 70, 3) := by decide +kernel
theorem dX10_cut_12 : decode cX10_cut 12 = .ok (.if_icmp .le 13, 3) := by decide +kernel
theorem dX10_cut_15 : decode cX10_cut 15 = .ok (.new 85, 3) := by decide +kernel
theorem dX10_cut_18 : decode cX10_cut 18 = .ok (.dup, 1) := by decide +kernel
theorem dX10_cut_19 : decode cX10_cut 19 = .ok (.ldc 87, 2) := by decide +kernel
theorem dX10_cut_21 : decode cX10_cut 21 = .ok (.invokespecial 89, 3) := by decide +kernel
theorem dX10_cut_24 : decode cX10_cut 24 = .ok (.athrow, 1) := by decide +kernel
theorem dX10_cut_25 : decode cX10_cut 25 = .ok (.aload_n 0, 1) := by decide +kernel
theorem dX10_cut_26 : decode cX10_cut 26 = .ok (.getfield 19, 3) := by decide +kernel
theorem dX10_cut_29 : decode cX10_cut 29 = .ok (.getfield 70, 3) := by decide +kernel
theorem dX10_cut_32 : decode cX10_cut 32 = .ok (.iload_n 1, 1) := by decide +kernel
theorem dX10_cut_33 : decode cX10_cut 33 = .ok (.isub, 1) := by decide +kernel
theorem dX10_cut_34 : decode cX10_cut 34 = .ok (.istore_n 2, 1) := by decide +kernel
theorem dX10_cut_35 : decode cX10_cut 35 = .ok (.aload_n 0, 1) := by decide +kernel
theorem dX10_cut_36 : decode cX10_cut 36 = .ok (.getfield 19, 3) := by decide +kernel
theorem dX10_cut_39 : decode cX10_cut 39 = .ok (.iload_n 1, 1) := by decide +kernel
theorem dX10_cut_40 : decode cX10_cut 40 = .ok (.putfield 70, 3) := by decide +kernel
theorem dX10_cut_43 : decode cX10_cut 43 = .ok (.iload_n 2, 1) := by decide +kernel
theorem dX10_cut_44 : decode cX10_cut 44 = .ok (.ireturn, 1) := by decide +kernel
noncomputable def fX10_cut_15 (M : mv_M) : Option ((Int32 ⊕ String) × mv_M) :=
  some (.inr "java/lang/IllegalArgumentException", M)
set_option maxRecDepth 100000 in
set_option maxHeartbeats 4000000 in
theorem zX10_cut_15 {l : Launch} {d : Nat} {Q : (Int32 ⊕ String) → mv_M → Prop} (hd : 7 ≤ d) (hl : l.stackTraces = false) (M : mv_M) (h : mv_ok (fX10_cut_15 M) Q) : mv l mX10_cut d 4 15 [] [] M (mv_xI Q) := by
  unfold fX10_cut_15 at h
  exact mv_throw hl hX10_85 sX10_87 dX10_cut_15 dX10_cut_18 dX10_cut_19 dX10_cut_21 dX10_cut_24 rfl (by decide) (by omega) (by omega) (Nat.le_of_ble_eq_true rfl) (Or.inr ⟨_, rfl, h⟩)
noncomputable def fX10_cut (a0 : Int32) (M : mv_M) : Option ((Int32 ⊕ String) × mv_M) :=
  if a0 < 0 then
    fX10_cut_15 M
  else
    if a0 ≤ (M.1 2 1) then
      mv_let ((M.1 2 1) - a0) fun v1 =>
      mv_let (mv_si M 2 1 a0) fun M2 =>
      some (.inl v1, M2)
    else
      fX10_cut_15 M
set_option maxRecDepth 100000 in
set_option maxHeartbeats 4000000 in
theorem zX10_cut {l : Launch} {d : Nat} {Q : (Int32 ⊕ String) → mv_M → Prop} (hd : 7 ≤ d) (hl : l.stackTraces = false) (a0 : Int32) (M : mv_M) (h : mv_ok (fX10_cut a0 M) Q) : mv l mX10_cut d 4 0 (lv_args 0 [.ref 0, .int a0]) [] M (mv_xI Q) := by
  unfold fX10_cut at h
  show mv l mX10_cut d 4 0 [(0, .ref 0), (1, .int a0)] [] M (mv_xI Q)
  refine mv_iload_n 1 dX10_cut_0 rfl ?_
  refine mv_if_lt 15 dX10_cut_1 (by decide) (fun z => ?_) (fun z => ?_)
  · replace h := mv_ifT z h
    refine mv_sub [] rfl ?_
    exact zX10_cut_15 hd hl M h
  · replace h := mv_ifF z h
    refine mv_iload_n 1 dX10_cut_4 rfl ?_
    refine mv_aload_n 0 dX10_cut_5 rfl ?_
    refine mv_getR 2 fX10_19 (by decide) rfl rfl rfl dX10_cut_6 ?_
    refine mv_getI fX10_70 (by decide) rfl rfl dX10_cut_9 ?_
    refine mv_icmp_le 25 dX10_cut_12 (by decide) (fun z => ?_) (fun z => ?_)
    · replace h := mv_ifT z h
      refine mv_aload_n 0 dX10_cut_25 rfl ?_
      refine mv_getR 2 fX10_19 (by decide) rfl rfl rfl dX10_cut_26 ?_
      refine mv_getI fX10_70 (by decide) rfl rfl dX10_cut_29 ?_
      refine mv_iload_n 1 dX10_cut_32 rfl ?_
      refine mv_isub dX10_cut_33 ?_
      refine mv_topi (fun v1 ev1 => ?_)
      replace h := mv_letE h v1 ev1
      refine mv_istore_n [(2, .int v1), (0, .ref 0), (1, .int a0)] dX10_cut_34 (by decide) rfl ?_
      refine mv_aload_n 1 dX10_cut_35 rfl ?_
      refine mv_getR 2 fX10_19 (by decide) rfl rfl rfl dX10_cut_36 ?_
      refine mv_iload_n 2 dX10_cut_39 rfl ?_
      refine mv_putI fX10_70 (by decide) rfl rfl dX10_cut_40 (fun M2 eM2 => ?_)
      replace h := mv_letE h M2 eM2
      refine mv_iload_n 0 dX10_cut_43 rfl ?_
      exact mv_iret rfl dX10_cut_44 (Or.inl ⟨_, rfl, h⟩)
    · replace h := mv_ifF z h
      refine mv_sub [] rfl ?_
      exact zX10_cut_15 hd hl M h
theorem dX10_read_0 : decode cX10_read 0 = .ok (.aload_n 0, 1) := by decide +kernel
theorem dX10_read_1 : decode cX10_read 1 = .ok (.getfield 10, 3) := by decide +kernel
theorem dX10_read_4 : decode cX10_read 4 = .ok (.invokevirtual 90, 3) := by decide +kernel
theorem dX10_read_7 : decode cX10_read 7 = .ok (.aload_n 0, 1) := by decide +kernel
theorem dX10_read_8 : decode cX10_read 8 = .ok (.getfield 19, 3) := by decide +kernel
theorem dX10_read_11 : decode cX10_read 11 = .ok (.invokevirtual 93, 3) := by decide +kernel
theorem dX10_read_14 : decode cX10_read 14 = .ok (.aload_n 0, 1) := by decide +kernel
theorem dX10_read_15 : decode cX10_read 15 = .ok (.getfield 28, 3) := by decide +kernel
theorem dX10_read_18 : decode cX10_read 18 = .ok (.aload_n 0, 1) := by decide +kernel
theorem dX10_read_19 : decode cX10_read 19 = .ok (.getfield 67, 3) := by decide +kernel
theorem dX10_read_22 : decode cX10_read 22 = .ok (.invokevirtual 96, 3) := by decide +kernel
theorem dX10_read_25 : decode cX10_read 25 = .ok (.aload_n 0, 1) := by decide +kernel
theorem dX10_read_26 : decode cX10_read 26 = .ok (.getfield 35, 3) := by decide +kernel
theorem dX10_read_29 : decode cX10_read 29 = .ok (.aload_n 0, 1) := by decide +kernel
theorem dX10_read_30 : decode cX10_read 30 = .ok (.getfield 67, 3) := by decide +kernel
theorem dX10_read_33 : decode cX10_read 33 = .ok (.invokevirtual 100, 3) := by decide +kernel
theorem dX10_read_36 : decode cX10_read 36 = .ok (.aload_n 0, 1) := by decide +kernel
theorem dX10_read_37 : decode cX10_read 37 = .ok (.getfield 19, 3) := by decide +kernel
theorem dX10_read_40 : decode cX10_read 40 = .ok (.iconst 0, 1) := by decide +kernel
theorem dX10_read_41 : decode cX10_read 41 = .ok (.putfield 70, 3) := by decide +kernel
theorem dX10_read_44 : decode cX10_read 44 = .ok (.aload_n 0, 1) := by decide +kernel
theorem dX10_read_45 : decode cX10_read 45 = .ok (.getfield 10, 3) := by decide +kernel
theorem dX10_read_48 : decode cX10_read 48 = .ok (.getfield 103, 3) := by decide +kernel
theorem dX10_read_51 : decode cX10_read 51 = .ok (.ifCond .eq 12, 3) := by decide +kernel
theorem dX10_read_54 : decode cX10_read 54 = .ok (.aload_n 0, 1) := by decide +kernel
theorem dX10_read_55 : decode cX10_read 55 = .ok (.getfield 10, 3) := by decide +kernel
theorem dX10_read_58 : decode cX10_read 58 = .ok (.getfield 103, 3) := by decide +kernel
theorem dX10_read_61 : decode cX10_read 61 = .ok (.ineg, 1) := by decide +kernel
theorem dX10_read_62 : decode cX10_read 62 = .ok (.ireturn, 1) := by decide +kernel
theorem dX10_read_63 : decode cX10_read 63 = .ok (.aload_n 0, 1) := by decide +kernel
theorem dX10_read_64 : decode cX10_read 64 = .ok (.getfield 63, 3) := by decide +kernel
theorem dX10_read_67 : decode cX10_read 67 = .ok (.astore_n 1, 1) := by decide +kernel
theorem dX10_read_68 : decode cX10_read 68 = .ok (.aload_n 0, 1) := by decide +kernel
theorem dX10_read_69 : decode cX10_read 69 = .ok (.aload_n 0, 1) := by decide +kernel
theorem dX10_read_70 : decode cX10_read 70 = .ok (.getfield 67, 3) := by decide +kernel
theorem dX10_read_73 : decode cX10_read 73 = .ok (.putfield 63, 3) := by decide +kernel
theorem dX10_read_76 : decode cX10_read 76 = .ok (.aload_n 0, 1) := by decide +kernel
theorem dX10_read_77 : decode cX10_read 77 = .ok (.aload_n 1, 1) := by decide +kernel
theorem dX10_read_78 : decode cX10_read 78 = .ok (.putfield 67, 3) := by decide +kernel
theorem dX10_read_81 : decode cX10_read 81 = .ok (.aload_n 0, 1) := by decide +kernel
theorem dX10_read_82 : decode cX10_read 82 = .ok (.getfield 42, 3) := by decide +kernel
theorem dX10_read_85 : decode cX10_read 85 = .ok (.invokevirtual 106, 3) := by decide +kernel
theorem dX10_read_88 : decode cX10_read 88 = .ok (.aload_n 0, 1) := by decide +kernel
theorem dX10_read_89 : decode cX10_read 89 = .ok (.getfield 56, 3) := by decide +kernel
theorem dX10_read_92 : decode cX10_read 92 = .ok (.invokevirtual 109, 3) := by decide +kernel
theorem dX10_read_95 : decode cX10_read 95 = .ok (.aload_n 0, 1) := by decide +kernel
theorem dX10_read_96 : decode cX10_read 96 = .ok (.getfield 63, 3) := by decide +kernel
theorem dX10_read_99 : decode cX10_read 99 = .ok (.getfield 110, 3) := by decide +kernel
theorem dX10_read_102 : decode cX10_read 102 = .ok (.ireturn, 1) := by decide +kernel
noncomputable def fX10_read (M : mv_M) : Option (Int32 × mv_M) :=
  mv_bind (fX0_clear M) fun _ M1 =>
  mv_bind (fX8_scan M1) fun _ M2 =>
  mv_getp (M2.2.2 0 8) fun b3 =>
  mv_bind (fX3_parse b3 M2) fun _ M4 =>
  mv_getp (M4.2.2 0 8) fun b5 =>
  mv_bind (fX9_judge b5 M4) fun _ M6 =>
  mv_let (mv_si M6 2 1 0) fun M7 =>
  if (M7.1 1 0) = 0 then
    mv_getp (M7.2.2 0 7) fun b8 =>
    mv_getp (M7.2.2 0 8) fun b9 =>
    mv_let (mv_sr M7 0 7 (some b9)) fun M10 =>
    mv_let (mv_sr M10 0 8 (some b8)) fun M11 =>
    mv_bind (fX5_forget M11) fun _ M12 =>
    mv_bind (fX2_forget M12) fun _ M13 =>
    mv_getp (M13.2.2 0 7) fun b14 =>
    some (M13.1 b14 0, M13)
  else
    some (-(M7.1 1 0), M7)
set_option maxRecDepth 100000 in
set_option maxHeartbeats 4000000 in
theorem zX10_read {l : Launch} {d : Nat} {Q : Int32 → mv_M → Prop} (hd : 327 ≤ d) (M : mv_M) (h : mv_ok (fX10_read M) Q) : mv l mX10_read d 0 0 (lv_args 0 [.ref 0]) [] M (mv_qI Q) := by
  unfold fX10_read at h
  show mv l mX10_read d 0 0 [(0, .ref 0)] [] M (mv_qI Q)
  refine mv_aload_n 0 dX10_read_0 rfl ?_
  refine mv_getR 1 fX10_10 (by decide) rfl rfl rfl dX10_read_1 ?_
  refine mv_cvV (As := []) (st := []) okX0_clear lX10_90 (by decide) rfl rfl rfl (Nat.le_of_ble_eq_true rfl) rfl (Nat.le_of_ble_eq_true rfl) dX10_read_4 (by omega) rfl (zX0_clear (d := d - 1) (by omega) M (mv_bindE h)) (fun _ M1 h => ?_)
  refine mv_aload_n 0 dX10_read_7 rfl ?_
  refine mv_getR 2 fX10_19 (by decide) rfl rfl rfl dX10_read_8 ?_
  refine mv_cvV (As := []) (st := []) okX8_scan lX10_93 (by decide) rfl rfl rfl (Nat.le_of_ble_eq_true rfl) rfl (Nat.le_of_ble_eq_true rfl) dX10_read_11 (by omega) rfl (zX8_scan (d := d - 1) (by omega) M1 (mv_bindE h)) (fun _ M2 h => ?_)
  refine mv_aload_n 0 dX10_read_14 rfl ?_
  refine mv_getR 3 fX10_28 (by decide) rfl rfl rfl dX10_read_15 ?_
  refine mv_aload_n 0 dX10_read_18 rfl ?_
  obtain ⟨b3, eb3, hb3, h⟩ := mv_getpE h
  refine mv_getP b3 fX10_67 (by decide) rfl rfl eb3 dX10_read_19 ?_
  refine mv_cvV (As := [.ref b3]) (st := []) okX3_parse lX10_96 (by decide) rfl rfl rfl (Nat.le_of_ble_eq_true rfl) rfl (Nat.le_of_ble_eq_true rfl) dX10_read_22 (by omega) rfl (zX3_parse (d := d - 1) (by omega) b3 M2 hb3 (mv_bindE h)) (fun _ M4 h => ?_)
  refine mv_aload_n 0 dX10_read_25 rfl ?_
  refine mv_getR 4 fX10_35 (by decide) rfl rfl rfl dX10_read_26 ?_
  refine mv_aload_n 0 dX10_read_29 rfl ?_
  obtain ⟨b5, eb5, hb5, h⟩ := mv_getpE h
  refine mv_getP b5 fX10_67 (by decide) rfl rfl eb5 dX10_read_30 ?_
  refine mv_cvV (As := [.ref b5]) (st := []) okX9_judge lX10_100 (by decide) rfl rfl rfl (Nat.le_of_ble_eq_true rfl) rfl (Nat.le_of_ble_eq_true rfl) dX10_read_33 (by omega) rfl (zX9_judge (d := d - 1) (by omega) b5 M4 hb5 (mv_bindE h)) (fun _ M6 h => ?_)
  refine mv_aload_n 0 dX10_read_36 rfl ?_
  refine mv_getR 2 fX10_19 (by decide) rfl rfl rfl dX10_read_37 ?_
  refine mv_iconst 0 dX10_read_40 (by decide) ?_
  refine mv_putI fX10_70 (by decide) rfl rfl dX10_read_41 (fun M7 eM7 => ?_)
  replace h := mv_letE h M7 eM7
  refine mv_aload_n 0 dX10_read_44 rfl ?_
  refine mv_getR 1 fX10_10 (by decide) rfl rfl rfl dX10_read_45 ?_
  refine mv_getI fX10_103 (by decide) rfl rfl dX10_read_48 ?_
  refine mv_if_eq 63 dX10_read_51 (by decide) (fun z => ?_) (fun z => ?_)
  · replace h := mv_ifT z h
    refine mv_aload_n 0 dX10_read_63 rfl ?_
    obtain ⟨b8, eb8, hb8, h⟩ := mv_getpE h
    refine mv_getP b8 fX10_63 (by decide) rfl rfl eb8 dX10_read_64 ?_
    refine mv_astore_n [(1, .ref b8), (0, .ref 0)] dX10_read_67 (by decide) rfl ?_
    refine mv_aload_n 1 dX10_read_68 rfl ?_
    refine mv_aload_n 1 dX10_read_69 rfl ?_
    obtain ⟨b9, eb9, hb9, h⟩ := mv_getpE h
    refine mv_getP b9 fX10_67 (by decide) rfl rfl eb9 dX10_read_70 ?_
    refine mv_putR fX10_63 (by decide) rfl rfl dX10_read_73 (fun M10 eM10 => ?_)
    replace h := mv_letE h M10 eM10
    refine mv_aload_n 1 dX10_read_76 rfl ?_
    refine mv_aload_n 0 dX10_read_77 rfl ?_
    refine mv_putR fX10_67 (by decide) rfl rfl dX10_read_78 (fun M11 eM11 => ?_)
    replace h := mv_letE h M11 eM11
    refine mv_aload_n 1 dX10_read_81 rfl ?_
    refine mv_getR 5 fX10_42 (by decide) rfl rfl rfl dX10_read_82 ?_
    refine mv_cvV (As := []) (st := []) okX5_forget lX10_106 (by decide) rfl rfl rfl (Nat.le_of_ble_eq_true rfl) rfl (Nat.le_of_ble_eq_true rfl) dX10_read_85 (by omega) rfl (zX5_forget (d := d - 1) (by omega) M11 (mv_bindE h)) (fun _ M12 h => ?_)
    refine mv_aload_n 1 dX10_read_88 rfl ?_
    refine mv_getR 7 fX10_56 (by decide) rfl rfl rfl dX10_read_89 ?_
    refine mv_cvV (As := []) (st := []) okX2_forget lX10_109 (by decide) rfl rfl rfl (Nat.le_of_ble_eq_true rfl) rfl (Nat.le_of_ble_eq_true rfl) dX10_read_92 (by omega) rfl (zX2_forget (d := d - 1) (by omega) M12 (mv_bindE h)) (fun _ M13 h => ?_)
    refine mv_aload_n 1 dX10_read_95 rfl ?_
    obtain ⟨b14, eb14, hb14, h⟩ := mv_getpE h
    refine mv_getP b14 fX10_63 (by decide) rfl rfl eb14 dX10_read_96 ?_
    refine mv_getI fX10_110 (mv_pN (t := 0) hb14 (by decide)) (by rcases hb14 with rfl | rfl <;> rfl) rfl dX10_read_99 ?_
    exact mv_iret rfl dX10_read_102 ⟨_, rfl, h⟩
  · replace h := mv_ifF z h
    refine mv_aload_n 0 dX10_read_54 rfl ?_
    refine mv_getR 1 fX10_10 (by decide) rfl rfl rfl dX10_read_55 ?_
    refine mv_getI fX10_103 (by decide) rfl rfl dX10_read_58 ?_
    refine mv_ineg dX10_read_61 ?_
    exact mv_iret rfl dX10_read_62 ⟨_, rfl, h⟩
theorem dX10_place_0 : decode cX10_place 0 = .ok (.aload_n 0, 1) := by decide +kernel
theorem dX10_place_1 : decode cX10_place 1 = .ok (.getfield 10, 3) := by decide +kernel
theorem dX10_place_4 : decode cX10_place 4 = .ok (.getfield 113, 3) := by decide +kernel
theorem dX10_place_7 : decode cX10_place 7 = .ok (.ireturn, 1) := by decide +kernel
noncomputable def fX10_place (M : mv_M) : Option (Int32 × mv_M) :=
  some (M.1 1 1, M)
set_option maxRecDepth 100000 in
set_option maxHeartbeats 4000000 in
theorem zX10_place {l : Launch} {d : Nat} {Q : Int32 → mv_M → Prop} (hd : 0 ≤ d) (M : mv_M) (h : mv_ok (fX10_place M) Q) : mv l mX10_place d 0 0 (lv_args 0 [.ref 0]) [] M (mv_qI Q) := by
  unfold fX10_place at h
  show mv l mX10_place d 0 0 [(0, .ref 0)] [] M (mv_qI Q)
  refine mv_aload_n 0 dX10_place_0 rfl ?_
  refine mv_getR 1 fX10_10 (by decide) rfl rfl rfl dX10_place_1 ?_
  refine mv_getI fX10_113 (by decide) rfl rfl dX10_place_4 ?_
  exact mv_iret rfl dX10_place_7 ⟨_, rfl, h⟩
theorem dX10_function_0 : decode cX10_function 0 = .ok (.aload_n 0, 1) := by decide +kernel
theorem dX10_function_1 : decode cX10_function 1 = .ok (.getfield 63, 3) := by decide +kernel
theorem dX10_function_4 : decode cX10_function 4 = .ok (.iload_n 1, 1) := by decide +kernel
theorem dX10_function_5 : decode cX10_function 5 = .ok (.invokevirtual 116, 3) := by decide +kernel
theorem dX10_function_8 : decode cX10_function 8 = .ok (.ifCond .eq 26, 3) := by decide +kernel
theorem dX10_function_11 : decode cX10_function 11 = .ok (.iload_n 2, 1) := by decide +kernel
theorem dX10_function_12 : decode cX10_function 12 = .ok (.ifCond .lt 22, 3) := by decide +kernel
theorem dX10_function_15 : decode cX10_function 15 = .ok (.iload_n 2, 1) := by decide +kernel
theorem dX10_function_16 : decode cX10_function 16 = .ok (.iconst 2, 1) := by decide +kernel
theorem dX10_function_17 : decode cX10_function 17 = .ok (.if_icmp .le 27, 3) := by decide +kernel
theorem dX10_function_20 : decode cX10_function 20 = .ok (.aload_n 0, 1) := by decide +kernel
theorem dX10_function_21 : decode cX10_function 21 = .ok (.getfield 63, 3) := by decide +kernel
theorem dX10_function_24 : decode cX10_function 24 = .ok (.iload_n 1, 1) := by decide +kernel
theorem dX10_function_25 : decode cX10_function 25 = .ok (.iload_n 2, 1) := by decide +kernel
theorem dX10_function_26 : decode cX10_function 26 = .ok (.iconst 3, 1) := by decide +kernel
theorem dX10_function_27 : decode cX10_function 27 = .ok (.isub, 1) := by decide +kernel
theorem dX10_function_28 : decode cX10_function 28 = .ok (.invokevirtual 120, 3) := by decide +kernel
theorem dX10_function_31 : decode cX10_function 31 = .ok (.ifCond .ne 13, 3) := by decide +kernel
theorem dX10_function_34 : decode cX10_function 34 = .ok (.new 124, 3) := by decide +kernel
theorem dX10_function_37 : decode cX10_function 37 = .ok (.dup, 1) := by decide +kernel
theorem dX10_function_38 : decode cX10_function 38 = .ok (.ldc 126, 2) := by decide +kernel
theorem dX10_function_40 : decode cX10_function 40 = .ok (.invokespecial 128, 3) := by decide +kernel
theorem dX10_function_43 : decode cX10_function 43 = .ok (.athrow, 1) := by decide +kernel
theorem dX10_function_44 : decode cX10_function 44 = .ok (.iload_n 2, 1) := by decide +kernel
theorem dX10_function_45 : decode cX10_function 45 = .ok (.tableswitch 60 0 2 #[27, 37, 47], 27) := by decide +kernel
theorem dX10_function_72 : decode cX10_function 72 = .ok (.aload_n 0, 1) := by decide +kernel
theorem dX10_function_73 : decode cX10_function 73 = .ok (.getfield 63, 3) := by decide +kernel
theorem dX10_function_76 : decode cX10_function 76 = .ok (.getfield 129, 3) := by decide +kernel
theorem dX10_function_79 : decode cX10_function 79 = .ok (.iload_n 1, 1) := by decide +kernel
theorem dX10_function_80 : decode cX10_function 80 = .ok (.iaload, 1) := by decide +kernel
theorem dX10_function_81 : decode cX10_function 81 = .ok (.ireturn, 1) := by decide +kernel
theorem dX10_function_82 : decode cX10_function 82 = .ok (.aload_n 0, 1) := by decide +kernel
theorem dX10_function_83 : decode cX10_function 83 = .ok (.getfield 63, 3) := by decide +kernel
theorem dX10_function_86 : decode cX10_function 86 = .ok (.getfield 133, 3) := by decide +kernel
theorem dX10_function_89 : decode cX10_function 89 = .ok (.iload_n 1, 1) := by decide +kernel
theorem dX10_function_90 : decode cX10_function 90 = .ok (.iaload, 1) := by decide +kernel
theorem dX10_function_91 : decode cX10_function 91 = .ok (.ireturn, 1) := by decide +kernel
theorem dX10_function_92 : decode cX10_function 92 = .ok (.aload_n 0, 1) := by decide +kernel
theorem dX10_function_93 : decode cX10_function 93 = .ok (.getfield 63, 3) := by decide +kernel
theorem dX10_function_96 : decode cX10_function 96 = .ok (.getfield 136, 3) := by decide +kernel
theorem dX10_function_99 : decode cX10_function 99 = .ok (.iload_n 1, 1) := by decide +kernel
theorem dX10_function_100 : decode cX10_function 100 = .ok (.iaload, 1) := by decide +kernel
theorem dX10_function_101 : decode cX10_function 101 = .ok (.invokestatic 139, 3) := by decide +kernel
theorem dX10_function_104 : decode cX10_function 104 = .ok (.ireturn, 1) := by decide +kernel
theorem dX10_function_105 : decode cX10_function 105 = .ok (.aload_n 0, 1) := by decide +kernel
theorem dX10_function_106 : decode cX10_function 106 = .ok (.getfield 63, 3) := by decide +kernel
theorem dX10_function_109 : decode cX10_function 109 = .ok (.iload_n 1, 1) := by decide +kernel
theorem dX10_function_110 : decode cX10_function 110 = .ok (.iload_n 2, 1) := by decide +kernel
theorem dX10_function_111 : decode cX10_function 111 = .ok (.iconst 3, 1) := by decide +kernel
theorem dX10_function_112 : decode cX10_function 112 = .ok (.isub, 1) := by decide +kernel
theorem dX10_function_113 : decode cX10_function 113 = .ok (.invokevirtual 145, 3) := by decide +kernel
theorem dX10_function_116 : decode cX10_function 116 = .ok (.invokestatic 139, 3) := by decide +kernel
theorem dX10_function_119 : decode cX10_function 119 = .ok (.ireturn, 1) := by decide +kernel
noncomputable def fX10_function_34 (M : mv_M) : Option ((Int32 ⊕ String) × mv_M) :=
  some (.inr "java/lang/IndexOutOfBoundsException", M)
set_option maxRecDepth 100000 in
set_option maxHeartbeats 4000000 in
theorem zX10_function_34 {l : Launch} {d : Nat} {Q : (Int32 ⊕ String) → mv_M → Prop} (hd : 7 ≤ d) (hl : l.stackTraces = false) (M : mv_M) (h : mv_ok (fX10_function_34 M) Q) : mv l mX10_function d 4 34 [] [] M (mv_xI Q) := by
  unfold fX10_function_34 at h
  exact mv_throw hl hX10_124 sX10_126 dX10_function_34 dX10_function_37 dX10_function_38 dX10_function_40 dX10_function_43 rfl (by decide) (by omega) (by omega) (Nat.le_of_ble_eq_true rfl) (Or.inr ⟨_, rfl, h⟩)
noncomputable def fX10_function_44 (x1 : Int32) (x2 : Int32) (M : mv_M) : Option ((Int32 ⊕ String) × mv_M) :=
  if x2 = 0 then
    mv_getp (M.2.2 0 7) fun b8 =>
    mv_chk (mv_inb x1 12) <|
    some (.inl (M.1 (b8 + 2) x1.toNatClampNeg), M)
  else
    if x2 = 1 then
      mv_getp (M.2.2 0 7) fun b11 =>
      mv_chk (mv_inb x1 12) <|
      some (.inl (M.1 (b11 + 3) x1.toNatClampNeg), M)
    else
      if x2 = 2 then
        mv_getp (M.2.2 0 7) fun b14 =>
        mv_chk (mv_inb x1 12) <|
        mv_bind (fX6_demandsOf (M.1 (b14 + 4) x1.toNatClampNeg) M) fun r16 M17 =>
        some (.inl r16, M17)
      else
        mv_getp (M.2.2 0 7) fun b18 =>
        mv_bind (fX4_nameType b18 x1 (x2 - 3) M) fun r19 M20 =>
        mv_bind (fX6_demandsOf r19 M20) fun r21 M22 =>
        some (.inl r21, M22)
set_option maxRecDepth 100000 in
set_option maxHeartbeats 4000000 in
theorem zX10_function_44 {l : Launch} {d : Nat} {Q : (Int32 ⊕ String) → mv_M → Prop} (hd : 7 ≤ d) (hl : l.stackTraces = false) (x1 : Int32) (x2 : Int32) (M : mv_M) (h : mv_ok (fX10_function_44 x1 x2 M) Q) : mv l mX10_function d 4 44 [(0, .ref 0), (1, .int x1), (2, .int x2)] [] M (mv_xI Q) := by
  unfold fX10_function_44 at h
  refine mv_iload_n 2 dX10_function_44 rfl ?_
  by_cases z7 : x2 = 0
  · replace h := mv_ifT z7 h
    refine mv_tableIn (off := 27) 72 dX10_function_45 (by rw [z7]; decide) (by rw [z7]; decide) (by rw [z7]; rfl) (by decide) ?_
    refine mv_aload_n 0 dX10_function_72 rfl ?_
    obtain ⟨b8, eb8, hb8, h⟩ := mv_getpE h
    refine mv_getP b8 fX10_63 (by decide) rfl rfl eb8 dX10_function_73 ?_
    refine mv_getR (b8 + 2) fX10_129 (mv_pN (t := 0) hb8 (by decide)) (by rcases hb8 with rfl | rfl <;> rfl) rfl (by rcases hb8 with rfl | rfl <;> rfl) dX10_function_76 ?_
    refine mv_iload_n 1 dX10_function_79 rfl ?_
    obtain ⟨hi9, h⟩ := mv_chkE h
    refine mv_ild (mv_pN (t := 2) hb8 (by decide)) (by rcases hb8 with rfl | rfl <;> rfl) (mv_inE hi9) dX10_function_80 ?_
    exact mv_iret rfl dX10_function_81 (Or.inl ⟨_, rfl, h⟩)
  · replace h := mv_ifF z7 h
    by_cases z10 : x2 = 1
    · replace h := mv_ifT z10 h
      refine mv_tableIn (off := 37) 82 dX10_function_45 (by rw [z10]; decide) (by rw [z10]; decide) (by rw [z10]; rfl) (by decide) ?_
      refine mv_aload_n 0 dX10_function_82 rfl ?_
      obtain ⟨b11, eb11, hb11, h⟩ := mv_getpE h
      refine mv_getP b11 fX10_63 (by decide) rfl rfl eb11 dX10_function_83 ?_
      refine mv_getR (b11 + 3) fX10_133 (mv_pN (t := 0) hb11 (by decide)) (by rcases hb11 with rfl | rfl <;> rfl) rfl (by rcases hb11 with rfl | rfl <;> rfl) dX10_function_86 ?_
      refine mv_iload_n 1 dX10_function_89 rfl ?_
      obtain ⟨hi12, h⟩ := mv_chkE h
      refine mv_ild (mv_pN (t := 3) hb11 (by decide)) (by rcases hb11 with rfl | rfl <;> rfl) (mv_inE hi12) dX10_function_90 ?_
      exact mv_iret rfl dX10_function_91 (Or.inl ⟨_, rfl, h⟩)
    · replace h := mv_ifF z10 h
      by_cases z13 : x2 = 2
      · replace h := mv_ifT z13 h
        refine mv_tableIn (off := 47) 92 dX10_function_45 (by rw [z13]; decide) (by rw [z13]; decide) (by rw [z13]; rfl) (by decide) ?_
        refine mv_aload_n 0 dX10_function_92 rfl ?_
        obtain ⟨b14, eb14, hb14, h⟩ := mv_getpE h
        refine mv_getP b14 fX10_63 (by decide) rfl rfl eb14 dX10_function_93 ?_
        refine mv_getR (b14 + 4) fX10_136 (mv_pN (t := 0) hb14 (by decide)) (by rcases hb14 with rfl | rfl <;> rfl) rfl (by rcases hb14 with rfl | rfl <;> rfl) dX10_function_96 ?_
        refine mv_iload_n 1 dX10_function_99 rfl ?_
        obtain ⟨hi15, h⟩ := mv_chkE h
        refine mv_ild (mv_pN (t := 4) hb14 (by decide)) (by rcases hb14 with rfl | rfl <;> rfl) (mv_inE hi15) dX10_function_100 ?_
        refine mv_csI (As := [.int (M.1 (b14 + 4) x1.toNatClampNeg)]) (st := []) okX6_demandsOf lX10_139 rfl (Nat.le_of_ble_eq_true rfl) rfl (Nat.le_of_ble_eq_true rfl) dX10_function_101 (by omega) rfl (zX6_demandsOf (d := d - 1) (by omega) (M.1 (b14 + 4) x1.toNatClampNeg) M (mv_bindE h)) (fun r16 M17 h => ?_)
        exact mv_iret rfl dX10_function_104 (Or.inl ⟨_, rfl, h⟩)
      · replace h := mv_ifF z13 h
        refine mv_tableOut 105 dX10_function_45 (by have q0 := mv_ne 0 (v := 0) (by decide) z7; have q1 := mv_ne 1 (v := 1) (by decide) z10; have q2 := mv_ne 2 (v := 2) (by decide) z13; omega) (by decide) ?_
        refine mv_aload_n 0 dX10_function_105 rfl ?_
        obtain ⟨b18, eb18, hb18, h⟩ := mv_getpE h
        refine mv_getP b18 fX10_63 (by decide) rfl rfl eb18 dX10_function_106 ?_
        refine mv_iload_n 1 dX10_function_109 rfl ?_
        refine mv_iload_n 2 dX10_function_110 rfl ?_
        refine mv_iconst 3 dX10_function_111 (by decide) ?_
        refine mv_isub dX10_function_112 ?_
        refine mv_cvI (As := [.int x1, .int (x2 - 3)]) (st := []) okX4_nameType lX10_145 (mv_pN (t := 0) hb18 (by decide)) (by rcases hb18 with rfl | rfl <;> rfl) rfl rfl (Nat.le_of_ble_eq_true rfl) rfl (Nat.le_of_ble_eq_true rfl) dX10_function_113 (by omega) rfl (zX4_nameType (d := d - 1) (by omega) b18 x1 (x2 - 3) M hb18 (mv_bindE h)) (fun r19 M20 h => ?_)
        refine mv_csI (As := [.int r19]) (st := []) okX6_demandsOf lX10_139 rfl (Nat.le_of_ble_eq_true rfl) rfl (Nat.le_of_ble_eq_true rfl) dX10_function_116 (by omega) rfl (zX6_demandsOf (d := d - 1) (by omega) r19 M20 (mv_bindE h)) (fun r21 M22 h => ?_)
        exact mv_iret rfl dX10_function_119 (Or.inl ⟨_, rfl, h⟩)
noncomputable def fX10_function (a0 : Int32) (a1 : Int32) (M : mv_M) : Option ((Int32 ⊕ String) × mv_M) :=
  mv_getp (M.2.2 0 7) fun b1 =>
  mv_bind (fX4_hasFunction b1 a0 M) fun r2 M3 =>
  if r2 = 0 then
    fX10_function_34 M3
  else
    if a1 < 0 then
      fX10_function_34 M3
    else
      if a1 ≤ 2 then
        fX10_function_44 a0 a1 M3
      else
        mv_getp (M3.2.2 0 7) fun b4 =>
        mv_bind (fX4_hasParam b4 a0 (a1 - 3) M3) fun r5 M6 =>
        if r5 = 0 then
          fX10_function_34 M6
        else
          fX10_function_44 a0 a1 M6
set_option maxRecDepth 100000 in
set_option maxHeartbeats 4000000 in
theorem zX10_function {l : Launch} {d : Nat} {Q : (Int32 ⊕ String) → mv_M → Prop} (hd : 7 ≤ d) (hl : l.stackTraces = false) (a0 : Int32) (a1 : Int32) (M : mv_M) (h : mv_ok (fX10_function a0 a1 M) Q) : mv l mX10_function d 4 0 (lv_args 0 [.ref 0, .int a0, .int a1]) [] M (mv_xI Q) := by
  unfold fX10_function at h
  show mv l mX10_function d 4 0 [(0, .ref 0), (1, .int a0), (2, .int a1)] [] M (mv_xI Q)
  refine mv_aload_n 0 dX10_function_0 rfl ?_
  obtain ⟨b1, eb1, hb1, h⟩ := mv_getpE h
  refine mv_getP b1 fX10_63 (by decide) rfl rfl eb1 dX10_function_1 ?_
  refine mv_iload_n 1 dX10_function_4 rfl ?_
  refine mv_cvI (As := [.int a0]) (st := []) okX4_hasFunction lX10_116 (mv_pN (t := 0) hb1 (by decide)) (by rcases hb1 with rfl | rfl <;> rfl) rfl rfl (Nat.le_of_ble_eq_true rfl) rfl (Nat.le_of_ble_eq_true rfl) dX10_function_5 (by omega) rfl (zX4_hasFunction (d := d - 1) (by omega) b1 a0 M hb1 (mv_bindE h)) (fun r2 M3 h => ?_)
  refine mv_if_eq 34 dX10_function_8 (by decide) (fun z => ?_) (fun z => ?_)
  · replace h := mv_ifT z h
    refine mv_sub [] rfl ?_
    exact zX10_function_34 hd hl M3 h
  · replace h := mv_ifF z h
    refine mv_iload_n 2 dX10_function_11 rfl ?_
    refine mv_if_lt 34 dX10_function_12 (by decide) (fun z => ?_) (fun z => ?_)
    · replace h := mv_ifT z h
      refine mv_sub [] rfl ?_
      exact zX10_function_34 hd hl M3 h
    · replace h := mv_ifF z h
      refine mv_iload_n 2 dX10_function_15 rfl ?_
      refine mv_iconst 2 dX10_function_16 (by decide) ?_
      refine mv_icmp_le 44 dX10_function_17 (by decide) (fun z => ?_) (fun z => ?_)
      · replace h := mv_ifT z h
        refine mv_sub [0, 1, 2] rfl ?_
        exact zX10_function_44 hd hl a0 a1 M3 h
      · replace h := mv_ifF z h
        refine mv_aload_n 0 dX10_function_20 rfl ?_
        obtain ⟨b4, eb4, hb4, h⟩ := mv_getpE h
        refine mv_getP b4 fX10_63 (by decide) rfl rfl eb4 dX10_function_21 ?_
        refine mv_iload_n 1 dX10_function_24 rfl ?_
        refine mv_iload_n 2 dX10_function_25 rfl ?_
        refine mv_iconst 3 dX10_function_26 (by decide) ?_
        refine mv_isub dX10_function_27 ?_
        refine mv_cvI (As := [.int a0, .int (a1 - 3)]) (st := []) okX4_hasParam lX10_120 (mv_pN (t := 0) hb4 (by decide)) (by rcases hb4 with rfl | rfl <;> rfl) rfl rfl (Nat.le_of_ble_eq_true rfl) rfl (Nat.le_of_ble_eq_true rfl) dX10_function_28 (by omega) rfl (zX4_hasParam (d := d - 1) (by omega) b4 a0 (a1 - 3) M3 hb4 (mv_bindE h)) (fun r5 M6 h => ?_)
        refine mv_if_ne 44 dX10_function_31 (by decide) (fun z => ?_) (fun z => ?_)
        · replace h := mv_ifF z h
          refine mv_sub [0, 1, 2] rfl ?_
          exact zX10_function_44 hd hl a0 a1 M6 h
        · replace h := mv_ifT z h
          refine mv_sub [] rfl ?_
          exact zX10_function_34 hd hl M6 h
theorem dX10_rounds_0 : decode cX10_rounds 0 = .ok (.aload_n 0, 1) := by decide +kernel
theorem dX10_rounds_1 : decode cX10_rounds 1 = .ok (.getfield 63, 3) := by decide +kernel
theorem dX10_rounds_4 : decode cX10_rounds 4 = .ok (.getfield 110, 3) := by decide +kernel
theorem dX10_rounds_7 : decode cX10_rounds 7 = .ok (.ifCond .ne 13, 3) := by decide +kernel
theorem dX10_rounds_10 : decode cX10_rounds 10 = .ok (.new 74, 3) := by decide +kernel
theorem dX10_rounds_13 : decode cX10_rounds 13 = .ok (.dup, 1) := by decide +kernel
theorem dX10_rounds_14 : decode cX10_rounds 14 = .ok (.ldc 149, 2) := by decide +kernel
theorem dX10_rounds_16 : decode cX10_rounds 16 = .ok (.invokespecial 78, 3) := by decide +kernel
theorem dX10_rounds_19 : decode cX10_rounds 19 = .ok (.athrow, 1) := by decide +kernel
theorem dX10_rounds_20 : decode cX10_rounds 20 = .ok (.aload_n 0, 1) := by decide +kernel
theorem dX10_rounds_21 : decode cX10_rounds 21 = .ok (.getfield 42, 3) := by decide +kernel
theorem dX10_rounds_24 : decode cX10_rounds 24 = .ok (.aload_n 0, 1) := by decide +kernel
theorem dX10_rounds_25 : decode cX10_rounds 25 = .ok (.getfield 63, 3) := by decide +kernel
theorem dX10_rounds_28 : decode cX10_rounds 28 = .ok (.invokevirtual 151, 3) := by decide +kernel
theorem dX10_rounds_31 : decode cX10_rounds 31 = .ok (.ireturn, 1) := by decide +kernel
noncomputable def fX10_rounds (M : mv_M) : Option ((Int32 ⊕ String) × mv_M) :=
  mv_getp (M.2.2 0 7) fun b1 =>
  if (M.1 b1 0) = 0 then
    some (.inr "java/lang/IllegalStateException", M)
  else
    mv_getp (M.2.2 0 7) fun b2 =>
    mv_bind (fX5_settle b2 M) fun r3 M4 =>
    some (.inl r3, M4)
set_option maxRecDepth 100000 in
set_option maxHeartbeats 4000000 in
theorem zX10_rounds {l : Launch} {d : Nat} {Q : (Int32 ⊕ String) → mv_M → Prop} (hd : 341 ≤ d) (hl : l.stackTraces = false) (M : mv_M) (h : mv_ok (fX10_rounds M) Q) : mv l mX10_rounds d 4 0 (lv_args 0 [.ref 0]) [] M (mv_xI Q) := by
  unfold fX10_rounds at h
  show mv l mX10_rounds d 4 0 [(0, .ref 0)] [] M (mv_xI Q)
  refine mv_aload_n 0 dX10_rounds_0 rfl ?_
  obtain ⟨b1, eb1, hb1, h⟩ := mv_getpE h
  refine mv_getP b1 fX10_63 (by decide) rfl rfl eb1 dX10_rounds_1 ?_
  refine mv_getI fX10_110 (mv_pN (t := 0) hb1 (by decide)) (by rcases hb1 with rfl | rfl <;> rfl) rfl dX10_rounds_4 ?_
  refine mv_if_ne 20 dX10_rounds_7 (by decide) (fun z => ?_) (fun z => ?_)
  · replace h := mv_ifF z h
    refine mv_aload_n 0 dX10_rounds_20 rfl ?_
    refine mv_getR 5 fX10_42 (by decide) rfl rfl rfl dX10_rounds_21 ?_
    refine mv_aload_n 0 dX10_rounds_24 rfl ?_
    obtain ⟨b2, eb2, hb2, h⟩ := mv_getpE h
    refine mv_getP b2 fX10_63 (by decide) rfl rfl eb2 dX10_rounds_25 ?_
    refine mv_cvI (As := [.ref b2]) (st := []) okX5_settle lX10_151 (by decide) rfl rfl rfl (Nat.le_of_ble_eq_true rfl) rfl (Nat.le_of_ble_eq_true rfl) dX10_rounds_28 (by omega) rfl (zX5_settle (d := d - 1) (by omega) b2 M hb2 (mv_bindE h)) (fun r3 M4 h => ?_)
    exact mv_iret rfl dX10_rounds_31 (Or.inl ⟨_, rfl, h⟩)
  · replace h := mv_ifT z h
    exact mv_throw hl hX10_74 sX10_149 dX10_rounds_10 dX10_rounds_13 dX10_rounds_14 dX10_rounds_16 dX10_rounds_19 rfl (by decide) (by omega) (by omega) (Nat.le_of_ble_eq_true rfl) (Or.inr ⟨_, rfl, h⟩)
theorem dX10_requireRows_0 : decode cX10_requireRows 0 = .ok (.aload_n 0, 1) := by decide +kernel
theorem dX10_requireRows_1 : decode cX10_requireRows 1 = .ok (.getfield 42, 3) := by decide +kernel
theorem dX10_requireRows_4 : decode cX10_requireRows 4 = .ok (.getfield 250, 3) := by decide +kernel
theorem dX10_requireRows_7 : decode cX10_requireRows 7 = .ok (.ifCond .ne 13, 3) := by decide +kernel
theorem dX10_requireRows_10 : decode cX10_requireRows 10 = .ok (.new 74, 3) := by decide +kernel
theorem dX10_requireRows_13 : decode cX10_requireRows 13 = .ok (.dup, 1) := by decide +kernel
theorem dX10_requireRows_14 : decode cX10_requireRows 14 = .ok (.ldc 254, 2) := by decide +kernel
theorem dX10_requireRows_16 : decode cX10_requireRows 16 = .ok (.invokespecial 78, 3) := by decide +kernel
theorem dX10_requireRows_19 : decode cX10_requireRows 19 = .ok (.athrow, 1) := by decide +kernel
theorem dX10_requireRows_20 : decode cX10_requireRows 20 = .ok (.return_, 1) := by decide +kernel
noncomputable def fX10_requireRows (M : mv_M) : Option ((Unit ⊕ String) × mv_M) :=
  if (M.1 5 0) = 0 then
    some (.inr "java/lang/IllegalStateException", M)
  else
    some (.inl (), M)
set_option maxRecDepth 100000 in
set_option maxHeartbeats 4000000 in
theorem zX10_requireRows {l : Launch} {d : Nat} {Q : (Unit ⊕ String) → mv_M → Prop} (hd : 7 ≤ d) (hl : l.stackTraces = false) (M : mv_M) (h : mv_ok (fX10_requireRows M) Q) : mv l mX10_requireRows d 1 0 (lv_args 0 [.ref 0]) [] M (mv_xV Q) := by
  unfold fX10_requireRows at h
  show mv l mX10_requireRows d 1 0 [(0, .ref 0)] [] M (mv_xV Q)
  refine mv_aload_n 0 dX10_requireRows_0 rfl ?_
  refine mv_getR 5 fX10_42 (by decide) rfl rfl rfl dX10_requireRows_1 ?_
  refine mv_getI fX10_250 (by decide) rfl rfl dX10_requireRows_4 ?_
  refine mv_if_ne 20 dX10_requireRows_7 (by decide) (fun z => ?_) (fun z => ?_)
  · replace h := mv_ifF z h
    exact mv_vret rfl dX10_requireRows_20 (Or.inl ⟨rfl, h⟩)
  · replace h := mv_ifT z h
    exact mv_throw hl hX10_74 sX10_254 dX10_requireRows_10 dX10_requireRows_13 dX10_requireRows_14 dX10_requireRows_16 dX10_requireRows_19 rfl (by decide) (by omega) (by omega) (Nat.le_of_ble_eq_true rfl) (Or.inr ⟨_, rfl, h⟩)
theorem dX10_requireRow_0 : decode cX10_requireRow 0 = .ok (.aload_n 0, 1) := by decide +kernel
theorem dX10_requireRow_1 : decode cX10_requireRow 1 = .ok (.getfield 63, 3) := by decide +kernel
theorem dX10_requireRow_4 : decode cX10_requireRow 4 = .ok (.iload_n 1, 1) := by decide +kernel
theorem dX10_requireRow_5 : decode cX10_requireRow 5 = .ok (.invokevirtual 116, 3) := by decide +kernel
theorem dX10_requireRow_8 : decode cX10_requireRow 8 = .ok (.ifCond .eq 24, 3) := by decide +kernel
theorem dX10_requireRow_11 : decode cX10_requireRow 11 = .ok (.iload_n 2, 1) := by decide +kernel
theorem dX10_requireRow_12 : decode cX10_requireRow 12 = .ok (.iconst 1, 1) := by decide +kernel
theorem dX10_requireRow_13 : decode cX10_requireRow 13 = .ok (.if_icmp .lt 19, 3) := by decide +kernel
theorem dX10_requireRow_16 : decode cX10_requireRow 16 = .ok (.iload_n 2, 1) := by decide +kernel
theorem dX10_requireRow_17 : decode cX10_requireRow 17 = .ok (.aload_n 0, 1) := by decide +kernel
theorem dX10_requireRow_18 : decode cX10_requireRow 18 = .ok (.getfield 63, 3) := by decide +kernel
theorem dX10_requireRow_21 : decode cX10_requireRow 21 = .ok (.getfield 136, 3) := by decide +kernel
theorem dX10_requireRow_24 : decode cX10_requireRow 24 = .ok (.iload_n 1, 1) := by decide +kernel
theorem dX10_requireRow_25 : decode cX10_requireRow 25 = .ok (.iaload, 1) := by decide +kernel
theorem dX10_requireRow_26 : decode cX10_requireRow 26 = .ok (.invokestatic 139, 3) := by decide +kernel
theorem dX10_requireRow_29 : decode cX10_requireRow 29 = .ok (.if_icmp .lt 14, 3) := by decide +kernel
theorem dX10_requireRow_32 : decode cX10_requireRow 32 = .ok (.new 124, 3) := by decide +kernel
theorem dX10_requireRow_35 : decode cX10_requireRow 35 = .ok (.dup, 1) := by decide +kernel
theorem dX10_requireRow_36 : decode cX10_requireRow 36 = .ok (.ldc_w 256, 3) := by decide +kernel
theorem dX10_requireRow_39 : decode cX10_requireRow 39 = .ok (.invokespecial 128, 3) := by decide +kernel
theorem dX10_requireRow_42 : decode cX10_requireRow 42 = .ok (.athrow, 1) := by decide +kernel
theorem dX10_requireRow_43 : decode cX10_requireRow 43 = .ok (.return_, 1) := by decide +kernel
noncomputable def fX10_requireRow_32 (M : mv_M) : Option ((Unit ⊕ String) × mv_M) :=
  some (.inr "java/lang/IndexOutOfBoundsException", M)
set_option maxRecDepth 100000 in
set_option maxHeartbeats 4000000 in
theorem zX10_requireRow_32 {l : Launch} {d : Nat} {Q : (Unit ⊕ String) → mv_M → Prop} (hd : 7 ≤ d) (hl : l.stackTraces = false) (M : mv_M) (h : mv_ok (fX10_requireRow_32 M) Q) : mv l mX10_requireRow d 1 32 [] [] M (mv_xV Q) := by
  unfold fX10_requireRow_32 at h
  exact mv_throwW hl hX10_124 sX10_256 dX10_requireRow_32 dX10_requireRow_35 dX10_requireRow_36 dX10_requireRow_39 dX10_requireRow_42 rfl (by decide) (by omega) (by omega) (Nat.le_of_ble_eq_true rfl) (Or.inr ⟨_, rfl, h⟩)
noncomputable def fX10_requireRow (a0 : Int32) (a1 : Int32) (M : mv_M) : Option ((Unit ⊕ String) × mv_M) :=
  mv_getp (M.2.2 0 7) fun b1 =>
  mv_bind (fX4_hasFunction b1 a0 M) fun r2 M3 =>
  if r2 = 0 then
    fX10_requireRow_32 M3
  else
    if a1 < 1 then
      fX10_requireRow_32 M3
    else
      mv_getp (M3.2.2 0 7) fun b4 =>
      mv_chk (mv_inb a0 12) <|
      mv_bind (fX6_demandsOf (M3.1 (b4 + 4) a0.toNatClampNeg) M3) fun r6 M7 =>
      if a1 < r6 then
        some (.inl (), M7)
      else
        fX10_requireRow_32 M7
set_option maxRecDepth 100000 in
set_option maxHeartbeats 4000000 in
theorem zX10_requireRow {l : Launch} {d : Nat} {Q : (Unit ⊕ String) → mv_M → Prop} (hd : 7 ≤ d) (hl : l.stackTraces = false) (a0 : Int32) (a1 : Int32) (M : mv_M) (h : mv_ok (fX10_requireRow a0 a1 M) Q) : mv l mX10_requireRow d 1 0 (lv_args 0 [.ref 0, .int a0, .int a1]) [] M (mv_xV Q) := by
  unfold fX10_requireRow at h
  show mv l mX10_requireRow d 1 0 [(0, .ref 0), (1, .int a0), (2, .int a1)] [] M (mv_xV Q)
  refine mv_aload_n 0 dX10_requireRow_0 rfl ?_
  obtain ⟨b1, eb1, hb1, h⟩ := mv_getpE h
  refine mv_getP b1 fX10_63 (by decide) rfl rfl eb1 dX10_requireRow_1 ?_
  refine mv_iload_n 1 dX10_requireRow_4 rfl ?_
  refine mv_cvI (As := [.int a0]) (st := []) okX4_hasFunction lX10_116 (mv_pN (t := 0) hb1 (by decide)) (by rcases hb1 with rfl | rfl <;> rfl) rfl rfl (Nat.le_of_ble_eq_true rfl) rfl (Nat.le_of_ble_eq_true rfl) dX10_requireRow_5 (by omega) rfl (zX4_hasFunction (d := d - 1) (by omega) b1 a0 M hb1 (mv_bindE h)) (fun r2 M3 h => ?_)
  refine mv_if_eq 32 dX10_requireRow_8 (by decide) (fun z => ?_) (fun z => ?_)
  · replace h := mv_ifT z h
    refine mv_sub [] rfl ?_
    exact zX10_requireRow_32 hd hl M3 h
  · replace h := mv_ifF z h
    refine mv_iload_n 2 dX10_requireRow_11 rfl ?_
    refine mv_iconst 1 dX10_requireRow_12 (by decide) ?_
    refine mv_icmp_lt 32 dX10_requireRow_13 (by decide) (fun z => ?_) (fun z => ?_)
    · replace h := mv_ifT z h
      refine mv_sub [] rfl ?_
      exact zX10_requireRow_32 hd hl M3 h
    · replace h := mv_ifF z h
      refine mv_iload_n 2 dX10_requireRow_16 rfl ?_
      refine mv_aload_n 0 dX10_requireRow_17 rfl ?_
      obtain ⟨b4, eb4, hb4, h⟩ := mv_getpE h
      refine mv_getP b4 fX10_63 (by decide) rfl rfl eb4 dX10_requireRow_18 ?_
      refine mv_getR (b4 + 4) fX10_136 (mv_pN (t := 0) hb4 (by decide)) (by rcases hb4 with rfl | rfl <;> rfl) rfl (by rcases hb4 with rfl | rfl <;> rfl) dX10_requireRow_21 ?_
      refine mv_iload_n 1 dX10_requireRow_24 rfl ?_
      obtain ⟨hi5, h⟩ := mv_chkE h
      refine mv_ild (mv_pN (t := 4) hb4 (by decide)) (by rcases hb4 with rfl | rfl <;> rfl) (mv_inE hi5) dX10_requireRow_25 ?_
      refine mv_csI (As := [.int (M3.1 (b4 + 4) a0.toNatClampNeg)]) (st := [.int a1]) okX6_demandsOf lX10_139 rfl (Nat.le_of_ble_eq_true rfl) rfl (Nat.le_of_ble_eq_true rfl) dX10_requireRow_26 (by omega) rfl (zX6_demandsOf (d := d - 1) (by omega) (M3.1 (b4 + 4) a0.toNatClampNeg) M3 (mv_bindE h)) (fun r6 M7 h => ?_)
      refine mv_icmp_lt 43 dX10_requireRow_29 (by decide) (fun z => ?_) (fun z => ?_)
      · replace h := mv_ifT z h
        exact mv_vret rfl dX10_requireRow_43 (Or.inl ⟨rfl, h⟩)
      · replace h := mv_ifF z h
        refine mv_sub [] rfl ?_
        exact zX10_requireRow_32 hd hl M7 h
theorem dX10_dead_0 : decode cX10_dead 0 = .ok (.aload_n 0, 1) := by decide +kernel
theorem dX10_dead_1 : decode cX10_dead 1 = .ok (.invokevirtual 155, 3) := by decide +kernel
theorem dX10_dead_4 : decode cX10_dead 4 = .ok (.aload_n 0, 1) := by decide +kernel
theorem dX10_dead_5 : decode cX10_dead 5 = .ok (.iload_n 1, 1) := by decide +kernel
theorem dX10_dead_6 : decode cX10_dead 6 = .ok (.iload_n 2, 1) := by decide +kernel
theorem dX10_dead_7 : decode cX10_dead 7 = .ok (.invokevirtual 158, 3) := by decide +kernel
theorem dX10_dead_10 : decode cX10_dead 10 = .ok (.aload_n 0, 1) := by decide +kernel
theorem dX10_dead_11 : decode cX10_dead 11 = .ok (.getfield 42, 3) := by decide +kernel
theorem dX10_dead_14 : decode cX10_dead 14 = .ok (.iload_n 1, 1) := by decide +kernel
theorem dX10_dead_15 : decode cX10_dead 15 = .ok (.iload_n 2, 1) := by decide +kernel
theorem dX10_dead_16 : decode cX10_dead 16 = .ok (.invokevirtual 162, 3) := by decide +kernel
theorem dX10_dead_19 : decode cX10_dead 19 = .ok (.ireturn, 1) := by decide +kernel
noncomputable def fX10_dead (a0 : Int32) (a1 : Int32) (M : mv_M) : Option ((Int32 ⊕ String) × mv_M) :=
  mv_bindx (fX10_requireRows M) fun _ M1 =>
  mv_bindx (fX10_requireRow a0 a1 M1) fun _ M2 =>
  mv_bind (fX5_isDead a0 a1 M2) fun r3 M4 =>
  mv_chk (mv_bt r3) <|
  some (.inl r3, M4)
set_option maxRecDepth 100000 in
set_option maxHeartbeats 4000000 in
theorem zX10_dead {l : Launch} {d : Nat} {Q : (Int32 ⊕ String) → mv_M → Prop} (hd : 8 ≤ d) (hl : l.stackTraces = false) (a0 : Int32) (a1 : Int32) (M : mv_M) (h : mv_ok (fX10_dead a0 a1 M) Q) : mv l mX10_dead d 4 0 (lv_args 0 [.ref 0, .int a0, .int a1]) [] M (mv_xI Q) := by
  unfold fX10_dead at h
  show mv l mX10_dead d 4 0 [(0, .ref 0), (1, .int a0), (2, .int a1)] [] M (mv_xI Q)
  refine mv_aload_n 0 dX10_dead_0 rfl ?_
  refine mv_cvx (k := 3) (As := []) (st := []) okX10_requireRows lX10_155 (by decide) rfl rfl rfl (Nat.le_of_ble_eq_true rfl) rfl (Nat.le_of_ble_eq_true rfl) dX10_dead_1 (by omega) rfl (zX10_requireRows (d := d - 1) (by omega) hl M (mv_bindxE h)) (fun E M9 hq => Or.inr ⟨E, rfl, hq.2 E rfl⟩) (fun M1 hq => ?_)
  replace h := hq.1 () rfl
  clear hq
  refine mv_aload_n 0 dX10_dead_4 rfl ?_
  refine mv_iload_n 1 dX10_dead_5 rfl ?_
  refine mv_iload_n 2 dX10_dead_6 rfl ?_
  refine mv_cvx (k := 2) (As := [.int a0, .int a1]) (st := []) okX10_requireRow lX10_158 (by decide) rfl rfl rfl (Nat.le_of_ble_eq_true rfl) rfl (Nat.le_of_ble_eq_true rfl) dX10_dead_7 (by omega) rfl (zX10_requireRow (d := d - 1) (by omega) hl a0 a1 M1 (mv_bindxE h)) (fun E M9 hq => Or.inr ⟨E, rfl, hq.2 E rfl⟩) (fun M2 hq => ?_)
  replace h := hq.1 () rfl
  clear hq
  refine mv_aload_n 0 dX10_dead_10 rfl ?_
  refine mv_getR 5 fX10_42 (by decide) rfl rfl rfl dX10_dead_11 ?_
  refine mv_iload_n 1 dX10_dead_14 rfl ?_
  refine mv_iload_n 2 dX10_dead_15 rfl ?_
  refine mv_cvI (As := [.int a0, .int a1]) (st := []) okX5_isDead lX10_162 (by decide) rfl rfl rfl (Nat.le_of_ble_eq_true rfl) rfl (Nat.le_of_ble_eq_true rfl) dX10_dead_16 (by omega) rfl (zX5_isDead (d := d - 1) (by omega) a0 a1 M2 (mv_bindE h)) (fun r3 M4 h => ?_)
  obtain ⟨hz5, h⟩ := mv_chkE h
  exact mv_zret (mv_btE hz5) rfl dX10_dead_19 (Or.inl ⟨_, rfl, h⟩)
theorem dX10_requireParam_0 : decode cX10_requireParam 0 = .ok (.aload_n 0, 1) := by decide +kernel
theorem dX10_requireParam_1 : decode cX10_requireParam 1 = .ok (.getfield 63, 3) := by decide +kernel
theorem dX10_requireParam_4 : decode cX10_requireParam 4 = .ok (.iload_n 1, 1) := by decide +kernel
theorem dX10_requireParam_5 : decode cX10_requireParam 5 = .ok (.iload_n 2, 1) := by decide +kernel
theorem dX10_requireParam_6 : decode cX10_requireParam 6 = .ok (.invokevirtual 120, 3) := by decide +kernel
theorem dX10_requireParam_9 : decode cX10_requireParam 9 = .ok (.ifCond .ne 14, 3) := by decide +kernel
theorem dX10_requireParam_12 : decode cX10_requireParam 12 = .ok (.new 124, 3) := by decide +kernel
theorem dX10_requireParam_15 : decode cX10_requireParam 15 = .ok (.dup, 1) := by decide +kernel
theorem dX10_requireParam_16 : decode cX10_requireParam 16 = .ok (.ldc_w 258, 3) := by decide +kernel
theorem dX10_requireParam_19 : decode cX10_requireParam 19 = .ok (.invokespecial 128, 3) := by decide +kernel
theorem dX10_requireParam_22 : decode cX10_requireParam 22 = .ok (.athrow, 1) := by decide +kernel
theorem dX10_requireParam_23 : decode cX10_requireParam 23 = .ok (.return_, 1) := by decide +kernel
noncomputable def fX10_requireParam (a0 : Int32) (a1 : Int32) (M : mv_M) : Option ((Unit ⊕ String) × mv_M) :=
  mv_getp (M.2.2 0 7) fun b1 =>
  mv_bind (fX4_hasParam b1 a0 a1 M) fun r2 M3 =>
  if r2 = 0 then
    some (.inr "java/lang/IndexOutOfBoundsException", M3)
  else
    some (.inl (), M3)
set_option maxRecDepth 100000 in
set_option maxHeartbeats 4000000 in
theorem zX10_requireParam {l : Launch} {d : Nat} {Q : (Unit ⊕ String) → mv_M → Prop} (hd : 7 ≤ d) (hl : l.stackTraces = false) (a0 : Int32) (a1 : Int32) (M : mv_M) (h : mv_ok (fX10_requireParam a0 a1 M) Q) : mv l mX10_requireParam d 1 0 (lv_args 0 [.ref 0, .int a0, .int a1]) [] M (mv_xV Q) := by
  unfold fX10_requireParam at h
  show mv l mX10_requireParam d 1 0 [(0, .ref 0), (1, .int a0), (2, .int a1)] [] M (mv_xV Q)
  refine mv_aload_n 0 dX10_requireParam_0 rfl ?_
  obtain ⟨b1, eb1, hb1, h⟩ := mv_getpE h
  refine mv_getP b1 fX10_63 (by decide) rfl rfl eb1 dX10_requireParam_1 ?_
  refine mv_iload_n 1 dX10_requireParam_4 rfl ?_
  refine mv_iload_n 2 dX10_requireParam_5 rfl ?_
  refine mv_cvI (As := [.int a0, .int a1]) (st := []) okX4_hasParam lX10_120 (mv_pN (t := 0) hb1 (by decide)) (by rcases hb1 with rfl | rfl <;> rfl) rfl rfl (Nat.le_of_ble_eq_true rfl) rfl (Nat.le_of_ble_eq_true rfl) dX10_requireParam_6 (by omega) rfl (zX4_hasParam (d := d - 1) (by omega) b1 a0 a1 M hb1 (mv_bindE h)) (fun r2 M3 h => ?_)
  refine mv_if_ne 23 dX10_requireParam_9 (by decide) (fun z => ?_) (fun z => ?_)
  · replace h := mv_ifF z h
    exact mv_vret rfl dX10_requireParam_23 (Or.inl ⟨rfl, h⟩)
  · replace h := mv_ifT z h
    exact mv_throwW hl hX10_124 sX10_258 dX10_requireParam_12 dX10_requireParam_15 dX10_requireParam_16 dX10_requireParam_19 dX10_requireParam_22 rfl (by decide) (by omega) (by omega) (Nat.le_of_ble_eq_true rfl) (Or.inr ⟨_, rfl, h⟩)
theorem dX10_asks_0 : decode cX10_asks 0 = .ok (.aload_n 0, 1) := by decide +kernel
theorem dX10_asks_1 : decode cX10_asks 1 = .ok (.invokevirtual 155, 3) := by decide +kernel
theorem dX10_asks_4 : decode cX10_asks 4 = .ok (.aload_n 0, 1) := by decide +kernel
theorem dX10_asks_5 : decode cX10_asks 5 = .ok (.iload_n 1, 1) := by decide +kernel
theorem dX10_asks_6 : decode cX10_asks 6 = .ok (.iload_n 2, 1) := by decide +kernel
theorem dX10_asks_7 : decode cX10_asks 7 = .ok (.invokevirtual 158, 3) := by decide +kernel
theorem dX10_asks_10 : decode cX10_asks 10 = .ok (.aload_n 0, 1) := by decide +kernel
theorem dX10_asks_11 : decode cX10_asks 11 = .ok (.iload_n 1, 1) := by decide +kernel
theorem dX10_asks_12 : decode cX10_asks 12 = .ok (.iload_n 3, 1) := by decide +kernel
theorem dX10_asks_13 : decode cX10_asks 13 = .ok (.invokevirtual 165, 3) := by decide +kernel
theorem dX10_asks_16 : decode cX10_asks 16 = .ok (.aload_n 0, 1) := by decide +kernel
theorem dX10_asks_17 : decode cX10_asks 17 = .ok (.getfield 42, 3) := by decide +kernel
theorem dX10_asks_20 : decode cX10_asks 20 = .ok (.iload_n 1, 1) := by decide +kernel
theorem dX10_asks_21 : decode cX10_asks 21 = .ok (.iload_n 2, 1) := by decide +kernel
theorem dX10_asks_22 : decode cX10_asks 22 = .ok (.iload_n 3, 1) := by decide +kernel
theorem dX10_asks_23 : decode cX10_asks 23 = .ok (.invokevirtual 168, 3) := by decide +kernel
theorem dX10_asks_26 : decode cX10_asks 26 = .ok (.ireturn, 1) := by decide +kernel
noncomputable def fX10_asks (a0 : Int32) (a1 : Int32) (a2 : Int32) (M : mv_M) : Option ((Int32 ⊕ String) × mv_M) :=
  mv_bindx (fX10_requireRows M) fun _ M1 =>
  mv_bindx (fX10_requireRow a0 a1 M1) fun _ M2 =>
  mv_bindx (fX10_requireParam a0 a2 M2) fun _ M3 =>
  mv_bind (fX5_demandOf a0 a1 a2 M3) fun r4 M5 =>
  some (.inl r4, M5)
set_option maxRecDepth 100000 in
set_option maxHeartbeats 4000000 in
theorem zX10_asks {l : Launch} {d : Nat} {Q : (Int32 ⊕ String) → mv_M → Prop} (hd : 8 ≤ d) (hl : l.stackTraces = false) (a0 : Int32) (a1 : Int32) (a2 : Int32) (M : mv_M) (h : mv_ok (fX10_asks a0 a1 a2 M) Q) : mv l mX10_asks d 4 0 (lv_args 0 [.ref 0, .int a0, .int a1, .int a2]) [] M (mv_xI Q) := by
  unfold fX10_asks at h
  show mv l mX10_asks d 4 0 [(0, .ref 0), (1, .int a0), (2, .int a1), (3, .int a2)] [] M (mv_xI Q)
  refine mv_aload_n 0 dX10_asks_0 rfl ?_
  refine mv_cvx (k := 3) (As := []) (st := []) okX10_requireRows lX10_155 (by decide) rfl rfl rfl (Nat.le_of_ble_eq_true rfl) rfl (Nat.le_of_ble_eq_true rfl) dX10_asks_1 (by omega) rfl (zX10_requireRows (d := d - 1) (by omega) hl M (mv_bindxE h)) (fun E M9 hq => Or.inr ⟨E, rfl, hq.2 E rfl⟩) (fun M1 hq => ?_)
  replace h := hq.1 () rfl
  clear hq
  refine mv_aload_n 0 dX10_asks_4 rfl ?_
  refine mv_iload_n 1 dX10_asks_5 rfl ?_
  refine mv_iload_n 2 dX10_asks_6 rfl ?_
  refine mv_cvx (k := 2) (As := [.int a0, .int a1]) (st := []) okX10_requireRow lX10_158 (by decide) rfl rfl rfl (Nat.le_of_ble_eq_true rfl) rfl (Nat.le_of_ble_eq_true rfl) dX10_asks_7 (by omega) rfl (zX10_requireRow (d := d - 1) (by omega) hl a0 a1 M1 (mv_bindxE h)) (fun E M9 hq => Or.inr ⟨E, rfl, hq.2 E rfl⟩) (fun M2 hq => ?_)
  replace h := hq.1 () rfl
  clear hq
  refine mv_aload_n 0 dX10_asks_10 rfl ?_
  refine mv_iload_n 1 dX10_asks_11 rfl ?_
  refine mv_iload_n 3 dX10_asks_12 rfl ?_
  refine mv_cvx (k := 1) (As := [.int a0, .int a2]) (st := []) okX10_requireParam lX10_165 (by decide) rfl rfl rfl (Nat.le_of_ble_eq_true rfl) rfl (Nat.le_of_ble_eq_true rfl) dX10_asks_13 (by omega) rfl (zX10_requireParam (d := d - 1) (by omega) hl a0 a2 M2 (mv_bindxE h)) (fun E M9 hq => Or.inr ⟨E, rfl, hq.2 E rfl⟩) (fun M3 hq => ?_)
  replace h := hq.1 () rfl
  clear hq
  refine mv_aload_n 0 dX10_asks_16 rfl ?_
  refine mv_getR 5 fX10_42 (by decide) rfl rfl rfl dX10_asks_17 ?_
  refine mv_iload_n 1 dX10_asks_20 rfl ?_
  refine mv_iload_n 2 dX10_asks_21 rfl ?_
  refine mv_iload_n 3 dX10_asks_22 rfl ?_
  refine mv_cvI (As := [.int a0, .int a1, .int a2]) (st := []) okX5_demandOf lX10_168 (by decide) rfl rfl rfl (Nat.le_of_ble_eq_true rfl) rfl (Nat.le_of_ble_eq_true rfl) dX10_asks_23 (by omega) rfl (zX5_demandOf (d := d - 1) (by omega) a0 a1 a2 M3 (mv_bindE h)) (fun r4 M5 h => ?_)
  exact mv_iret rfl dX10_asks_26 (Or.inl ⟨_, rfl, h⟩)
theorem dX10_strict_0 : decode cX10_strict 0 = .ok (.aload_n 0, 1) := by decide +kernel
theorem dX10_strict_1 : decode cX10_strict 1 = .ok (.invokevirtual 155, 3) := by decide +kernel
theorem dX10_strict_4 : decode cX10_strict 4 = .ok (.aload_n 0, 1) := by decide +kernel
theorem dX10_strict_5 : decode cX10_strict 5 = .ok (.iload_n 1, 1) := by decide +kernel
theorem dX10_strict_6 : decode cX10_strict 6 = .ok (.iload_n 2, 1) := by decide +kernel
theorem dX10_strict_7 : decode cX10_strict 7 = .ok (.invokevirtual 165, 3) := by decide +kernel
theorem dX10_strict_10 : decode cX10_strict 10 = .ok (.aload_n 0, 1) := by decide +kernel
theorem dX10_strict_11 : decode cX10_strict 11 = .ok (.getfield 42, 3) := by decide +kernel
theorem dX10_strict_14 : decode cX10_strict 14 = .ok (.iload_n 1, 1) := by decide +kernel
theorem dX10_strict_15 : decode cX10_strict 15 = .ok (.iconst 1, 1) := by decide +kernel
theorem dX10_strict_16 : decode cX10_strict 16 = .ok (.iload_n 2, 1) := by decide +kernel
theorem dX10_strict_17 : decode cX10_strict 17 = .ok (.invokevirtual 168, 3) := by decide +kernel
theorem dX10_strict_20 : decode cX10_strict 20 = .ok (.ifCond .eq 7, 3) := by decide +kernel
theorem dX10_strict_23 : decode cX10_strict 23 = .ok (.iconst 1, 1) := by decide +kernel
theorem dX10_strict_24 : decode cX10_strict 24 = .ok (.goto 4, 3) := by decide +kernel
theorem dX10_strict_27 : decode cX10_strict 27 = .ok (.iconst 0, 1) := by decide +kernel
theorem dX10_strict_28 : decode cX10_strict 28 = .ok (.ireturn, 1) := by decide +kernel
noncomputable def fX10_strict (a0 : Int32) (a1 : Int32) (M : mv_M) : Option ((Int32 ⊕ String) × mv_M) :=
  mv_bindx (fX10_requireRows M) fun _ M1 =>
  mv_bindx (fX10_requireParam a0 a1 M1) fun _ M2 =>
  mv_bind (fX5_demandOf a0 1 a1 M2) fun r3 M4 =>
  if r3 = 0 then
    some (.inl 0, M4)
  else
    some (.inl 1, M4)
set_option maxRecDepth 100000 in
set_option maxHeartbeats 4000000 in
theorem zX10_strict {l : Launch} {d : Nat} {Q : (Int32 ⊕ String) → mv_M → Prop} (hd : 8 ≤ d) (hl : l.stackTraces = false) (a0 : Int32) (a1 : Int32) (M : mv_M) (h : mv_ok (fX10_strict a0 a1 M) Q) : mv l mX10_strict d 4 0 (lv_args 0 [.ref 0, .int a0, .int a1]) [] M (mv_xI Q) := by
  unfold fX10_strict at h
  show mv l mX10_strict d 4 0 [(0, .ref 0), (1, .int a0), (2, .int a1)] [] M (mv_xI Q)
  refine mv_aload_n 0 dX10_strict_0 rfl ?_
  refine mv_cvx (k := 3) (As := []) (st := []) okX10_requireRows lX10_155 (by decide) rfl rfl rfl (Nat.le_of_ble_eq_true rfl) rfl (Nat.le_of_ble_eq_true rfl) dX10_strict_1 (by omega) rfl (zX10_requireRows (d := d - 1) (by omega) hl M (mv_bindxE h)) (fun E M9 hq => Or.inr ⟨E, rfl, hq.2 E rfl⟩) (fun M1 hq => ?_)
  replace h := hq.1 () rfl
  clear hq
  refine mv_aload_n 0 dX10_strict_4 rfl ?_
  refine mv_iload_n 1 dX10_strict_5 rfl ?_
  refine mv_iload_n 2 dX10_strict_6 rfl ?_
  refine mv_cvx (k := 2) (As := [.int a0, .int a1]) (st := []) okX10_requireParam lX10_165 (by decide) rfl rfl rfl (Nat.le_of_ble_eq_true rfl) rfl (Nat.le_of_ble_eq_true rfl) dX10_strict_7 (by omega) rfl (zX10_requireParam (d := d - 1) (by omega) hl a0 a1 M1 (mv_bindxE h)) (fun E M9 hq => Or.inr ⟨E, rfl, hq.2 E rfl⟩) (fun M2 hq => ?_)
  replace h := hq.1 () rfl
  clear hq
  refine mv_aload_n 0 dX10_strict_10 rfl ?_
  refine mv_getR 5 fX10_42 (by decide) rfl rfl rfl dX10_strict_11 ?_
  refine mv_iload_n 1 dX10_strict_14 rfl ?_
  refine mv_iconst 1 dX10_strict_15 (by decide) ?_
  refine mv_iload_n 2 dX10_strict_16 rfl ?_
  refine mv_cvI (As := [.int a0, .int 1, .int a1]) (st := []) okX5_demandOf lX10_168 (by decide) rfl rfl rfl (Nat.le_of_ble_eq_true rfl) rfl (Nat.le_of_ble_eq_true rfl) dX10_strict_17 (by omega) rfl (zX5_demandOf (d := d - 1) (by omega) a0 1 a1 M2 (mv_bindE h)) (fun r3 M4 h => ?_)
  refine mv_if_eq 27 dX10_strict_20 (by decide) (fun z => ?_) (fun z => ?_)
  · replace h := mv_ifT z h
    refine mv_iconst 0 dX10_strict_27 (by decide) ?_
    exact mv_zret (by decide) rfl dX10_strict_28 (Or.inl ⟨_, rfl, h⟩)
  · replace h := mv_ifF z h
    refine mv_iconst 1 dX10_strict_23 (by decide) ?_
    refine mv_goto 28 dX10_strict_24 (by decide) ?_
    exact mv_zret (by decide) rfl dX10_strict_28 (Or.inl ⟨_, rfl, h⟩)
theorem dX10_plant_0 : decode cX10_plant 0 = .ok (.aload_n 0, 1) := by decide +kernel
theorem dX10_plant_1 : decode cX10_plant 1 = .ok (.invokevirtual 155, 3) := by decide +kernel
theorem dX10_plant_4 : decode cX10_plant 4 = .ok (.aload_n 0, 1) := by decide +kernel
theorem dX10_plant_5 : decode cX10_plant 5 = .ok (.iload_n 1, 1) := by decide +kernel
theorem dX10_plant_6 : decode cX10_plant 6 = .ok (.iload_n 2, 1) := by decide +kernel
theorem dX10_plant_7 : decode cX10_plant 7 = .ok (.invokevirtual 158, 3) := by decide +kernel
theorem dX10_plant_10 : decode cX10_plant 10 = .ok (.aload_n 0, 1) := by decide +kernel
theorem dX10_plant_11 : decode cX10_plant 11 = .ok (.iload_n 1, 1) := by decide +kernel
theorem dX10_plant_12 : decode cX10_plant 12 = .ok (.iload_n 3, 1) := by decide +kernel
theorem dX10_plant_13 : decode cX10_plant 13 = .ok (.invokevirtual 165, 3) := by decide +kernel
theorem dX10_plant_16 : decode cX10_plant 16 = .ok (.iload 4, 2) := by decide +kernel
theorem dX10_plant_18 : decode cX10_plant 18 = .ok (.ifCond .lt 20, 3) := by decide +kernel
theorem dX10_plant_21 : decode cX10_plant 21 = .ok (.iload 4, 2) := by decide +kernel
theorem dX10_plant_23 : decode cX10_plant 23 = .ok (.aload_n 0, 1) := by decide +kernel
theorem dX10_plant_24 : decode cX10_plant 24 = .ok (.getfield 63, 3) := by decide +kernel
theorem dX10_plant_27 : decode cX10_plant 27 = .ok (.iload_n 1, 1) := by decide +kernel
theorem dX10_plant_28 : decode cX10_plant 28 = .ok (.iload_n 3, 1) := by decide +kernel
theorem dX10_plant_29 : decode cX10_plant 29 = .ok (.invokevirtual 145, 3) := by decide +kernel
theorem dX10_plant_32 : decode cX10_plant 32 = .ok (.invokestatic 139, 3) := by decide +kernel
theorem dX10_plant_35 : decode cX10_plant 35 = .ok (.if_icmp .lt 13, 3) := by decide +kernel
theorem dX10_plant_38 : decode cX10_plant 38 = .ok (.new 85, 3) := by decide +kernel
theorem dX10_plant_41 : decode cX10_plant 41 = .ok (.dup, 1) := by decide +kernel
theorem dX10_plant_42 : decode cX10_plant 42 = .ok (.ldc 172, 2) := by decide +kernel
theorem dX10_plant_44 : decode cX10_plant 44 = .ok (.invokespecial 89, 3) := by decide +kernel
theorem dX10_plant_47 : decode cX10_plant 47 = .ok (.athrow, 1) := by decide +kernel
theorem dX10_plant_48 : decode cX10_plant 48 = .ok (.aload_n 0, 1) := by decide +kernel
theorem dX10_plant_49 : decode cX10_plant 49 = .ok (.getfield 42, 3) := by decide +kernel
theorem dX10_plant_52 : decode cX10_plant 52 = .ok (.iload_n 1, 1) := by decide +kernel
theorem dX10_plant_53 : decode cX10_plant 53 = .ok (.iload_n 2, 1) := by decide +kernel
theorem dX10_plant_54 : decode cX10_plant 54 = .ok (.iload_n 3, 1) := by decide +kernel
theorem dX10_plant_55 : decode cX10_plant 55 = .ok (.invokevirtual 168, 3) := by decide +kernel
theorem dX10_plant_58 : decode cX10_plant 58 = .ok (.istore 5, 2) := by decide +kernel
theorem dX10_plant_60 : decode cX10_plant 60 = .ok (.aload_n 0, 1) := by decide +kernel
theorem dX10_plant_61 : decode cX10_plant 61 = .ok (.getfield 42, 3) := by decide +kernel
theorem dX10_plant_64 : decode cX10_plant 64 = .ok (.iload_n 1, 1) := by decide +kernel
theorem dX10_plant_65 : decode cX10_plant 65 = .ok (.iload_n 2, 1) := by decide +kernel
theorem dX10_plant_66 : decode cX10_plant 66 = .ok (.iload_n 3, 1) := by decide +kernel
theorem dX10_plant_67 : decode cX10_plant 67 = .ok (.iload 4, 2) := by decide +kernel
theorem dX10_plant_69 : decode cX10_plant 69 = .ok (.invokevirtual 174, 3) := by decide +kernel
theorem dX10_plant_72 : decode cX10_plant 72 = .ok (.iload 5, 2) := by decide +kernel
theorem dX10_plant_74 : decode cX10_plant 74 = .ok (.ireturn, 1) := by decide +kernel
noncomputable def fX10_plant_38 (M : mv_M) : Option ((Int32 ⊕ String) × mv_M) :=
  some (.inr "java/lang/IllegalArgumentException", M)
set_option maxRecDepth 100000 in
set_option maxHeartbeats 4000000 in
theorem zX10_plant_38 {l : Launch} {d : Nat} {Q : (Int32 ⊕ String) → mv_M → Prop} (hd : 8 ≤ d) (hl : l.stackTraces = false) (M : mv_M) (h : mv_ok (fX10_plant_38 M) Q) : mv l mX10_plant d 1 38 [] [] M (mv_xI Q) := by
  unfold fX10_plant_38 at h
  exact mv_throw hl hX10_85 sX10_172 dX10_plant_38 dX10_plant_41 dX10_plant_42 dX10_plant_44 dX10_plant_47 rfl (by decide) (by omega) (by omega) (Nat.le_of_ble_eq_true rfl) (Or.inr ⟨_, rfl, h⟩)
noncomputable def fX10_plant (a0 : Int32) (a1 : Int32) (a2 : Int32) (a3 : Int32) (M : mv_M) : Option ((Int32 ⊕ String) × mv_M) :=
  mv_bindx (fX10_requireRows M) fun _ M1 =>
  mv_bindx (fX10_requireRow a0 a1 M1) fun _ M2 =>
  mv_bindx (fX10_requireParam a0 a2 M2) fun _ M3 =>
  if a3 < 0 then
    fX10_plant_38 M3
  else
    mv_getp (M3.2.2 0 7) fun b4 =>
    mv_bind (fX4_nameType b4 a0 a2 M3) fun r5 M6 =>
    mv_bind (fX6_demandsOf r5 M6) fun r7 M8 =>
    if a3 < r7 then
      mv_bind (fX5_demandOf a0 a1 a2 M8) fun r9 M10 =>
      mv_bind (fX5_put a0 a1 a2 a3 M10) fun _ M11 =>
      some (.inl r9, M11)
    else
      fX10_plant_38 M8
set_option maxRecDepth 100000 in
set_option maxHeartbeats 4000000 in
theorem zX10_plant {l : Launch} {d : Nat} {Q : (Int32 ⊕ String) → mv_M → Prop} (hd : 8 ≤ d) (hl : l.stackTraces = false) (a0 : Int32) (a1 : Int32) (a2 : Int32) (a3 : Int32) (M : mv_M) (h : mv_ok (fX10_plant a0 a1 a2 a3 M) Q) : mv l mX10_plant d 4 0 (lv_args 0 [.ref 0, .int a0, .int a1, .int a2, .int a3]) [] M (mv_xI Q) := by
  unfold fX10_plant at h
  show mv l mX10_plant d 4 0 [(0, .ref 0), (1, .int a0), (2, .int a1), (3, .int a2), (4, .int a3)] [] M (mv_xI Q)
  refine mv_aload_n 0 dX10_plant_0 rfl ?_
  refine mv_cvx (k := 3) (As := []) (st := []) okX10_requireRows lX10_155 (by decide) rfl rfl rfl (Nat.le_of_ble_eq_true rfl) rfl (Nat.le_of_ble_eq_true rfl) dX10_plant_1 (by omega) rfl (zX10_requireRows (d := d - 1) (by omega) hl M (mv_bindxE h)) (fun E M9 hq => Or.inr ⟨E, rfl, hq.2 E rfl⟩) (fun M1 hq => ?_)
  replace h := hq.1 () rfl
  clear hq
  refine mv_aload_n 0 dX10_plant_4 rfl ?_
  refine mv_iload_n 1 dX10_plant_5 rfl ?_
  refine mv_iload_n 2 dX10_plant_6 rfl ?_
  refine mv_cvx (k := 2) (As := [.int a0, .int a1]) (st := []) okX10_requireRow lX10_158 (by decide) rfl rfl rfl (Nat.le_of_ble_eq_true rfl) rfl (Nat.le_of_ble_eq_true rfl) dX10_plant_7 (by omega) rfl (zX10_requireRow (d := d - 1) (by omega) hl a0 a1 M1 (mv_bindxE h)) (fun E M9 hq => Or.inr ⟨E, rfl, hq.2 E rfl⟩) (fun M2 hq => ?_)
  replace h := hq.1 () rfl
  clear hq
  refine mv_aload_n 0 dX10_plant_10 rfl ?_
  refine mv_iload_n 1 dX10_plant_11 rfl ?_
  refine mv_iload_n 3 dX10_plant_12 rfl ?_
  refine mv_cvx (k := 1) (As := [.int a0, .int a2]) (st := []) okX10_requireParam lX10_165 (by decide) rfl rfl rfl (Nat.le_of_ble_eq_true rfl) rfl (Nat.le_of_ble_eq_true rfl) dX10_plant_13 (by omega) rfl (zX10_requireParam (d := d - 1) (by omega) hl a0 a2 M2 (mv_bindxE h)) (fun E M9 hq => Or.inr ⟨E, rfl, hq.2 E rfl⟩) (fun M3 hq => ?_)
  replace h := hq.1 () rfl
  clear hq
  refine mv_iload 4 dX10_plant_16 rfl ?_
  refine mv_if_lt 38 dX10_plant_18 (by decide) (fun z => ?_) (fun z => ?_)
  · replace h := mv_ifT z h
    refine mv_sub [] rfl ?_
    exact zX10_plant_38 hd hl M3 h
  · replace h := mv_ifF z h
    refine mv_iload 4 dX10_plant_21 rfl ?_
    refine mv_aload_n 0 dX10_plant_23 rfl ?_
    obtain ⟨b4, eb4, hb4, h⟩ := mv_getpE h
    refine mv_getP b4 fX10_63 (by decide) rfl rfl eb4 dX10_plant_24 ?_
    refine mv_iload_n 1 dX10_plant_27 rfl ?_
    refine mv_iload_n 3 dX10_plant_28 rfl ?_
    refine mv_cvI (As := [.int a0, .int a2]) (st := [.int a3]) okX4_nameType lX10_145 (mv_pN (t := 0) hb4 (by decide)) (by rcases hb4 with rfl | rfl <;> rfl) rfl rfl (Nat.le_of_ble_eq_true rfl) rfl (Nat.le_of_ble_eq_true rfl) dX10_plant_29 (by omega) rfl (zX4_nameType (d := d - 1) (by omega) b4 a0 a2 M3 hb4 (mv_bindE h)) (fun r5 M6 h => ?_)
    refine mv_csI (As := [.int r5]) (st := [.int a3]) okX6_demandsOf lX10_139 rfl (Nat.le_of_ble_eq_true rfl) rfl (Nat.le_of_ble_eq_true rfl) dX10_plant_32 (by omega) rfl (zX6_demandsOf (d := d - 1) (by omega) r5 M6 (mv_bindE h)) (fun r7 M8 h => ?_)
    refine mv_icmp_lt 48 dX10_plant_35 (by decide) (fun z => ?_) (fun z => ?_)
    · replace h := mv_ifT z h
      refine mv_aload_n 0 dX10_plant_48 rfl ?_
      refine mv_getR 5 fX10_42 (by decide) rfl rfl rfl dX10_plant_49 ?_
      refine mv_iload_n 1 dX10_plant_52 rfl ?_
      refine mv_iload_n 2 dX10_plant_53 rfl ?_
      refine mv_iload_n 3 dX10_plant_54 rfl ?_
      refine mv_cvI (As := [.int a0, .int a1, .int a2]) (st := []) okX5_demandOf lX10_168 (by decide) rfl rfl rfl (Nat.le_of_ble_eq_true rfl) rfl (Nat.le_of_ble_eq_true rfl) dX10_plant_55 (by omega) rfl (zX5_demandOf (d := d - 1) (by omega) a0 a1 a2 M8 (mv_bindE h)) (fun r9 M10 h => ?_)
      refine mv_istore [(5, .int r9), (0, .ref 0), (1, .int a0), (2, .int a1), (3, .int a2), (4, .int a3)] dX10_plant_58 (by decide) rfl ?_
      refine mv_aload_n 1 dX10_plant_60 rfl ?_
      refine mv_getR 5 fX10_42 (by decide) rfl rfl rfl dX10_plant_61 ?_
      refine mv_iload_n 2 dX10_plant_64 rfl ?_
      refine mv_iload_n 3 dX10_plant_65 rfl ?_
      refine mv_iload_n 4 dX10_plant_66 rfl ?_
      refine mv_iload 5 dX10_plant_67 rfl ?_
      refine mv_cvV (As := [.int a0, .int a1, .int a2, .int a3]) (st := []) okX5_put lX10_174 (by decide) rfl rfl rfl (Nat.le_of_ble_eq_true rfl) rfl (Nat.le_of_ble_eq_true rfl) dX10_plant_69 (by omega) rfl (zX5_put (d := d - 1) (by omega) a0 a1 a2 a3 M10 (mv_bindE h)) (fun _ M11 h => ?_)
      refine mv_iload 0 dX10_plant_72 rfl ?_
      exact mv_iret rfl dX10_plant_74 (Or.inl ⟨_, rfl, h⟩)
    · replace h := mv_ifF z h
      refine mv_sub [] rfl ?_
      exact zX10_plant_38 hd hl M8 h
theorem dX10_check_0 : decode cX10_check 0 = .ok (.aload_n 0, 1) := by decide +kernel
theorem dX10_check_1 : decode cX10_check 1 = .ok (.invokevirtual 155, 3) := by decide +kernel
theorem dX10_check_4 : decode cX10_check 4 = .ok (.aload_n 0, 1) := by decide +kernel
theorem dX10_check_5 : decode cX10_check 5 = .ok (.getfield 42, 3) := by decide +kernel
theorem dX10_check_8 : decode cX10_check 8 = .ok (.invokevirtual 178, 3) := by decide +kernel
theorem dX10_check_11 : decode cX10_check 11 = .ok (.ireturn, 1) := by decide +kernel
noncomputable def fX10_check (M : mv_M) : Option ((Int32 ⊕ String) × mv_M) :=
  mv_bindx (fX10_requireRows M) fun _ M1 =>
  mv_bind (fX5_firstTooMuch M1) fun r2 M3 =>
  some (.inl r2, M3)
set_option maxRecDepth 100000 in
set_option maxHeartbeats 4000000 in
theorem zX10_check {l : Launch} {d : Nat} {Q : (Int32 ⊕ String) → mv_M → Prop} (hd : 340 ≤ d) (hl : l.stackTraces = false) (M : mv_M) (h : mv_ok (fX10_check M) Q) : mv l mX10_check d 4 0 (lv_args 0 [.ref 0]) [] M (mv_xI Q) := by
  unfold fX10_check at h
  show mv l mX10_check d 4 0 [(0, .ref 0)] [] M (mv_xI Q)
  refine mv_aload_n 0 dX10_check_0 rfl ?_
  refine mv_cvx (k := 3) (As := []) (st := []) okX10_requireRows lX10_155 (by decide) rfl rfl rfl (Nat.le_of_ble_eq_true rfl) rfl (Nat.le_of_ble_eq_true rfl) dX10_check_1 (by omega) rfl (zX10_requireRows (d := d - 1) (by omega) hl M (mv_bindxE h)) (fun E M9 hq => Or.inr ⟨E, rfl, hq.2 E rfl⟩) (fun M1 hq => ?_)
  replace h := hq.1 () rfl
  clear hq
  refine mv_aload_n 0 dX10_check_4 rfl ?_
  refine mv_getR 5 fX10_42 (by decide) rfl rfl rfl dX10_check_5 ?_
  refine mv_cvI (As := []) (st := []) okX5_firstTooMuch lX10_178 (by decide) rfl rfl rfl (Nat.le_of_ble_eq_true rfl) rfl (Nat.le_of_ble_eq_true rfl) dX10_check_8 (by omega) rfl (zX5_firstTooMuch (d := d - 1) (by omega) M1 (mv_bindE h)) (fun r2 M3 h => ?_)
  exact mv_iret rfl dX10_check_11 (Or.inl ⟨_, rfl, h⟩)
theorem dX10_input_0 : decode cX10_input 0 = .ok (.iload_n 1, 1) := by decide +kernel
theorem dX10_input_1 : decode cX10_input 1 = .ok (.ifCond .lt 8, 3) := by decide +kernel
theorem dX10_input_4 : decode cX10_input 4 = .ok (.iload_n 1, 1) := by decide +kernel
theorem dX10_input_5 : decode cX10_input 5 = .ok (.iconst 2, 1) := by decide +kernel
theorem dX10_input_6 : decode cX10_input 6 = .ok (.if_icmp .le 13, 3) := by decide +kernel
theorem dX10_input_9 : decode cX10_input 9 = .ok (.new 85, 3) := by decide +kernel
theorem dX10_input_12 : decode cX10_input 12 = .ok (.dup, 1) := by decide +kernel
theorem dX10_input_13 : decode cX10_input 13 = .ok (.ldc 182, 2) := by decide +kernel
theorem dX10_input_15 : decode cX10_input 15 = .ok (.invokespecial 89, 3) := by decide +kernel
theorem dX10_input_18 : decode cX10_input 18 = .ok (.athrow, 1) := by decide +kernel
theorem dX10_input_19 : decode cX10_input 19 = .ok (.aload_n 0, 1) := by decide +kernel
theorem dX10_input_20 : decode cX10_input 20 = .ok (.getfield 49, 3) := by decide +kernel
theorem dX10_input_23 : decode cX10_input 23 = .ok (.getfield 184, 3) := by decide +kernel
theorem dX10_input_26 : decode cX10_input 26 = .ok (.bipush 40, 2) := by decide +kernel
theorem dX10_input_28 : decode cX10_input 28 = .ok (.if_icmp .lt 13, 3) := by decide +kernel
theorem dX10_input_31 : decode cX10_input 31 = .ok (.new 74, 3) := by decide +kernel
theorem dX10_input_34 : decode cX10_input 34 = .ok (.dup, 1) := by decide +kernel
theorem dX10_input_35 : decode cX10_input 35 = .ok (.ldc 187, 2) := by decide +kernel
theorem dX10_input_37 : decode cX10_input 37 = .ok (.invokespecial 78, 3) := by decide +kernel
theorem dX10_input_40 : decode cX10_input 40 = .ok (.athrow, 1) := by decide +kernel
theorem dX10_input_41 : decode cX10_input 41 = .ok (.aload_n 0, 1) := by decide +kernel
theorem dX10_input_42 : decode cX10_input 42 = .ok (.getfield 49, 3) := by decide +kernel
theorem dX10_input_45 : decode cX10_input 45 = .ok (.iload_n 1, 1) := by decide +kernel
theorem dX10_input_46 : decode cX10_input 46 = .ok (.iload_n 2, 1) := by decide +kernel
theorem dX10_input_47 : decode cX10_input 47 = .ok (.invokevirtual 189, 3) := by decide +kernel
theorem dX10_input_50 : decode cX10_input 50 = .ok (.aload_n 0, 1) := by decide +kernel
theorem dX10_input_51 : decode cX10_input 51 = .ok (.getfield 49, 3) := by decide +kernel
theorem dX10_input_54 : decode cX10_input 54 = .ok (.getfield 184, 3) := by decide +kernel
theorem dX10_input_57 : decode cX10_input 57 = .ok (.ireturn, 1) := by decide +kernel
noncomputable def fX10_input_9 (M : mv_M) : Option ((Int32 ⊕ String) × mv_M) :=
  some (.inr "java/lang/IllegalArgumentException", M)
set_option maxRecDepth 100000 in
set_option maxHeartbeats 4000000 in
theorem zX10_input_9 {l : Launch} {d : Nat} {Q : (Int32 ⊕ String) → mv_M → Prop} (hd : 7 ≤ d) (hl : l.stackTraces = false) (M : mv_M) (h : mv_ok (fX10_input_9 M) Q) : mv l mX10_input d 4 9 [] [] M (mv_xI Q) := by
  unfold fX10_input_9 at h
  exact mv_throw hl hX10_85 sX10_182 dX10_input_9 dX10_input_12 dX10_input_13 dX10_input_15 dX10_input_18 rfl (by decide) (by omega) (by omega) (Nat.le_of_ble_eq_true rfl) (Or.inr ⟨_, rfl, h⟩)
noncomputable def fX10_input (a0 : Int32) (a1 : Int32) (M : mv_M) : Option ((Int32 ⊕ String) × mv_M) :=
  if a0 < 0 then
    fX10_input_9 M
  else
    if a0 ≤ 2 then
      if (M.1 6 0) < 40 then
        mv_bind (fX1_add a0 a1 M) fun _ M1 =>
        some (.inl (M1.1 6 0), M1)
      else
        some (.inr "java/lang/IllegalStateException", M)
    else
      fX10_input_9 M
set_option maxRecDepth 100000 in
set_option maxHeartbeats 4000000 in
theorem zX10_input {l : Launch} {d : Nat} {Q : (Int32 ⊕ String) → mv_M → Prop} (hd : 7 ≤ d) (hl : l.stackTraces = false) (a0 : Int32) (a1 : Int32) (M : mv_M) (h : mv_ok (fX10_input a0 a1 M) Q) : mv l mX10_input d 4 0 (lv_args 0 [.ref 0, .int a0, .int a1]) [] M (mv_xI Q) := by
  unfold fX10_input at h
  show mv l mX10_input d 4 0 [(0, .ref 0), (1, .int a0), (2, .int a1)] [] M (mv_xI Q)
  refine mv_iload_n 1 dX10_input_0 rfl ?_
  refine mv_if_lt 9 dX10_input_1 (by decide) (fun z => ?_) (fun z => ?_)
  · replace h := mv_ifT z h
    refine mv_sub [] rfl ?_
    exact zX10_input_9 hd hl M h
  · replace h := mv_ifF z h
    refine mv_iload_n 1 dX10_input_4 rfl ?_
    refine mv_iconst 2 dX10_input_5 (by decide) ?_
    refine mv_icmp_le 19 dX10_input_6 (by decide) (fun z => ?_) (fun z => ?_)
    · replace h := mv_ifT z h
      refine mv_aload_n 0 dX10_input_19 rfl ?_
      refine mv_getR 6 fX10_49 (by decide) rfl rfl rfl dX10_input_20 ?_
      refine mv_getI fX10_184 (by decide) rfl rfl dX10_input_23 ?_
      refine mv_bipush 40 dX10_input_26 (by decide) ?_
      refine mv_icmp_lt 41 dX10_input_28 (by decide) (fun z => ?_) (fun z => ?_)
      · replace h := mv_ifT z h
        refine mv_aload_n 0 dX10_input_41 rfl ?_
        refine mv_getR 6 fX10_49 (by decide) rfl rfl rfl dX10_input_42 ?_
        refine mv_iload_n 1 dX10_input_45 rfl ?_
        refine mv_iload_n 2 dX10_input_46 rfl ?_
        refine mv_cvV (As := [.int a0, .int a1]) (st := []) okX1_add lX10_189 (by decide) rfl rfl rfl (Nat.le_of_ble_eq_true rfl) rfl (Nat.le_of_ble_eq_true rfl) dX10_input_47 (by omega) rfl (zX1_add (d := d - 1) (by omega) a0 a1 M (mv_bindE h)) (fun _ M1 h => ?_)
        refine mv_aload_n 0 dX10_input_50 rfl ?_
        refine mv_getR 6 fX10_49 (by decide) rfl rfl rfl dX10_input_51 ?_
        refine mv_getI fX10_184 (by decide) rfl rfl dX10_input_54 ?_
        exact mv_iret rfl dX10_input_57 (Or.inl ⟨_, rfl, h⟩)
      · replace h := mv_ifF z h
        exact mv_throw hl hX10_74 sX10_187 dX10_input_31 dX10_input_34 dX10_input_35 dX10_input_37 dX10_input_40 rfl (by decide) (by omega) (by omega) (Nat.le_of_ble_eq_true rfl) (Or.inr ⟨_, rfl, h⟩)
    · replace h := mv_ifF z h
      refine mv_sub [] rfl ?_
      exact zX10_input_9 hd hl M h
theorem dX10_run_0 : decode cX10_run 0 = .ok (.aload_n 0, 1) := by decide +kernel
theorem dX10_run_1 : decode cX10_run 1 = .ok (.getfield 63, 3) := by decide +kernel
theorem dX10_run_4 : decode cX10_run 4 = .ok (.getfield 110, 3) := by decide +kernel
theorem dX10_run_7 : decode cX10_run 7 = .ok (.ifCond .ne 13, 3) := by decide +kernel
theorem dX10_run_10 : decode cX10_run 10 = .ok (.new 74, 3) := by decide +kernel
theorem dX10_run_13 : decode cX10_run 13 = .ok (.dup, 1) := by decide +kernel
theorem dX10_run_14 : decode cX10_run 14 = .ok (.ldc 149, 2) := by decide +kernel
theorem dX10_run_16 : decode cX10_run 16 = .ok (.invokespecial 78, 3) := by decide +kernel
theorem dX10_run_19 : decode cX10_run 19 = .ok (.athrow, 1) := by decide +kernel
theorem dX10_run_20 : decode cX10_run 20 = .ok (.aload_n 0, 1) := by decide +kernel
theorem dX10_run_21 : decode cX10_run 21 = .ok (.iload_n 1, 1) := by decide +kernel
theorem dX10_run_22 : decode cX10_run 22 = .ok (.iload_n 2, 1) := by decide +kernel
theorem dX10_run_23 : decode cX10_run 23 = .ok (.invokevirtual 158, 3) := by decide +kernel
theorem dX10_run_26 : decode cX10_run 26 = .ok (.iload_n 3, 1) := by decide +kernel
theorem dX10_run_27 : decode cX10_run 27 = .ok (.ifCond .lt 10, 3) := by decide +kernel
theorem dX10_run_30 : decode cX10_run 30 = .ok (.iload_n 3, 1) := by decide +kernel
theorem dX10_run_31 : decode cX10_run 31 = .ok (.sipush 20000, 3) := by decide +kernel
theorem dX10_run_34 : decode cX10_run 34 = .ok (.if_icmp .le 13, 3) := by decide +kernel
theorem dX10_run_37 : decode cX10_run 37 = .ok (.new 85, 3) := by decide +kernel
theorem dX10_run_40 : decode cX10_run 40 = .ok (.dup, 1) := by decide +kernel
theorem dX10_run_41 : decode cX10_run 41 = .ok (.ldc 192, 2) := by decide +kernel
theorem dX10_run_43 : decode cX10_run 43 = .ok (.invokespecial 89, 3) := by decide +kernel
theorem dX10_run_46 : decode cX10_run 46 = .ok (.athrow, 1) := by decide +kernel
theorem dX10_run_47 : decode cX10_run 47 = .ok (.aload_n 0, 1) := by decide +kernel
theorem dX10_run_48 : decode cX10_run 48 = .ok (.getfield 49, 3) := by decide +kernel
theorem dX10_run_51 : decode cX10_run 51 = .ok (.aload_n 0, 1) := by decide +kernel
theorem dX10_run_52 : decode cX10_run 52 = .ok (.getfield 63, 3) := by decide +kernel
theorem dX10_run_55 : decode cX10_run 55 = .ok (.iload_n 1, 1) := by decide +kernel
theorem dX10_run_56 : decode cX10_run 56 = .ok (.invokevirtual 194, 3) := by decide +kernel
theorem dX10_run_59 : decode cX10_run 59 = .ok (.ifCond .ne 13, 3) := by decide +kernel
theorem dX10_run_62 : decode cX10_run 62 = .ok (.new 85, 3) := by decide +kernel
theorem dX10_run_65 : decode cX10_run 65 = .ok (.dup, 1) := by decide +kernel
theorem dX10_run_66 : decode cX10_run 66 = .ok (.ldc 198, 2) := by decide +kernel
theorem dX10_run_68 : decode cX10_run 68 = .ok (.invokespecial 89, 3) := by decide +kernel
theorem dX10_run_71 : decode cX10_run 71 = .ok (.athrow, 1) := by decide +kernel
theorem dX10_run_72 : decode cX10_run 72 = .ok (.aload_n 0, 1) := by decide +kernel
theorem dX10_run_73 : decode cX10_run 73 = .ok (.getfield 56, 3) := by decide +kernel
theorem dX10_run_76 : decode cX10_run 76 = .ok (.aload_n 0, 1) := by decide +kernel
theorem dX10_run_77 : decode cX10_run 77 = .ok (.getfield 63, 3) := by decide +kernel
theorem dX10_run_80 : decode cX10_run 80 = .ok (.iload_n 1, 1) := by decide +kernel
theorem dX10_run_81 : decode cX10_run 81 = .ok (.iload_n 3, 1) := by decide +kernel
theorem dX10_run_82 : decode cX10_run 82 = .ok (.aload_n 0, 1) := by decide +kernel
theorem dX10_run_83 : decode cX10_run 83 = .ok (.getfield 49, 3) := by decide +kernel
theorem dX10_run_86 : decode cX10_run 86 = .ok (.invokevirtual 200, 3) := by decide +kernel
theorem dX10_run_89 : decode cX10_run 89 = .ok (.aload_n 0, 1) := by decide +kernel
theorem dX10_run_90 : decode cX10_run 90 = .ok (.getfield 56, 3) := by decide +kernel
theorem dX10_run_93 : decode cX10_run 93 = .ok (.iload_n 2, 1) := by decide +kernel
theorem dX10_run_94 : decode cX10_run 94 = .ok (.invokevirtual 204, 3) := by decide +kernel
theorem dX10_run_97 : decode cX10_run 97 = .ok (.aload_n 0, 1) := by decide +kernel
theorem dX10_run_98 : decode cX10_run 98 = .ok (.getfield 49, 3) := by decide +kernel
theorem dX10_run_101 : decode cX10_run 101 = .ok (.iconst 0, 1) := by decide +kernel
theorem dX10_run_102 : decode cX10_run 102 = .ok (.putfield 184, 3) := by decide +kernel
theorem dX10_run_105 : decode cX10_run 105 = .ok (.aload_n 0, 1) := by decide +kernel
theorem dX10_run_106 : decode cX10_run 106 = .ok (.getfield 56, 3) := by decide +kernel
theorem dX10_run_109 : decode cX10_run 109 = .ok (.getfield 207, 3) := by decide +kernel
theorem dX10_run_112 : decode cX10_run 112 = .ok (.ireturn, 1) := by decide +kernel
noncomputable def fX10_run_37 (M : mv_M) : Option ((Int32 ⊕ String) × mv_M) :=
  some (.inr "java/lang/IllegalArgumentException", M)
set_option maxRecDepth 100000 in
set_option maxHeartbeats 4000000 in
theorem zX10_run_37 {l : Launch} {d : Nat} {Q : (Int32 ⊕ String) → mv_M → Prop} (hd : 21 ≤ d) (hl : l.stackTraces = false) (M : mv_M) (h : mv_ok (fX10_run_37 M) Q) : mv l mX10_run d 3 37 [] [] M (mv_xI Q) := by
  unfold fX10_run_37 at h
  exact mv_throw hl hX10_85 sX10_192 dX10_run_37 dX10_run_40 dX10_run_41 dX10_run_43 dX10_run_46 rfl (by decide) (by omega) (by omega) (Nat.le_of_ble_eq_true rfl) (Or.inr ⟨_, rfl, h⟩)
noncomputable def fX10_run (a0 : Int32) (a1 : Int32) (a2 : Int32) (M : mv_M) : Option ((Int32 ⊕ String) × mv_M) :=
  mv_getp (M.2.2 0 7) fun b1 =>
  if (M.1 b1 0) = 0 then
    some (.inr "java/lang/IllegalStateException", M)
  else
    mv_bindx (fX10_requireRow a0 a1 M) fun _ M2 =>
    if a2 < 0 then
      fX10_run_37 M2
    else
      if a2 ≤ 20000 then
        mv_getp (M2.2.2 0 7) fun b3 =>
        mv_bind (fX1_fit b3 a0 M2) fun r4 M5 =>
        if r4 = 0 then
          some (.inr "java/lang/IllegalArgumentException", M5)
        else
          mv_getp (M5.2.2 0 7) fun b6 =>
          mv_bind (fX2_start b6 a0 a2 M5) fun _ M7 =>
          mv_bind (fX2_perform a1 M7) fun _ M8 =>
          mv_let (mv_si M8 6 0 0) fun M9 =>
          some (.inl (M9.1 7 2), M9)
      else
        fX10_run_37 M2
set_option maxRecDepth 100000 in
set_option maxHeartbeats 4000000 in
theorem zX10_run {l : Launch} {d : Nat} {Q : (Int32 ⊕ String) → mv_M → Prop} (hd : 21 ≤ d) (hl : l.stackTraces = false) (a0 : Int32) (a1 : Int32) (a2 : Int32) (M : mv_M) (h : mv_ok (fX10_run a0 a1 a2 M) Q) : mv l mX10_run d 4 0 (lv_args 0 [.ref 0, .int a0, .int a1, .int a2]) [] M (mv_xI Q) := by
  unfold fX10_run at h
  show mv l mX10_run d 4 0 [(0, .ref 0), (1, .int a0), (2, .int a1), (3, .int a2)] [] M (mv_xI Q)
  refine mv_aload_n 0 dX10_run_0 rfl ?_
  obtain ⟨b1, eb1, hb1, h⟩ := mv_getpE h
  refine mv_getP b1 fX10_63 (by decide) rfl rfl eb1 dX10_run_1 ?_
  refine mv_getI fX10_110 (mv_pN (t := 0) hb1 (by decide)) (by rcases hb1 with rfl | rfl <;> rfl) rfl dX10_run_4 ?_
  refine mv_if_ne 20 dX10_run_7 (by decide) (fun z => ?_) (fun z => ?_)
  · replace h := mv_ifF z h
    refine mv_aload_n 0 dX10_run_20 rfl ?_
    refine mv_iload_n 1 dX10_run_21 rfl ?_
    refine mv_iload_n 2 dX10_run_22 rfl ?_
    refine mv_cvx (k := 3) (As := [.int a0, .int a1]) (st := []) okX10_requireRow lX10_158 (by decide) rfl rfl rfl (Nat.le_of_ble_eq_true rfl) rfl (Nat.le_of_ble_eq_true rfl) dX10_run_23 (by omega) rfl (zX10_requireRow (d := d - 1) (by omega) hl a0 a1 M (mv_bindxE h)) (fun E M9 hq => Or.inr ⟨E, rfl, hq.2 E rfl⟩) (fun M2 hq => ?_)
    replace h := hq.1 () rfl
    clear hq
    refine mv_iload_n 3 dX10_run_26 rfl ?_
    refine mv_if_lt 37 dX10_run_27 (by decide) (fun z => ?_) (fun z => ?_)
    · replace h := mv_ifT z h
      refine mv_sub [] rfl ?_
      exact zX10_run_37 hd hl M2 h
    · replace h := mv_ifF z h
      refine mv_iload_n 3 dX10_run_30 rfl ?_
      refine mv_sipush 20000 dX10_run_31 (by decide) ?_
      refine mv_icmp_le 47 dX10_run_34 (by decide) (fun z => ?_) (fun z => ?_)
      · replace h := mv_ifT z h
        refine mv_aload_n 0 dX10_run_47 rfl ?_
        refine mv_getR 6 fX10_49 (by decide) rfl rfl rfl dX10_run_48 ?_
        refine mv_aload_n 0 dX10_run_51 rfl ?_
        obtain ⟨b3, eb3, hb3, h⟩ := mv_getpE h
        refine mv_getP b3 fX10_63 (by decide) rfl rfl eb3 dX10_run_52 ?_
        refine mv_iload_n 1 dX10_run_55 rfl ?_
        refine mv_cvI (As := [.ref b3, .int a0]) (st := []) okX1_fit lX10_194 (by decide) rfl rfl rfl (Nat.le_of_ble_eq_true rfl) rfl (Nat.le_of_ble_eq_true rfl) dX10_run_56 (by omega) rfl (zX1_fit (d := d - 1) (by omega) b3 a0 M2 hb3 (mv_bindE h)) (fun r4 M5 h => ?_)
        refine mv_if_ne 72 dX10_run_59 (by decide) (fun z => ?_) (fun z => ?_)
        · replace h := mv_ifF z h
          refine mv_aload_n 0 dX10_run_72 rfl ?_
          refine mv_getR 7 fX10_56 (by decide) rfl rfl rfl dX10_run_73 ?_
          refine mv_aload_n 0 dX10_run_76 rfl ?_
          obtain ⟨b6, eb6, hb6, h⟩ := mv_getpE h
          refine mv_getP b6 fX10_63 (by decide) rfl rfl eb6 dX10_run_77 ?_
          refine mv_iload_n 1 dX10_run_80 rfl ?_
          refine mv_iload_n 3 dX10_run_81 rfl ?_
          refine mv_aload_n 0 dX10_run_82 rfl ?_
          refine mv_getR 6 fX10_49 (by decide) rfl rfl rfl dX10_run_83 ?_
          refine mv_cvV (As := [.ref b6, .int a0, .int a2, .ref 6]) (st := []) okX2_start lX10_200 (by decide) rfl rfl rfl (Nat.le_of_ble_eq_true rfl) rfl (Nat.le_of_ble_eq_true rfl) dX10_run_86 (by omega) rfl (zX2_start (d := d - 1) (by omega) b6 a0 a2 M5 hb6 (mv_bindE h)) (fun _ M7 h => ?_)
          refine mv_aload_n 0 dX10_run_89 rfl ?_
          refine mv_getR 7 fX10_56 (by decide) rfl rfl rfl dX10_run_90 ?_
          refine mv_iload_n 2 dX10_run_93 rfl ?_
          refine mv_cvV (As := [.int a1]) (st := []) okX2_perform lX10_204 (by decide) rfl rfl rfl (Nat.le_of_ble_eq_true rfl) rfl (Nat.le_of_ble_eq_true rfl) dX10_run_94 (by omega) rfl (zX2_perform (d := d - 1) (by omega) a1 M7 (mv_bindE h)) (fun _ M8 h => ?_)
          refine mv_aload_n 0 dX10_run_97 rfl ?_
          refine mv_getR 6 fX10_49 (by decide) rfl rfl rfl dX10_run_98 ?_
          refine mv_iconst 0 dX10_run_101 (by decide) ?_
          refine mv_putI fX10_184 (by decide) rfl rfl dX10_run_102 (fun M9 eM9 => ?_)
          replace h := mv_letE h M9 eM9
          refine mv_aload_n 0 dX10_run_105 rfl ?_
          refine mv_getR 7 fX10_56 (by decide) rfl rfl rfl dX10_run_106 ?_
          refine mv_getI fX10_207 (by decide) rfl rfl dX10_run_109 ?_
          exact mv_iret rfl dX10_run_112 (Or.inl ⟨_, rfl, h⟩)
        · replace h := mv_ifT z h
          exact mv_throw hl hX10_85 sX10_198 dX10_run_62 dX10_run_65 dX10_run_66 dX10_run_68 dX10_run_71 rfl (by decide) (by omega) (by omega) (Nat.le_of_ble_eq_true rfl) (Or.inr ⟨_, rfl, h⟩)
      · replace h := mv_ifF z h
        refine mv_sub [] rfl ?_
        exact zX10_run_37 hd hl M2 h
  · replace h := mv_ifT z h
    exact mv_throw hl hX10_74 sX10_149 dX10_run_10 dX10_run_13 dX10_run_14 dX10_run_16 dX10_run_19 rfl (by decide) (by omega) (by omega) (Nat.le_of_ble_eq_true rfl) (Or.inr ⟨_, rfl, h⟩)
theorem dX10_told_0 : decode cX10_told 0 = .ok (.iload_n 1, 1) := by decide +kernel
theorem dX10_told_1 : decode cX10_told 1 = .ok (.tableswitch 108 0 6 #[43, 51, 62, 73, 81, 89, 100], 43) := by decide +kernel
theorem dX10_told_44 : decode cX10_told 44 = .ok (.aload_n 0, 1) := by decide +kernel
theorem dX10_told_45 : decode cX10_told 45 = .ok (.getfield 56, 3) := by decide +kernel
theorem dX10_told_48 : decode cX10_told 48 = .ok (.getfield 210, 3) := by decide +kernel
theorem dX10_told_51 : decode cX10_told 51 = .ok (.ireturn, 1) := by decide +kernel
theorem dX10_told_52 : decode cX10_told 52 = .ok (.aload_n 0, 1) := by decide +kernel
theorem dX10_told_53 : decode cX10_told 53 = .ok (.getfield 56, 3) := by decide +kernel
theorem dX10_told_56 : decode cX10_told 56 = .ok (.getfield 213, 3) := by decide +kernel
theorem dX10_told_59 : decode cX10_told 59 = .ok (.getfield 217, 3) := by decide +kernel
theorem dX10_told_62 : decode cX10_told 62 = .ok (.ireturn, 1) := by decide +kernel
theorem dX10_told_63 : decode cX10_told 63 = .ok (.aload_n 0, 1) := by decide +kernel
theorem dX10_told_64 : decode cX10_told 64 = .ok (.getfield 56, 3) := by decide +kernel
theorem dX10_told_67 : decode cX10_told 67 = .ok (.getfield 213, 3) := by decide +kernel
theorem dX10_told_70 : decode cX10_told 70 = .ok (.getfield 222, 3) := by decide +kernel
theorem dX10_told_73 : decode cX10_told 73 = .ok (.ireturn, 1) := by decide +kernel
theorem dX10_told_74 : decode cX10_told 74 = .ok (.aload_n 0, 1) := by decide +kernel
theorem dX10_told_75 : decode cX10_told 75 = .ok (.getfield 56, 3) := by decide +kernel
theorem dX10_told_78 : decode cX10_told 78 = .ok (.getfield 225, 3) := by decide +kernel
theorem dX10_told_81 : decode cX10_told 81 = .ok (.ireturn, 1) := by decide +kernel
theorem dX10_told_82 : decode cX10_told 82 = .ok (.aload_n 0, 1) := by decide +kernel
theorem dX10_told_83 : decode cX10_told 83 = .ok (.getfield 56, 3) := by decide +kernel
theorem dX10_told_86 : decode cX10_told 86 = .ok (.getfield 228, 3) := by decide +kernel
theorem dX10_told_89 : decode cX10_told 89 = .ok (.ireturn, 1) := by decide +kernel
theorem dX10_told_90 : decode cX10_told 90 = .ok (.aload_n 0, 1) := by decide +kernel
theorem dX10_told_91 : decode cX10_told 91 = .ok (.getfield 56, 3) := by decide +kernel
theorem dX10_told_94 : decode cX10_told 94 = .ok (.getfield 213, 3) := by decide +kernel
theorem dX10_told_97 : decode cX10_told 97 = .ok (.invokevirtual 231, 3) := by decide +kernel
theorem dX10_told_100 : decode cX10_told 100 = .ok (.ireturn, 1) := by decide +kernel
theorem dX10_told_101 : decode cX10_told 101 = .ok (.aload_n 0, 1) := by decide +kernel
theorem dX10_told_102 : decode cX10_told 102 = .ok (.getfield 49, 3) := by decide +kernel
theorem dX10_told_105 : decode cX10_told 105 = .ok (.getfield 184, 3) := by decide +kernel
theorem dX10_told_108 : decode cX10_told 108 = .ok (.ireturn, 1) := by decide +kernel
theorem dX10_told_109 : decode cX10_told 109 = .ok (.new 124, 3) := by decide +kernel
theorem dX10_told_112 : decode cX10_told 112 = .ok (.dup, 1) := by decide +kernel
theorem dX10_told_113 : decode cX10_told 113 = .ok (.ldc 126, 2) := by decide +kernel
theorem dX10_told_115 : decode cX10_told 115 = .ok (.invokespecial 128, 3) := by decide +kernel
theorem dX10_told_118 : decode cX10_told 118 = .ok (.athrow, 1) := by decide +kernel
noncomputable def fX10_told (a0 : Int32) (M : mv_M) : Option ((Int32 ⊕ String) × mv_M) :=
  if a0 = 0 then
    some (.inl (M.1 7 3), M)
  else
    if a0 = 1 then
      some (.inl (M.1 8 0), M)
    else
      if a0 = 2 then
        some (.inl (M.1 8 1), M)
      else
        if a0 = 3 then
          some (.inl (M.1 7 4), M)
        else
          if a0 = 4 then
            some (.inl (M.1 7 5), M)
          else
            if a0 = 5 then
              mv_bind (fX7_neverNeeded M) fun r7 M8 =>
              some (.inl r7, M8)
            else
              if a0 = 6 then
                some (.inl (M.1 6 0), M)
              else
                some (.inr "java/lang/IndexOutOfBoundsException", M)
set_option maxRecDepth 100000 in
set_option maxHeartbeats 4000000 in
theorem zX10_told {l : Launch} {d : Nat} {Q : (Int32 ⊕ String) → mv_M → Prop} (hd : 7 ≤ d) (hl : l.stackTraces = false) (a0 : Int32) (M : mv_M) (h : mv_ok (fX10_told a0 M) Q) : mv l mX10_told d 4 0 (lv_args 0 [.ref 0, .int a0]) [] M (mv_xI Q) := by
  unfold fX10_told at h
  show mv l mX10_told d 4 0 [(0, .ref 0), (1, .int a0)] [] M (mv_xI Q)
  refine mv_iload_n 1 dX10_told_0 rfl ?_
  by_cases z1 : a0 = 0
  · replace h := mv_ifT z1 h
    refine mv_tableIn (off := 43) 44 dX10_told_1 (by rw [z1]; decide) (by rw [z1]; decide) (by rw [z1]; rfl) (by decide) ?_
    refine mv_aload_n 0 dX10_told_44 rfl ?_
    refine mv_getR 7 fX10_56 (by decide) rfl rfl rfl dX10_told_45 ?_
    refine mv_getI fX10_210 (by decide) rfl rfl dX10_told_48 ?_
    exact mv_iret rfl dX10_told_51 (Or.inl ⟨_, rfl, h⟩)
  · replace h := mv_ifF z1 h
    by_cases z2 : a0 = 1
    · replace h := mv_ifT z2 h
      refine mv_tableIn (off := 51) 52 dX10_told_1 (by rw [z2]; decide) (by rw [z2]; decide) (by rw [z2]; rfl) (by decide) ?_
      refine mv_aload_n 0 dX10_told_52 rfl ?_
      refine mv_getR 7 fX10_56 (by decide) rfl rfl rfl dX10_told_53 ?_
      refine mv_getR 8 fX10_213 (by decide) rfl rfl rfl dX10_told_56 ?_
      refine mv_getI fX10_217 (by decide) rfl rfl dX10_told_59 ?_
      exact mv_iret rfl dX10_told_62 (Or.inl ⟨_, rfl, h⟩)
    · replace h := mv_ifF z2 h
      by_cases z3 : a0 = 2
      · replace h := mv_ifT z3 h
        refine mv_tableIn (off := 62) 63 dX10_told_1 (by rw [z3]; decide) (by rw [z3]; decide) (by rw [z3]; rfl) (by decide) ?_
        refine mv_aload_n 0 dX10_told_63 rfl ?_
        refine mv_getR 7 fX10_56 (by decide) rfl rfl rfl dX10_told_64 ?_
        refine mv_getR 8 fX10_213 (by decide) rfl rfl rfl dX10_told_67 ?_
        refine mv_getI fX10_222 (by decide) rfl rfl dX10_told_70 ?_
        exact mv_iret rfl dX10_told_73 (Or.inl ⟨_, rfl, h⟩)
      · replace h := mv_ifF z3 h
        by_cases z4 : a0 = 3
        · replace h := mv_ifT z4 h
          refine mv_tableIn (off := 73) 74 dX10_told_1 (by rw [z4]; decide) (by rw [z4]; decide) (by rw [z4]; rfl) (by decide) ?_
          refine mv_aload_n 0 dX10_told_74 rfl ?_
          refine mv_getR 7 fX10_56 (by decide) rfl rfl rfl dX10_told_75 ?_
          refine mv_getI fX10_225 (by decide) rfl rfl dX10_told_78 ?_
          exact mv_iret rfl dX10_told_81 (Or.inl ⟨_, rfl, h⟩)
        · replace h := mv_ifF z4 h
          by_cases z5 : a0 = 4
          · replace h := mv_ifT z5 h
            refine mv_tableIn (off := 81) 82 dX10_told_1 (by rw [z5]; decide) (by rw [z5]; decide) (by rw [z5]; rfl) (by decide) ?_
            refine mv_aload_n 0 dX10_told_82 rfl ?_
            refine mv_getR 7 fX10_56 (by decide) rfl rfl rfl dX10_told_83 ?_
            refine mv_getI fX10_228 (by decide) rfl rfl dX10_told_86 ?_
            exact mv_iret rfl dX10_told_89 (Or.inl ⟨_, rfl, h⟩)
          · replace h := mv_ifF z5 h
            by_cases z6 : a0 = 5
            · replace h := mv_ifT z6 h
              refine mv_tableIn (off := 89) 90 dX10_told_1 (by rw [z6]; decide) (by rw [z6]; decide) (by rw [z6]; rfl) (by decide) ?_
              refine mv_aload_n 0 dX10_told_90 rfl ?_
              refine mv_getR 7 fX10_56 (by decide) rfl rfl rfl dX10_told_91 ?_
              refine mv_getR 8 fX10_213 (by decide) rfl rfl rfl dX10_told_94 ?_
              refine mv_cvI (As := []) (st := []) okX7_neverNeeded lX10_231 (by decide) rfl rfl rfl (Nat.le_of_ble_eq_true rfl) rfl (Nat.le_of_ble_eq_true rfl) dX10_told_97 (by omega) rfl (zX7_neverNeeded (d := d - 1) (by omega) M (mv_bindE h)) (fun r7 M8 h => ?_)
              exact mv_iret rfl dX10_told_100 (Or.inl ⟨_, rfl, h⟩)
            · replace h := mv_ifF z6 h
              by_cases z9 : a0 = 6
              · replace h := mv_ifT z9 h
                refine mv_tableIn (off := 100) 101 dX10_told_1 (by rw [z9]; decide) (by rw [z9]; decide) (by rw [z9]; rfl) (by decide) ?_
                refine mv_aload_n 0 dX10_told_101 rfl ?_
                refine mv_getR 6 fX10_49 (by decide) rfl rfl rfl dX10_told_102 ?_
                refine mv_getI fX10_184 (by decide) rfl rfl dX10_told_105 ?_
                exact mv_iret rfl dX10_told_108 (Or.inl ⟨_, rfl, h⟩)
              · replace h := mv_ifF z9 h
                refine mv_tableOut 109 dX10_told_1 (by have q0 := mv_ne 0 (v := 0) (by decide) z1; have q1 := mv_ne 1 (v := 1) (by decide) z2; have q2 := mv_ne 2 (v := 2) (by decide) z3; have q3 := mv_ne 3 (v := 3) (by decide) z4; have q4 := mv_ne 4 (v := 4) (by decide) z5; have q5 := mv_ne 5 (v := 5) (by decide) z6; have q6 := mv_ne 6 (v := 6) (by decide) z9; omega) (by decide) ?_
                exact mv_throw hl hX10_124 sX10_126 dX10_told_109 dX10_told_112 dX10_told_113 dX10_told_115 dX10_told_118 rfl (by decide) (by omega) (by omega) (Nat.le_of_ble_eq_true rfl) (Or.inr ⟨_, rfl, h⟩)
theorem dX10_result_0 : decode cX10_result 0 = .ok (.iload_n 1, 1) := by decide +kernel
theorem dX10_result_1 : decode cX10_result 1 = .ok (.ifCond .lt 20, 3) := by decide +kernel
theorem dX10_result_4 : decode cX10_result 4 = .ok (.iload_n 1, 1) := by decide +kernel
theorem dX10_result_5 : decode cX10_result 5 = .ok (.bipush 6, 2) := by decide +kernel
theorem dX10_result_7 : decode cX10_result 7 = .ok (.if_icmp .gt 14, 3) := by decide +kernel
theorem dX10_result_10 : decode cX10_result 10 = .ok (.aload_n 0, 1) := by decide +kernel
theorem dX10_result_11 : decode cX10_result 11 = .ok (.getfield 56, 3) := by decide +kernel
theorem dX10_result_14 : decode cX10_result 14 = .ok (.iload_n 1, 1) := by decide +kernel
theorem dX10_result_15 : decode cX10_result 15 = .ok (.invokevirtual 234, 3) := by decide +kernel
theorem dX10_result_18 : decode cX10_result 18 = .ok (.ifCond .ne 13, 3) := by decide +kernel
theorem dX10_result_21 : decode cX10_result 21 = .ok (.new 124, 3) := by decide +kernel
theorem dX10_result_24 : decode cX10_result 24 = .ok (.dup, 1) := by decide +kernel
theorem dX10_result_25 : decode cX10_result 25 = .ok (.ldc 237, 2) := by decide +kernel
theorem dX10_result_27 : decode cX10_result 27 = .ok (.invokespecial 128, 3) := by decide +kernel
theorem dX10_result_30 : decode cX10_result 30 = .ok (.athrow, 1) := by decide +kernel
theorem dX10_result_31 : decode cX10_result 31 = .ok (.aload_n 0, 1) := by decide +kernel
theorem dX10_result_32 : decode cX10_result 32 = .ok (.getfield 56, 3) := by decide +kernel
theorem dX10_result_35 : decode cX10_result 35 = .ok (.iload_n 1, 1) := by decide +kernel
theorem dX10_result_36 : decode cX10_result 36 = .ok (.invokevirtual 239, 3) := by decide +kernel
theorem dX10_result_39 : decode cX10_result 39 = .ok (.ireturn, 1) := by decide +kernel
noncomputable def fX10_result_21 (M : mv_M) : Option ((Int32 ⊕ String) × mv_M) :=
  some (.inr "java/lang/IndexOutOfBoundsException", M)
set_option maxRecDepth 100000 in
set_option maxHeartbeats 4000000 in
theorem zX10_result_21 {l : Launch} {d : Nat} {Q : (Int32 ⊕ String) → mv_M → Prop} (hd : 17 ≤ d) (hl : l.stackTraces = false) (M : mv_M) (h : mv_ok (fX10_result_21 M) Q) : mv l mX10_result d 4 21 [] [] M (mv_xI Q) := by
  unfold fX10_result_21 at h
  exact mv_throw hl hX10_124 sX10_237 dX10_result_21 dX10_result_24 dX10_result_25 dX10_result_27 dX10_result_30 rfl (by decide) (by omega) (by omega) (Nat.le_of_ble_eq_true rfl) (Or.inr ⟨_, rfl, h⟩)
noncomputable def fX10_result (a0 : Int32) (M : mv_M) : Option ((Int32 ⊕ String) × mv_M) :=
  if a0 < 0 then
    fX10_result_21 M
  else
    if 6 < a0 then
      fX10_result_21 M
    else
      mv_bind (fX2_hasNumber a0 M) fun r1 M2 =>
      if r1 = 0 then
        fX10_result_21 M2
      else
        mv_bind (fX2_numberAt a0 M2) fun r3 M4 =>
        some (.inl r3, M4)
set_option maxRecDepth 100000 in
set_option maxHeartbeats 4000000 in
theorem zX10_result {l : Launch} {d : Nat} {Q : (Int32 ⊕ String) → mv_M → Prop} (hd : 17 ≤ d) (hl : l.stackTraces = false) (a0 : Int32) (M : mv_M) (h : mv_ok (fX10_result a0 M) Q) : mv l mX10_result d 4 0 (lv_args 0 [.ref 0, .int a0]) [] M (mv_xI Q) := by
  unfold fX10_result at h
  show mv l mX10_result d 4 0 [(0, .ref 0), (1, .int a0)] [] M (mv_xI Q)
  refine mv_iload_n 1 dX10_result_0 rfl ?_
  refine mv_if_lt 21 dX10_result_1 (by decide) (fun z => ?_) (fun z => ?_)
  · replace h := mv_ifT z h
    refine mv_sub [] rfl ?_
    exact zX10_result_21 hd hl M h
  · replace h := mv_ifF z h
    refine mv_iload_n 1 dX10_result_4 rfl ?_
    refine mv_bipush 6 dX10_result_5 (by decide) ?_
    refine mv_icmp_gt 21 dX10_result_7 (by decide) (fun z => ?_) (fun z => ?_)
    · replace h := mv_ifT z h
      refine mv_sub [] rfl ?_
      exact zX10_result_21 hd hl M h
    · replace h := mv_ifF z h
      refine mv_aload_n 0 dX10_result_10 rfl ?_
      refine mv_getR 7 fX10_56 (by decide) rfl rfl rfl dX10_result_11 ?_
      refine mv_iload_n 1 dX10_result_14 rfl ?_
      refine mv_cvI (As := [.int a0]) (st := []) okX2_hasNumber lX10_234 (by decide) rfl rfl rfl (Nat.le_of_ble_eq_true rfl) rfl (Nat.le_of_ble_eq_true rfl) dX10_result_15 (by omega) rfl (zX2_hasNumber (d := d - 1) (by omega) a0 M (mv_bindE h)) (fun r1 M2 h => ?_)
      refine mv_if_ne 31 dX10_result_18 (by decide) (fun z => ?_) (fun z => ?_)
      · replace h := mv_ifF z h
        refine mv_aload_n 0 dX10_result_31 rfl ?_
        refine mv_getR 7 fX10_56 (by decide) rfl rfl rfl dX10_result_32 ?_
        refine mv_iload_n 1 dX10_result_35 rfl ?_
        refine mv_cvI (As := [.int a0]) (st := []) okX2_numberAt lX10_239 (by decide) rfl rfl rfl (Nat.le_of_ble_eq_true rfl) rfl (Nat.le_of_ble_eq_true rfl) dX10_result_36 (by omega) rfl (zX2_numberAt (d := d - 1) (by omega) a0 M2 (mv_bindE h)) (fun r3 M4 h => ?_)
        exact mv_iret rfl dX10_result_39 (Or.inl ⟨_, rfl, h⟩)
      · replace h := mv_ifT z h
        refine mv_sub [] rfl ?_
        exact zX10_result_21 hd hl M2 h
theorem dX10_needed_0 : decode cX10_needed 0 = .ok (.aload_n 0, 1) := by decide +kernel
theorem dX10_needed_1 : decode cX10_needed 1 = .ok (.getfield 63, 3) := by decide +kernel
theorem dX10_needed_4 : decode cX10_needed 4 = .ok (.aload_n 0, 1) := by decide +kernel
theorem dX10_needed_5 : decode cX10_needed 5 = .ok (.getfield 56, 3) := by decide +kernel
theorem dX10_needed_8 : decode cX10_needed 8 = .ok (.getfield 242, 3) := by decide +kernel
theorem dX10_needed_11 : decode cX10_needed 11 = .ok (.iload_n 1, 1) := by decide +kernel
theorem dX10_needed_12 : decode cX10_needed 12 = .ok (.invokevirtual 120, 3) := by decide +kernel
theorem dX10_needed_15 : decode cX10_needed 15 = .ok (.ifCond .ne 13, 3) := by decide +kernel
theorem dX10_needed_18 : decode cX10_needed 18 = .ok (.new 124, 3) := by decide +kernel
theorem dX10_needed_21 : decode cX10_needed 21 = .ok (.dup, 1) := by decide +kernel
theorem dX10_needed_22 : decode cX10_needed 22 = .ok (.ldc 245, 2) := by decide +kernel
theorem dX10_needed_24 : decode cX10_needed 24 = .ok (.invokespecial 128, 3) := by decide +kernel
theorem dX10_needed_27 : decode cX10_needed 27 = .ok (.athrow, 1) := by decide +kernel
theorem dX10_needed_28 : decode cX10_needed 28 = .ok (.aload_n 0, 1) := by decide +kernel
theorem dX10_needed_29 : decode cX10_needed 29 = .ok (.getfield 56, 3) := by decide +kernel
theorem dX10_needed_32 : decode cX10_needed 32 = .ok (.iload_n 1, 1) := by decide +kernel
theorem dX10_needed_33 : decode cX10_needed 33 = .ok (.invokevirtual 247, 3) := by decide +kernel
theorem dX10_needed_36 : decode cX10_needed 36 = .ok (.ireturn, 1) := by decide +kernel
noncomputable def fX10_needed (a0 : Int32) (M : mv_M) : Option ((Int32 ⊕ String) × mv_M) :=
  mv_getp (M.2.2 0 7) fun b1 =>
  mv_bind (fX4_hasParam b1 (M.1 7 1) a0 M) fun r2 M3 =>
  if r2 = 0 then
    some (.inr "java/lang/IndexOutOfBoundsException", M3)
  else
    mv_bind (fX2_wasParamNeeded a0 M3) fun r4 M5 =>
    mv_chk (mv_bt r4) <|
    some (.inl r4, M5)
set_option maxRecDepth 100000 in
set_option maxHeartbeats 4000000 in
theorem zX10_needed {l : Launch} {d : Nat} {Q : (Int32 ⊕ String) → mv_M → Prop} (hd : 7 ≤ d) (hl : l.stackTraces = false) (a0 : Int32) (M : mv_M) (h : mv_ok (fX10_needed a0 M) Q) : mv l mX10_needed d 4 0 (lv_args 0 [.ref 0, .int a0]) [] M (mv_xI Q) := by
  unfold fX10_needed at h
  show mv l mX10_needed d 4 0 [(0, .ref 0), (1, .int a0)] [] M (mv_xI Q)
  refine mv_aload_n 0 dX10_needed_0 rfl ?_
  obtain ⟨b1, eb1, hb1, h⟩ := mv_getpE h
  refine mv_getP b1 fX10_63 (by decide) rfl rfl eb1 dX10_needed_1 ?_
  refine mv_aload_n 0 dX10_needed_4 rfl ?_
  refine mv_getR 7 fX10_56 (by decide) rfl rfl rfl dX10_needed_5 ?_
  refine mv_getI fX10_242 (by decide) rfl rfl dX10_needed_8 ?_
  refine mv_iload_n 1 dX10_needed_11 rfl ?_
  refine mv_cvI (As := [.int (M.1 7 1), .int a0]) (st := []) okX4_hasParam lX10_120 (mv_pN (t := 0) hb1 (by decide)) (by rcases hb1 with rfl | rfl <;> rfl) rfl rfl (Nat.le_of_ble_eq_true rfl) rfl (Nat.le_of_ble_eq_true rfl) dX10_needed_12 (by omega) rfl (zX4_hasParam (d := d - 1) (by omega) b1 (M.1 7 1) a0 M hb1 (mv_bindE h)) (fun r2 M3 h => ?_)
  refine mv_if_ne 28 dX10_needed_15 (by decide) (fun z => ?_) (fun z => ?_)
  · replace h := mv_ifF z h
    refine mv_aload_n 0 dX10_needed_28 rfl ?_
    refine mv_getR 7 fX10_56 (by decide) rfl rfl rfl dX10_needed_29 ?_
    refine mv_iload_n 1 dX10_needed_32 rfl ?_
    refine mv_cvI (As := [.int a0]) (st := []) okX2_wasParamNeeded lX10_247 (by decide) rfl rfl rfl (Nat.le_of_ble_eq_true rfl) rfl (Nat.le_of_ble_eq_true rfl) dX10_needed_33 (by omega) rfl (zX2_wasParamNeeded (d := d - 1) (by omega) a0 M3 (mv_bindE h)) (fun r4 M5 h => ?_)
    obtain ⟨hz6, h⟩ := mv_chkE h
    exact mv_zret (mv_btE hz6) rfl dX10_needed_36 (Or.inl ⟨_, rfl, h⟩)
  · replace h := mv_ifT z h
    exact mv_throw hl hX10_124 sX10_245 dX10_needed_18 dX10_needed_21 dX10_needed_22 dX10_needed_24 dX10_needed_27 rfl (by decide) (by omega) (by omega) (Nat.le_of_ble_eq_true rfl) (Or.inr ⟨_, rfl, h⟩)
