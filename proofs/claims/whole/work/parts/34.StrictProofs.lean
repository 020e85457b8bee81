theorem dX10_read_0 : decode cX10_read 0 = .ok (.aload_n 0, 1) := by decide +kernel
theorem dX10_read_1 : decode cX10_read 1 = .ok (.getfield 10, 3) := by decide +kernel
theorem dX10_read_4 : decode cX10_read 4 = .ok (.invokevirtual 90, 3) := by decide +kernel
theorem dX10_read_7 : decode cX10_read 7 = .ok (.aload_n 0, 1) := by decide +kernel
theorem dX10_read_8 : decode cX10_read 8 = .ok (.getfield 19, 3) := by decide +kernel
theorem dX10_read_11 : decode cX10_read 11 = .ok (.invokevirtual 93, 3) := by decide +kernel
theorem dX10_read_14 : decode cX10_read 14 = .ok (.aload_n 0, 1) := by decide +kernel
theorem dX10_read_15 : decode cX10_read 15 = .ok (.getfield 28, 3) := by decide +kernel
theorem dX10_read_18 : decode cX10_read 18 = .ok (.aload_n 0, 1) := by decide +kernel
theorem dX10_read_19 : decode cX10_read 19 = .ok (.getfield 67, 3) := by decide +kernel
theorem dX10_read_22 : decode cX10_read 22 = .ok (.invokevirtual 96, 3) := by decide +kernel
theorem dX10_read_25 : decode cX10_read 25 = .ok (.aload_n 0, 1) := by decide +kernel
theorem dX10_read_26 : decode cX10_read 26 = .ok (.getfield 35, 3) := by decide +kernel
theorem dX10_read_29 : decode cX10_read 29 = .ok (.aload_n 0, 1) := by decide +kernel
theorem dX10_read_30 : decode cX10_read 30 = .ok (.getfield 67, 3) := by decide +kernel
theorem dX10_read_33 : decode cX10_read 33 = .ok (.invokevirtual 100, 3) := by decide +kernel
theorem dX10_read_36 : decode cX10_read 36 = .ok (.aload_n 0, 1) := by decide +kernel
theorem dX10_read_37 : decode cX10_read 37 = .ok (.getfield 19, 3) := by decide +kernel
theorem dX10_read_40 : decode cX10_read 40 = .ok (.iconst 0, 1) := by decide +kernel
theorem dX10_read_41 : decode cX10_read 41 = .ok (.putfield 70, 3) := by decide +kernel
theorem dX10_read_44 : decode cX10_read 44 = .ok (.aload_n 0, 1) := by decide +kernel
theorem dX10_read_45 : decode cX10_read 45 = .ok (.getfield 10, 3) := by decide +kernel
theorem dX10_read_48 : decode cX10_read 48 = .ok (.getfield 103, 3) := by decide +kernel
theorem dX10_read_51 : decode cX10_read 51 = .ok (.ifCond .eq 12, 3) := by decide +kernel
theorem dX10_read_54 : decode cX10_read 54 = .ok (.aload_n 0, 1) := by decide +kernel
theorem dX10_read_55 : decode cX10_read 55 = .ok (.getfield 10, 3) := by decide +kernel
theorem dX10_read_58 : decode cX10_read 58 = .ok (.getfield 103, 3) := by decide +kernel
theorem dX10_read_61 : decode cX10_read 61 = .ok (.ineg, 1) := by decide +kernel
theorem dX10_read_62 : decode cX10_read 62 = .ok (.ireturn, 1) := by decide +kernel
theorem dX10_read_63 : decode cX10_read 63 = .ok (.aload_n 0, 1) := by decide +kernel
theorem dX10_read_64 : decode cX10_read 64 = .ok (.getfield 63, 3) := by decide +kernel
theorem dX10_read_67 : decode cX10_read 67 = .ok (.astore_n 1, 1) := by decide +kernel
theorem dX10_read_68 : decode cX10_read 68 = .ok (.aload_n 0, 1) := by decide +kernel
theorem dX10_read_69 : decode cX10_read 69 = .ok (.aload_n 0, 1) := by decide +kernel
theorem dX10_read_70 : decode cX10_read 70 = .ok (.getfield 67, 3) := by decide +kernel
theorem dX10_read_73 : decode cX10_read 73 = .ok (.putfield 63, 3) := by decide +kernel
theorem dX10_read_76 : decode cX10_read 76 = .ok (.aload_n 0, 1) := by decide +kernel
theorem dX10_read_77 : decode cX10_read 77 = .ok (.aload_n 1, 1) := by decide +kernel
theorem dX10_read_78 : decode cX10_read 78 = .ok (.putfield 67, 3) := by decide +kernel
theorem dX10_read_81 : decode cX10_read 81 = .ok (.aload_n 0, 1) := by decide +kernel
theorem dX10_read_82 : decode cX10_read 82 = .ok (.getfield 42, 3) := by decide +kernel
theorem dX10_read_85 : decode cX10_read 85 = .ok (.invokevirtual 106, 3) := by decide +kernel
theorem dX10_read_88 : decode cX10_read 88 = .ok (.aload_n 0, 1) := by decide +kernel
theorem dX10_read_89 : decode cX10_read 89 = .ok (.getfield 56, 3) := by decide +kernel
theorem dX10_read_92 : decode cX10_read 92 = .ok (.invokevirtual 109, 3) := by decide +kernel
theorem dX10_read_95 : decode cX10_read 95 = .ok (.aload_n 0, 1) := by decide +kernel
theorem dX10_read_96 : decode cX10_read 96 = .ok (.getfield 63, 3) := by decide +kernel
theorem dX10_read_99 : decode cX10_read 99 = .ok (.getfield 110, 3) := by decide +kernel
theorem dX10_read_102 : decode cX10_read 102 = .ok (.ireturn, 1) := by decide +kernel
def fX10_read (M : mv_M) : Option (Int32 × mv_M) :=
  mv_bind (fX0_clear M) fun _ M1 =>
  mv_bind (fX8_scan M1) fun _ M2 =>
  mv_getp (M2.2.2 0 8) fun b3 =>
  mv_bind (fX3_parse b3 M2) fun _ M4 =>
  mv_getp (M4.2.2 0 8) fun b5 =>
  mv_bind (fX9_judge b5 M4) fun _ M6 =>
  mv_let (mv_si M6 2 1 0) fun M7 =>
  if (M7.1 1 0) = 0 then
    mv_getp (M7.2.2 0 7) fun b8 =>
    mv_getp (M7.2.2 0 8) fun b9 =>
    mv_let (mv_sr M7 0 7 (some b9)) fun M10 =>
    mv_let (mv_sr M10 0 8 (some b8)) fun M11 =>
    mv_bind (fX5_forget M11) fun _ M12 =>
    mv_bind (fX2_forget M12) fun _ M13 =>
    mv_getp (M13.2.2 0 7) fun b14 =>
    some (M13.1 b14 0, M13)
  else
    some (-(M7.1 1 0), M7)
set_option maxRecDepth 100000 in
set_option maxHeartbeats 4000000 in
theorem zX10_read {l : Launch} {d : Nat} {Q : Int32 → mv_M → Prop} (hd : 327 ≤ d) (M : mv_M) (h : mv_ok (fX10_read M) Q) : mv l mX10_read d 0 0 (lv_args 0 [.ref 0]) [] M (mv_qI Q) := by
  unfold fX10_read at h
  show mv l mX10_read d 0 0 [(0, .ref 0)] [] M (mv_qI Q)
  refine mv_aload_n 0 dX10_read_0 rfl ?_
  refine mv_getR 1 fX10_10 (by decide) rfl rfl rfl dX10_read_1 ?_
  refine mv_cvV (As := []) (st := []) okX0_clear lX10_90 (by decide) rfl rfl rfl (Nat.le_of_ble_eq_true rfl) rfl (Nat.le_of_ble_eq_true rfl) dX10_read_4 (by omega) (zX0_clear (d := d - 1) (by omega) M (mv_bindE h)) (fun _ M1 h => ?_)
  refine mv_aload_n 0 dX10_read_7 rfl ?_
  refine mv_getR 2 fX10_19 (by decide) rfl rfl rfl dX10_read_8 ?_
  refine mv_cvV (As := []) (st := []) okX8_scan lX10_93 (by decide) rfl rfl rfl (Nat.le_of_ble_eq_true rfl) rfl (Nat.le_of_ble_eq_true rfl) dX10_read_11 (by omega) (zX8_scan (d := d - 1) (by omega) M1 (mv_bindE h)) (fun _ M2 h => ?_)
  refine mv_aload_n 0 dX10_read_14 rfl ?_
  refine mv_getR 3 fX10_28 (by decide) rfl rfl rfl dX10_read_15 ?_
  refine mv_aload_n 0 dX10_read_18 rfl ?_
  obtain ⟨b3, eb3, hb3, h⟩ := mv_getpE h
  refine mv_getP b3 fX10_67 (by decide) rfl rfl eb3 dX10_read_19 ?_
  refine mv_cvV (As := [.ref b3]) (st := []) okX3_parse lX10_96 (by decide) rfl rfl rfl (Nat.le_of_ble_eq_true rfl) rfl (Nat.le_of_ble_eq_true rfl) dX10_read_22 (by omega) (zX3_parse (d := d - 1) (by omega) b3 M2 hb3 (mv_bindE h)) (fun _ M4 h => ?_)
  refine mv_aload_n 0 dX10_read_25 rfl ?_
  refine mv_getR 4 fX10_35 (by decide) rfl rfl rfl dX10_read_26 ?_
  refine mv_aload_n 0 dX10_read_29 rfl ?_
  obtain ⟨b5, eb5, hb5, h⟩ := mv_getpE h
  refine mv_getP b5 fX10_67 (by decide) rfl rfl eb5 dX10_read_30 ?_
  refine mv_cvV (As := [.ref b5]) (st := []) okX9_judge lX10_100 (by decide) rfl rfl rfl (Nat.le_of_ble_eq_true rfl) rfl (Nat.le_of_ble_eq_true rfl) dX10_read_33 (by omega) (zX9_judge (d := d - 1) (by omega) b5 M4 hb5 (mv_bindE h)) (fun _ M6 h => ?_)
  refine mv_aload_n 0 dX10_read_36 rfl ?_
  refine mv_getR 2 fX10_19 (by decide) rfl rfl rfl dX10_read_37 ?_
  refine mv_iconst 0 dX10_read_40 (by decide) ?_
  refine mv_putI fX10_70 (by decide) rfl rfl dX10_read_41 (fun M7 eM7 => ?_)
  replace h := mv_letE h M7 eM7
  refine mv_aload_n 0 dX10_read_44 rfl ?_
  refine mv_getR 1 fX10_10 (by decide) rfl rfl rfl dX10_read_45 ?_
  refine mv_getI fX10_103 (by decide) rfl rfl dX10_read_48 ?_
  refine mv_if_eq 63 dX10_read_51 (by decide) (fun z => ?_) (fun z => ?_)
  · replace h := mv_ifT z h
    refine mv_aload_n 0 dX10_read_63 rfl ?_
    obtain ⟨b8, eb8, hb8, h⟩ := mv_getpE h
    refine mv_getP b8 fX10_63 (by decide) rfl rfl eb8 dX10_read_64 ?_
    refine mv_astore_n [(1, .ref b8), (0, .ref 0)] dX10_read_67 (by decide) rfl ?_
    refine mv_aload_n 1 dX10_read_68 rfl ?_
    refine mv_aload_n 1 dX10_read_69 rfl ?_
    obtain ⟨b9, eb9, hb9, h⟩ := mv_getpE h
    refine mv_getP b9 fX10_67 (by decide) rfl rfl eb9 dX10_read_70 ?_
    refine mv_putR fX10_63 (by decide) rfl rfl dX10_read_73 (fun M10 eM10 => ?_)
    replace h := mv_letE h M10 eM10
    refine mv_aload_n 1 dX10_read_76 rfl ?_
    refine mv_aload_n 0 dX10_read_77 rfl ?_
    refine mv_putR fX10_67 (by decide) rfl rfl dX10_read_78 (fun M11 eM11 => ?_)
    replace h := mv_letE h M11 eM11
    refine mv_aload_n 1 dX10_read_81 rfl ?_
    refine mv_getR 5 fX10_42 (by decide) rfl rfl rfl dX10_read_82 ?_
    refine mv_cvV (As := []) (st := []) okX5_forget lX10_106 (by decide) rfl rfl rfl (Nat.le_of_ble_eq_true rfl) rfl (Nat.le_of_ble_eq_true rfl) dX10_read_85 (by omega) (zX5_forget (d := d - 1) (by omega) M11 (mv_bindE h)) (fun _ M12 h => ?_)
    refine mv_aload_n 1 dX10_read_88 rfl ?_
    refine mv_getR 7 fX10_56 (by decide) rfl rfl rfl dX10_read_89 ?_
    refine mv_cvV (As := []) (st := []) okX2_forget lX10_109 (by decide) rfl rfl rfl (Nat.le_of_ble_eq_true rfl) rfl (Nat.le_of_ble_eq_true rfl) dX10_read_92 (by omega) (zX2_forget (d := d - 1) (by omega) M12 (mv_bindE h)) (fun _ M13 h => ?_)
    refine mv_aload_n 1 dX10_read_95 rfl ?_
    obtain ⟨b14, eb14, hb14, h⟩ := mv_getpE h
    refine mv_getP b14 fX10_63 (by decide) rfl rfl eb14 dX10_read_96 ?_
    refine mv_getI fX10_110 (mv_pN (t := 0) hb14 (by decide)) (by rcases hb14 with rfl | rfl <;> rfl) rfl dX10_read_99 ?_
    exact mv_iret rfl dX10_read_102 ⟨_, rfl, h⟩
  · replace h := mv_ifF z h
    refine mv_aload_n 0 dX10_read_54 rfl ?_
    refine mv_getR 1 fX10_10 (by decide) rfl rfl rfl dX10_read_55 ?_
    refine mv_getI fX10_103 (by decide) rfl rfl dX10_read_58 ?_
    refine mv_ineg dX10_read_61 ?_
    exact mv_iret rfl dX10_read_62 ⟨_, rfl, h⟩
theorem dX10_place_0 : decode cX10_place 0 = .ok (.aload_n 0, 1) := by decide +kernel
theorem dX10_place_1 : decode cX10_place 1 = .ok (.getfield 10, 3) := by decide +kernel
theorem dX10_place_4 : decode cX10_place 4 = .ok (.getfield 113, 3) := by decide +kernel
theorem dX10_place_7 : decode cX10_place 7 = .ok (.ireturn, 1) := by decide +kernel
def fX10_place (M : mv_M) : Option (Int32 × mv_M) :=
  some (M.1 1 1, M)
set_option maxRecDepth 100000 in
set_option maxHeartbeats 4000000 in
theorem zX10_place {l : Launch} {d : Nat} {Q : Int32 → mv_M → Prop} (hd : 0 ≤ d) (M : mv_M) (h : mv_ok (fX10_place M) Q) : mv l mX10_place d 0 0 (lv_args 0 [.ref 0]) [] M (mv_qI Q) := by
  unfold fX10_place at h
  show mv l mX10_place d 0 0 [(0, .ref 0)] [] M (mv_qI Q)
  refine mv_aload_n 0 dX10_place_0 rfl ?_
  refine mv_getR 1 fX10_10 (by decide) rfl rfl rfl dX10_place_1 ?_
  refine mv_getI fX10_113 (by decide) rfl rfl dX10_place_4 ?_
  exact mv_iret rfl dX10_place_7 ⟨_, rfl, h⟩
