theorem dX9_open_0 : decode cX9_open 0 = .ok (.aload_n 0, 1) := by decide +kernel
theorem dX9_open_1 : decode cX9_open 1 = .ok (.getfield 41, 3) := by decide +kernel
theorem dX9_open_4 : decode cX9_open 4 = .ok (.bipush 16, 2) := by decide +kernel
theorem dX9_open_6 : decode cX9_open 6 = .ok (.if_icmp .ge 23, 3) := by decide +kernel
theorem dX9_open_9 : decode cX9_open 9 = .ok (.aload_n 0, 1) := by decide +kernel
theorem dX9_open_10 : decode cX9_open 10 = .ok (.getfield 9, 3) := by decide +kernel
theorem dX9_open_13 : decode cX9_open 13 = .ok (.aload_n 0, 1) := by decide +kernel
theorem dX9_open_14 : decode cX9_open 14 = .ok (.getfield 41, 3) := by decide +kernel
theorem dX9_open_17 : decode cX9_open 17 = .ok (.iload_n 1, 1) := by decide +kernel
theorem dX9_open_18 : decode cX9_open 18 = .ok (.iastore, 1) := by decide +kernel
theorem dX9_open_19 : decode cX9_open 19 = .ok (.aload_n 0, 1) := by decide +kernel
theorem dX9_open_20 : decode cX9_open 20 = .ok (.dup, 1) := by decide +kernel
theorem dX9_open_21 : decode cX9_open 21 = .ok (.getfield 41, 3) := by decide +kernel
theorem dX9_open_24 : decode cX9_open 24 = .ok (.iconst 1, 1) := by decide +kernel
theorem dX9_open_25 : decode cX9_open 25 = .ok (.iadd, 1) := by decide +kernel
theorem dX9_open_26 : decode cX9_open 26 = .ok (.putfield 41, 3) := by decide +kernel
theorem dX9_open_29 : decode cX9_open 29 = .ok (.return_, 1) := by decide +kernel
noncomputable def fX9_open (a0 : Int32) (M : mv_M) : Option (Unit × mv_M) :=
  if 16 ≤ (M.1 4 5) then
    some ((), M)
  else
    mv_chk (mv_inb (M.1 4 5) 16) <|
    mv_let (mv_si M 43 (M.1 4 5).toNatClampNeg a0) fun M2 =>
    mv_let (mv_si M2 4 5 ((M2.1 4 5) + 1)) fun M3 =>
    some ((), M3)
set_option maxRecDepth 100000 in
set_option maxHeartbeats 4000000 in
theorem zX9_open {l : Launch} {d : Nat} {Q : Unit → mv_M → Prop} (hd : 0 ≤ d) (a0 : Int32) (M : mv_M) (h : mv_ok (fX9_open a0 M) Q) : mv l mX9_open d 0 0 (lv_args 0 [.ref 4, .int a0]) [] M (mv_qV Q) := by
  unfold fX9_open at h
  show mv l mX9_open d 0 0 [(0, .ref 4), (1, .int a0)] [] M (mv_qV Q)
  refine mv_aload_n 0 dX9_open_0 rfl ?_
  refine mv_getI fX9_41 (by decide) rfl rfl dX9_open_1 ?_
  refine mv_bipush 16 dX9_open_4 (by decide) ?_
  refine mv_icmp_ge 29 dX9_open_6 (by decide) (fun z => ?_) (fun z => ?_)
  · replace h := mv_ifT z h
    exact mv_vret rfl dX9_open_29 ⟨rfl, h⟩
  · replace h := mv_ifF z h
    refine mv_aload_n 0 dX9_open_9 rfl ?_
    refine mv_getR 43 fX9_9 (by decide) rfl rfl rfl dX9_open_10 ?_
    refine mv_aload_n 0 dX9_open_13 rfl ?_
    refine mv_getI fX9_41 (by decide) rfl rfl dX9_open_14 ?_
    refine mv_iload_n 1 dX9_open_17 rfl ?_
    obtain ⟨hi1, h⟩ := mv_chkE h
    refine mv_ist (by decide) rfl (mv_inE hi1) dX9_open_18 (fun M2 eM2 => ?_)
    replace h := mv_letE h M2 eM2
    refine mv_aload_n 0 dX9_open_19 rfl ?_
    refine mv_dup dX9_open_20 rfl ?_
    refine mv_getI fX9_41 (by decide) rfl rfl dX9_open_21 ?_
    refine mv_iconst 1 dX9_open_24 (by decide) ?_
    refine mv_iadd dX9_open_25 ?_
    refine mv_putI fX9_41 (by decide) rfl rfl dX9_open_26 (fun M3 eM3 => ?_)
    replace h := mv_letE h M3 eM3
    exact mv_vret rfl dX9_open_29 ⟨rfl, h⟩
theorem dX9_tell_0 : decode cX9_tell 0 = .ok (.aload_n 0, 1) := by decide +kernel
theorem dX9_tell_1 : decode cX9_tell 1 = .ok (.getfield 19, 3) := by decide +kernel
theorem dX9_tell_4 : decode cX9_tell 4 = .ok (.iload_n 1, 1) := by decide +kernel
theorem dX9_tell_5 : decode cX9_tell 5 = .ok (.aload_n 0, 1) := by decide +kernel
theorem dX9_tell_6 : decode cX9_tell 6 = .ok (.getfield 15, 3) := by decide +kernel
theorem dX9_tell_9 : decode cX9_tell 9 = .ok (.aload_n 0, 1) := by decide +kernel
theorem dX9_tell_10 : decode cX9_tell 10 = .ok (.getfield 23, 3) := by decide +kernel
theorem dX9_tell_13 : decode cX9_tell 13 = .ok (.getfield 61, 3) := by decide +kernel
theorem dX9_tell_16 : decode cX9_tell 16 = .ok (.iload_n 2, 1) := by decide +kernel
theorem dX9_tell_17 : decode cX9_tell 17 = .ok (.iaload, 1) := by decide +kernel
theorem dX9_tell_18 : decode cX9_tell 18 = .ok (.invokevirtual 64, 3) := by decide +kernel
theorem dX9_tell_21 : decode cX9_tell 21 = .ok (.invokevirtual 70, 3) := by decide +kernel
theorem dX9_tell_24 : decode cX9_tell 24 = .ok (.return_, 1) := by decide +kernel
noncomputable def fX9_tell (a0 : Int32) (a1 : Int32) (M : mv_M) : Option (Unit × mv_M) :=
  mv_getp (M.2.2 4 2) fun b1 =>
  mv_chk (mv_inb a1 1000) <|
  mv_bind (fX8_startOf (M.1 (b1 + 14) a1.toNatClampNeg) M) fun r3 M4 =>
  mv_bind (fX0_tell a0 r3 M4) fun _ M5 =>
  some ((), M5)
set_option maxRecDepth 100000 in
set_option maxHeartbeats 4000000 in
theorem zX9_tell {l : Launch} {d : Nat} {Q : Unit → mv_M → Prop} (hd : 1 ≤ d) (a0 : Int32) (a1 : Int32) (M : mv_M) (h : mv_ok (fX9_tell a0 a1 M) Q) : mv l mX9_tell d 0 0 (lv_args 0 [.ref 4, .int a0, .int a1]) [] M (mv_qV Q) := by
  unfold fX9_tell at h
  show mv l mX9_tell d 0 0 [(0, .ref 4), (1, .int a0), (2, .int a1)] [] M (mv_qV Q)
  refine mv_aload_n 0 dX9_tell_0 rfl ?_
  refine mv_getR 1 fX9_19 (by decide) rfl rfl rfl dX9_tell_1 ?_
  refine mv_iload_n 1 dX9_tell_4 rfl ?_
  refine mv_aload_n 0 dX9_tell_5 rfl ?_
  refine mv_getR 2 fX9_15 (by decide) rfl rfl rfl dX9_tell_6 ?_
  refine mv_aload_n 0 dX9_tell_9 rfl ?_
  obtain ⟨b1, eb1, hb1, h⟩ := mv_getpE h
  refine mv_getP b1 fX9_23 (by decide) rfl rfl eb1 dX9_tell_10 ?_
  refine mv_getR (b1 + 14) fX9_61 (mv_pN (t := 0) hb1 (by decide)) (by rcases hb1 with rfl | rfl <;> rfl) rfl (by rcases hb1 with rfl | rfl <;> rfl) dX9_tell_13 ?_
  refine mv_iload_n 2 dX9_tell_16 rfl ?_
  obtain ⟨hi2, h⟩ := mv_chkE h
  refine mv_ild (mv_pN (t := 14) hb1 (by decide)) (by rcases hb1 with rfl | rfl <;> rfl) (mv_inE hi2) dX9_tell_17 ?_
  refine mv_cvI (As := [.int (M.1 (b1 + 14) a1.toNatClampNeg)]) (st := [.int a0, .ref 1]) okX8_startOf lX9_64 (by decide) rfl rfl rfl (Nat.le_of_ble_eq_true rfl) rfl (Nat.le_of_ble_eq_true rfl) dX9_tell_18 (by omega) rfl (zX8_startOf (d := d - 1) (by omega) (M.1 (b1 + 14) a1.toNatClampNeg) M (mv_bindE h)) (fun r3 M4 h => ?_)
  refine mv_cvV (As := [.int a0, .int r3]) (st := []) okX0_tell lX9_70 (by decide) rfl rfl rfl (Nat.le_of_ble_eq_true rfl) rfl (Nat.le_of_ble_eq_true rfl) dX9_tell_21 (by omega) rfl (zX0_tell (d := d - 1) (by omega) a0 r3 M4 (mv_bindE h)) (fun _ M5 h => ?_)
  exact mv_vret rfl dX9_tell_24 ⟨rfl, h⟩
theorem dX9_typeOfName_0 : decode cX9_typeOfName 0 = .ok (.aload_n 0, 1) := by decide +kernel
theorem dX9_typeOfName_1 : decode cX9_typeOfName 1 = .ok (.getfield 15, 3) := by decide +kernel
theorem dX9_typeOfName_4 : decode cX9_typeOfName 4 = .ok (.aload_n 0, 1) := by decide +kernel
theorem dX9_typeOfName_5 : decode cX9_typeOfName 5 = .ok (.getfield 23, 3) := by decide +kernel
theorem dX9_typeOfName_8 : decode cX9_typeOfName 8 = .ok (.getfield 61, 3) := by decide +kernel
theorem dX9_typeOfName_11 : decode cX9_typeOfName 11 = .ok (.iload_n 1, 1) := by decide +kernel
theorem dX9_typeOfName_12 : decode cX9_typeOfName 12 = .ok (.iaload, 1) := by decide +kernel
theorem dX9_typeOfName_13 : decode cX9_typeOfName 13 = .ok (.invokevirtual 112, 3) := by decide +kernel
theorem dX9_typeOfName_16 : decode cX9_typeOfName 16 = .ok (.lstore_n 2, 1) := by decide +kernel
theorem dX9_typeOfName_17 : decode cX9_typeOfName 17 = .ok (.aload_n 0, 1) := by decide +kernel
theorem dX9_typeOfName_18 : decode cX9_typeOfName 18 = .ok (.getfield 41, 3) := by decide +kernel
theorem dX9_typeOfName_21 : decode cX9_typeOfName 21 = .ok (.iconst 1, 1) := by decide +kernel
theorem dX9_typeOfName_22 : decode cX9_typeOfName 22 = .ok (.isub, 1) := by decide +kernel
theorem dX9_typeOfName_23 : decode cX9_typeOfName 23 = .ok (.istore 4, 2) := by decide +kernel
theorem dX9_typeOfName_25 : decode cX9_typeOfName 25 = .ok (.iload 4, 2) := by decide +kernel
theorem dX9_typeOfName_27 : decode cX9_typeOfName 27 = .ok (.ifCond .lt 66, 3) := by decide +kernel
theorem dX9_typeOfName_30 : decode cX9_typeOfName 30 = .ok (.aload_n 0, 1) := by decide +kernel
theorem dX9_typeOfName_31 : decode cX9_typeOfName 31 = .ok (.getfield 23, 3) := by decide +kernel
theorem dX9_typeOfName_34 : decode cX9_typeOfName 34 = .ok (.aload_n 0, 1) := by decide +kernel
theorem dX9_typeOfName_35 : decode cX9_typeOfName 35 = .ok (.getfield 38, 3) := by decide +kernel
theorem dX9_typeOfName_38 : decode cX9_typeOfName 38 = .ok (.aload_n 0, 1) := by decide +kernel
theorem dX9_typeOfName_39 : decode cX9_typeOfName 39 = .ok (.getfield 9, 3) := by decide +kernel
theorem dX9_typeOfName_42 : decode cX9_typeOfName 42 = .ok (.iload 4, 2) := by decide +kernel
theorem dX9_typeOfName_44 : decode cX9_typeOfName 44 = .ok (.iaload, 1) := by decide +kernel
theorem dX9_typeOfName_45 : decode cX9_typeOfName 45 = .ok (.lload_n 2, 1) := by decide +kernel
theorem dX9_typeOfName_46 : decode cX9_typeOfName 46 = .ok (.invokevirtual 116, 3) := by decide +kernel
theorem dX9_typeOfName_49 : decode cX9_typeOfName 49 = .ok (.ifCond .eq 38, 3) := by decide +kernel
theorem dX9_typeOfName_52 : decode cX9_typeOfName 52 = .ok (.aload_n 0, 1) := by decide +kernel
theorem dX9_typeOfName_53 : decode cX9_typeOfName 53 = .ok (.getfield 23, 3) := by decide +kernel
theorem dX9_typeOfName_56 : decode cX9_typeOfName 56 = .ok (.getfield 106, 3) := by decide +kernel
theorem dX9_typeOfName_59 : decode cX9_typeOfName 59 = .ok (.iload_n 1, 1) := by decide +kernel
theorem dX9_typeOfName_60 : decode cX9_typeOfName 60 = .ok (.aload_n 0, 1) := by decide +kernel
theorem dX9_typeOfName_61 : decode cX9_typeOfName 61 = .ok (.getfield 9, 3) := by decide +kernel
theorem dX9_typeOfName_64 : decode cX9_typeOfName 64 = .ok (.iload 4, 2) := by decide +kernel
theorem dX9_typeOfName_66 : decode cX9_typeOfName 66 = .ok (.iaload, 1) := by decide +kernel
theorem dX9_typeOfName_67 : decode cX9_typeOfName 67 = .ok (.iastore, 1) := by decide +kernel
theorem dX9_typeOfName_68 : decode cX9_typeOfName 68 = .ok (.aload_n 0, 1) := by decide +kernel
theorem dX9_typeOfName_69 : decode cX9_typeOfName 69 = .ok (.getfield 23, 3) := by decide +kernel
theorem dX9_typeOfName_72 : decode cX9_typeOfName 72 = .ok (.aload_n 0, 1) := by decide +kernel
theorem dX9_typeOfName_73 : decode cX9_typeOfName 73 = .ok (.getfield 38, 3) := by decide +kernel
theorem dX9_typeOfName_76 : decode cX9_typeOfName 76 = .ok (.aload_n 0, 1) := by decide +kernel
theorem dX9_typeOfName_77 : decode cX9_typeOfName 77 = .ok (.getfield 9, 3) := by decide +kernel
theorem dX9_typeOfName_80 : decode cX9_typeOfName 80 = .ok (.iload 4, 2) := by decide +kernel
theorem dX9_typeOfName_82 : decode cX9_typeOfName 82 = .ok (.iaload, 1) := by decide +kernel
theorem dX9_typeOfName_83 : decode cX9_typeOfName 83 = .ok (.invokevirtual 120, 3) := by decide +kernel
theorem dX9_typeOfName_86 : decode cX9_typeOfName 86 = .ok (.ireturn, 1) := by decide +kernel
theorem dX9_typeOfName_87 : decode cX9_typeOfName 87 = .ok (.iinc 4 (-1), 3) := by decide +kernel
theorem dX9_typeOfName_90 : decode cX9_typeOfName 90 = .ok (.goto (-65), 3) := by decide +kernel
theorem dX9_typeOfName_93 : decode cX9_typeOfName 93 = .ok (.aload_n 0, 1) := by decide +kernel
theorem dX9_typeOfName_94 : decode cX9_typeOfName 94 = .ok (.iconst 4, 1) := by decide +kernel
theorem dX9_typeOfName_95 : decode cX9_typeOfName 95 = .ok (.iload_n 1, 1) := by decide +kernel
theorem dX9_typeOfName_96 : decode cX9_typeOfName 96 = .ok (.invokevirtual 84, 3) := by decide +kernel
theorem dX9_typeOfName_99 : decode cX9_typeOfName 99 = .ok (.iconst 0, 1) := by decide +kernel
theorem dX9_typeOfName_100 : decode cX9_typeOfName 100 = .ok (.ireturn, 1) := by decide +kernel
noncomputable def gX9_typeOfName_25 (x1 : Int32) (x2 : Int64) (x4 : Int32) (M : mv_M) : Option (((Int32 × Int64 × Int32) ⊕ Int32) × mv_M) :=
  if x4 < 0 then
    mv_bind (fX9_tell 4 x1 M) fun _ M6 =>
    some (.inr (0), M6)
  else
    mv_getp (M.2.2 4 2) fun b7 =>
    mv_chk (mv_inb x4 16) <|
    mv_bind (fX4_isNamed b7 (M.1 4 3) (M.1 43 x4.toNatClampNeg) x2 M) fun r9 M10 =>
    if r9 = 0 then
      mv_let (x4 - 1) fun v11 =>
      some (.inl (x1, x2, v11), M10)
    else
      mv_getp (M10.2.2 4 2) fun b12 =>
      mv_chk (mv_inb x4 16) <|
      mv_chk (mv_inb x1 1000) <|
      mv_let (mv_si M10 (b12 + 9) x1.toNatClampNeg (M10.1 43 x4.toNatClampNeg)) fun M15 =>
      mv_getp (M15.2.2 4 2) fun b16 =>
      mv_chk (mv_inb x4 16) <|
      mv_bind (fX4_nameType b16 (M15.1 4 3) (M15.1 43 x4.toNatClampNeg) M15) fun r18 M19 =>
      some (.inr (r18), M19)
noncomputable def fX9_typeOfName_25 (x1 : Int32) (x2 : Int64) (x4 : Int32) (M : mv_M) : Option (Int32 × mv_M) := mv_loop (fun (s : Int32 × Int64 × Int32) M => gX9_typeOfName_25 s.1 s.2.1 s.2.2 M) (x1, x2, x4) M
set_option maxRecDepth 100000 in
set_option maxHeartbeats 4000000 in
theorem zX9_typeOfName_25 {l : Launch} {d : Nat} {Q : Int32 → mv_M → Prop} (hd : 3 ≤ d) (x1 : Int32) (x2 : Int64) (x4 : Int32) (M : mv_M) (h : mv_ok (fX9_typeOfName_25 x1 x2 x4 M) Q) : mv l mX9_typeOfName d 0 25 [(0, .ref 4), (1, .int x1), (2, .long x2), (4, .int x4)] [] M (mv_qI Q) := by
  unfold fX9_typeOfName_25 at h
  refine mv_loopE (A := (fun (s : Int32 × Int64 × Int32) M => mv l mX9_typeOfName d 0 25 [(0, .ref 4), (1, .int s.1), (2, .long s.2.1), (4, .int s.2.2)] [] M (mv_qI Q))) ?_ (x1, x2, x4) M h
  · rintro ⟨x1, x2, x4⟩ M h
    try dsimp only at h
    show mv l mX9_typeOfName d 0 25 [(0, .ref 4), (1, .int x1), (2, .long x2), (4, .int x4)] [] M (mv_qI Q)
    unfold gX9_typeOfName_25 at h
    refine mv_iload 3 dX9_typeOfName_25 rfl ?_
    refine mv_if_lt 93 dX9_typeOfName_27 (by decide) (fun z => ?_) (fun z => ?_)
    · replace h := mv_ifT z h
      refine mv_aload_n 0 dX9_typeOfName_93 rfl ?_
      refine mv_iconst 4 dX9_typeOfName_94 (by decide) ?_
      refine mv_iload_n 1 dX9_typeOfName_95 rfl ?_
      refine mv_cvV (As := [.int 4, .int x1]) (st := []) okX9_tell lX9_84 (by decide) rfl rfl rfl (Nat.le_of_ble_eq_true rfl) rfl (Nat.le_of_ble_eq_true rfl) dX9_typeOfName_96 (by omega) rfl (zX9_tell (d := d - 1) (by omega) 4 x1 M (mv_bindE h)) (fun _ M6 h => ?_)
      refine mv_iconst 0 dX9_typeOfName_99 (by decide) ?_
      exact mv_iret rfl dX9_typeOfName_100 ⟨_, rfl, h⟩
    · replace h := mv_ifF z h
      refine mv_aload_n 0 dX9_typeOfName_30 rfl ?_
      obtain ⟨b7, eb7, hb7, h⟩ := mv_getpE h
      refine mv_getP b7 fX9_23 (by decide) rfl rfl eb7 dX9_typeOfName_31 ?_
      refine mv_aload_n 0 dX9_typeOfName_34 rfl ?_
      refine mv_getI fX9_38 (by decide) rfl rfl dX9_typeOfName_35 ?_
      refine mv_aload_n 0 dX9_typeOfName_38 rfl ?_
      refine mv_getR 43 fX9_9 (by decide) rfl rfl rfl dX9_typeOfName_39 ?_
      refine mv_iload 3 dX9_typeOfName_42 rfl ?_
      obtain ⟨hi8, h⟩ := mv_chkE h
      refine mv_ild (by decide) rfl (mv_inE hi8) dX9_typeOfName_44 ?_
      refine mv_lload_n 2 dX9_typeOfName_45 rfl ?_
      refine mv_cvI (As := [.int (M.1 4 3), .int (M.1 43 x4.toNatClampNeg), .long x2]) (st := []) okX4_isNamed lX9_116 (mv_pN (t := 0) hb7 (by decide)) (by rcases hb7 with rfl | rfl <;> rfl) rfl rfl (Nat.le_of_ble_eq_true rfl) rfl (Nat.le_of_ble_eq_true rfl) dX9_typeOfName_46 (by omega) rfl (zX4_isNamed (d := d - 1) (by omega) b7 (M.1 4 3) (M.1 43 x4.toNatClampNeg) x2 M hb7 (mv_bindE h)) (fun r9 M10 h => ?_)
      refine mv_if_eq 87 dX9_typeOfName_49 (by decide) (fun z => ?_) (fun z => ?_)
      · replace h := mv_ifT z h
        obtain ⟨v11, ev11⟩ : ∃ z : Int32, z = x4 - 1 := ⟨_, rfl⟩
        replace h := mv_letE h v11 ev11
        refine mv_iinc v11 3 [(4, .int v11), (0, .ref 4), (1, .int x1), (2, .long x2)] dX9_typeOfName_87 rfl (mv_dec 1 (by decide) ev11) (by decide) rfl ?_
        refine mv_goto 25 dX9_typeOfName_90 (by decide) ?_
        refine mv_sub [1, 2, 3, 0] rfl ?_
        exact h
      · replace h := mv_ifF z h
        refine mv_aload_n 0 dX9_typeOfName_52 rfl ?_
        obtain ⟨b12, eb12, hb12, h⟩ := mv_getpE h
        refine mv_getP b12 fX9_23 (by decide) rfl rfl eb12 dX9_typeOfName_53 ?_
        refine mv_getR (b12 + 9) fX9_106 (mv_pN (t := 0) hb12 (by decide)) (by rcases hb12 with rfl | rfl <;> rfl) rfl (by rcases hb12 with rfl | rfl <;> rfl) dX9_typeOfName_56 ?_
        refine mv_iload_n 1 dX9_typeOfName_59 rfl ?_
        refine mv_aload_n 0 dX9_typeOfName_60 rfl ?_
        refine mv_getR 43 fX9_9 (by decide) rfl rfl rfl dX9_typeOfName_61 ?_
        refine mv_iload 3 dX9_typeOfName_64 rfl ?_
        obtain ⟨hi13, h⟩ := mv_chkE h
        refine mv_ild (by decide) rfl (mv_inE hi13) dX9_typeOfName_66 ?_
        obtain ⟨hi14, h⟩ := mv_chkE h
        refine mv_ist (mv_pN (t := 9) hb12 (by decide)) (by rcases hb12 with rfl | rfl <;> rfl) (mv_inE hi14) dX9_typeOfName_67 (fun M15 eM15 => ?_)
        replace h := mv_letE h M15 eM15
        refine mv_aload_n 0 dX9_typeOfName_68 rfl ?_
        obtain ⟨b16, eb16, hb16, h⟩ := mv_getpE h
        refine mv_getP b16 fX9_23 (by decide) rfl rfl eb16 dX9_typeOfName_69 ?_
        refine mv_aload_n 0 dX9_typeOfName_72 rfl ?_
        refine mv_getI fX9_38 (by decide) rfl rfl dX9_typeOfName_73 ?_
        refine mv_aload_n 0 dX9_typeOfName_76 rfl ?_
        refine mv_getR 43 fX9_9 (by decide) rfl rfl rfl dX9_typeOfName_77 ?_
        refine mv_iload 3 dX9_typeOfName_80 rfl ?_
        obtain ⟨hi17, h⟩ := mv_chkE h
        refine mv_ild (by decide) rfl (mv_inE hi17) dX9_typeOfName_82 ?_
        refine mv_cvI (As := [.int (M15.1 4 3), .int (M15.1 43 x4.toNatClampNeg)]) (st := []) okX4_nameType lX9_120 (mv_pN (t := 0) hb16 (by decide)) (by rcases hb16 with rfl | rfl <;> rfl) rfl rfl (Nat.le_of_ble_eq_true rfl) rfl (Nat.le_of_ble_eq_true rfl) dX9_typeOfName_83 (by omega) rfl (zX4_nameType (d := d - 1) (by omega) b16 (M15.1 4 3) (M15.1 43 x4.toNatClampNeg) M15 hb16 (mv_bindE h)) (fun r18 M19 h => ?_)
        exact mv_iret rfl dX9_typeOfName_86 ⟨_, rfl, h⟩
noncomputable def fX9_typeOfName (a0 : Int32) (M : mv_M) : Option (Int32 × mv_M) :=
  mv_getp (M.2.2 4 2) fun b1 =>
  mv_chk (mv_inb a0 1000) <|
  mv_bind (fX8_textOf (M.1 (b1 + 14) a0.toNatClampNeg) M) fun r3 M4 =>
  mv_let ((M4.1 4 5) - 1) fun v5 =>
  fX9_typeOfName_25 a0 r3 v5 M4
set_option maxRecDepth 100000 in
set_option maxHeartbeats 4000000 in
theorem zX9_typeOfName {l : Launch} {d : Nat} {Q : Int32 → mv_M → Prop} (hd : 3 ≤ d) (a0 : Int32) (M : mv_M) (h : mv_ok (fX9_typeOfName a0 M) Q) : mv l mX9_typeOfName d 0 0 (lv_args 0 [.ref 4, .int a0]) [] M (mv_qI Q) := by
  unfold fX9_typeOfName at h
  show mv l mX9_typeOfName d 0 0 [(0, .ref 4), (1, .int a0)] [] M (mv_qI Q)
  refine mv_aload_n 0 dX9_typeOfName_0 rfl ?_
  refine mv_getR 2 fX9_15 (by decide) rfl rfl rfl dX9_typeOfName_1 ?_
  refine mv_aload_n 0 dX9_typeOfName_4 rfl ?_
  obtain ⟨b1, eb1, hb1, h⟩ := mv_getpE h
  refine mv_getP b1 fX9_23 (by decide) rfl rfl eb1 dX9_typeOfName_5 ?_
  refine mv_getR (b1 + 14) fX9_61 (mv_pN (t := 0) hb1 (by decide)) (by rcases hb1 with rfl | rfl <;> rfl) rfl (by rcases hb1 with rfl | rfl <;> rfl) dX9_typeOfName_8 ?_
  refine mv_iload_n 1 dX9_typeOfName_11 rfl ?_
  obtain ⟨hi2, h⟩ := mv_chkE h
  refine mv_ild (mv_pN (t := 14) hb1 (by decide)) (by rcases hb1 with rfl | rfl <;> rfl) (mv_inE hi2) dX9_typeOfName_12 ?_
  refine mv_cvL (As := [.int (M.1 (b1 + 14) a0.toNatClampNeg)]) (st := []) okX8_textOf lX9_112 (by decide) rfl rfl rfl (Nat.le_of_ble_eq_true rfl) rfl (Nat.le_of_ble_eq_true rfl) dX9_typeOfName_13 (by omega) rfl (zX8_textOf (d := d - 1) (by omega) (M.1 (b1 + 14) a0.toNatClampNeg) M (mv_bindE h)) (fun r3 M4 h => ?_)
  refine mv_lstore_n [(2, .long r3), (0, .ref 4), (1, .int a0)] dX9_typeOfName_16 (by decide) rfl ?_
  refine mv_aload_n 1 dX9_typeOfName_17 rfl ?_
  refine mv_getI fX9_41 (by decide) rfl rfl dX9_typeOfName_18 ?_
  refine mv_iconst 1 dX9_typeOfName_21 (by decide) ?_
  refine mv_isub dX9_typeOfName_22 ?_
  refine mv_topi (fun v5 ev5 => ?_)
  replace h := mv_letE h v5 ev5
  refine mv_istore [(4, .int v5), (2, .long r3), (0, .ref 4), (1, .int a0)] dX9_typeOfName_23 (by decide) rfl ?_
  refine mv_sub [2, 3, 1, 0] rfl ?_
  exact zX9_typeOfName_25 hd a0 r3 v5 M4 h
theorem dX9_typeOf_0 : decode cX9_typeOf 0 = .ok (.aload_n 0, 1) := by decide +kernel
theorem dX9_typeOf_1 : decode cX9_typeOf 1 = .ok (.getfield 19, 3) := by decide +kernel
theorem dX9_typeOf_4 : decode cX9_typeOf 4 = .ok (.getfield 33, 3) := by decide +kernel
theorem dX9_typeOf_7 : decode cX9_typeOf 7 = .ok (.ifCond .ne 14, 3) := by decide +kernel
theorem dX9_typeOf_10 : decode cX9_typeOf 10 = .ok (.aload_n 0, 1) := by decide +kernel
theorem dX9_typeOf_11 : decode cX9_typeOf 11 = .ok (.getfield 23, 3) := by decide +kernel
theorem dX9_typeOf_14 : decode cX9_typeOf 14 = .ok (.iload_n 1, 1) := by decide +kernel
theorem dX9_typeOf_15 : decode cX9_typeOf 15 = .ok (.invokevirtual 74, 3) := by decide +kernel
theorem dX9_typeOf_18 : decode cX9_typeOf 18 = .ok (.ifCond .ne 5, 3) := by decide +kernel
theorem dX9_typeOf_21 : decode cX9_typeOf 21 = .ok (.iconst 0, 1) := by decide +kernel
theorem dX9_typeOf_22 : decode cX9_typeOf 22 = .ok (.ireturn, 1) := by decide +kernel
theorem dX9_typeOf_23 : decode cX9_typeOf 23 = .ok (.aload_n 0, 1) := by decide +kernel
theorem dX9_typeOf_24 : decode cX9_typeOf 24 = .ok (.iload_n 1, 1) := by decide +kernel
theorem dX9_typeOf_25 : decode cX9_typeOf 25 = .ok (.iload_n 2, 1) := by decide +kernel
theorem dX9_typeOf_26 : decode cX9_typeOf 26 = .ok (.invokevirtual 78, 3) := by decide +kernel
theorem dX9_typeOf_29 : decode cX9_typeOf 29 = .ok (.istore_n 3, 1) := by decide +kernel
theorem dX9_typeOf_30 : decode cX9_typeOf 30 = .ok (.aload_n 0, 1) := by decide +kernel
theorem dX9_typeOf_31 : decode cX9_typeOf 31 = .ok (.getfield 23, 3) := by decide +kernel
theorem dX9_typeOf_34 : decode cX9_typeOf 34 = .ok (.getfield 81, 3) := by decide +kernel
theorem dX9_typeOf_37 : decode cX9_typeOf 37 = .ok (.iload_n 1, 1) := by decide +kernel
theorem dX9_typeOf_38 : decode cX9_typeOf 38 = .ok (.iload_n 3, 1) := by decide +kernel
theorem dX9_typeOf_39 : decode cX9_typeOf 39 = .ok (.iastore, 1) := by decide +kernel
theorem dX9_typeOf_40 : decode cX9_typeOf 40 = .ok (.iload_n 2, 1) := by decide +kernel
theorem dX9_typeOf_41 : decode cX9_typeOf 41 = .ok (.iconst (-1), 1) := by decide +kernel
theorem dX9_typeOf_42 : decode cX9_typeOf 42 = .ok (.if_icmp .eq 18, 3) := by decide +kernel
theorem dX9_typeOf_45 : decode cX9_typeOf 45 = .ok (.iload_n 2, 1) := by decide +kernel
theorem dX9_typeOf_46 : decode cX9_typeOf 46 = .ok (.iload_n 3, 1) := by decide +kernel
theorem dX9_typeOf_47 : decode cX9_typeOf 47 = .ok (.if_icmp .eq 13, 3) := by decide +kernel
theorem dX9_typeOf_50 : decode cX9_typeOf 50 = .ok (.iload_n 2, 1) := by decide +kernel
theorem dX9_typeOf_51 : decode cX9_typeOf 51 = .ok (.bipush (-2), 2) := by decide +kernel
theorem dX9_typeOf_53 : decode cX9_typeOf 53 = .ok (.if_icmp .ne 11, 3) := by decide +kernel
theorem dX9_typeOf_56 : decode cX9_typeOf 56 = .ok (.iload_n 3, 1) := by decide +kernel
theorem dX9_typeOf_57 : decode cX9_typeOf 57 = .ok (.ifCond .le 7, 3) := by decide +kernel
theorem dX9_typeOf_60 : decode cX9_typeOf 60 = .ok (.iconst 1, 1) := by decide +kernel
theorem dX9_typeOf_61 : decode cX9_typeOf 61 = .ok (.goto 4, 3) := by decide +kernel
theorem dX9_typeOf_64 : decode cX9_typeOf 64 = .ok (.iconst 0, 1) := by decide +kernel
theorem dX9_typeOf_65 : decode cX9_typeOf 65 = .ok (.istore 4, 2) := by decide +kernel
theorem dX9_typeOf_67 : decode cX9_typeOf 67 = .ok (.iload 4, 2) := by decide +kernel
theorem dX9_typeOf_69 : decode cX9_typeOf 69 = .ok (.ifCond .eq 8, 3) := by decide +kernel
theorem dX9_typeOf_72 : decode cX9_typeOf 72 = .ok (.iload_n 3, 1) := by decide +kernel
theorem dX9_typeOf_73 : decode cX9_typeOf 73 = .ok (.iconst (-1), 1) := by decide +kernel
theorem dX9_typeOf_74 : decode cX9_typeOf 74 = .ok (.if_icmp .ne 9, 3) := by decide +kernel
theorem dX9_typeOf_77 : decode cX9_typeOf 77 = .ok (.aload_n 0, 1) := by decide +kernel
theorem dX9_typeOf_78 : decode cX9_typeOf 78 = .ok (.iconst 5, 1) := by decide +kernel
theorem dX9_typeOf_79 : decode cX9_typeOf 79 = .ok (.iload_n 1, 1) := by decide +kernel
theorem dX9_typeOf_80 : decode cX9_typeOf 80 = .ok (.invokevirtual 84, 3) := by decide +kernel
theorem dX9_typeOf_83 : decode cX9_typeOf 83 = .ok (.iload_n 3, 1) := by decide +kernel
theorem dX9_typeOf_84 : decode cX9_typeOf 84 = .ok (.ireturn, 1) := by decide +kernel
noncomputable def fX9_typeOf_77 (r_X9_ownType : Int32 → Int32 → mv_M → Option (Int32 × mv_M)) (x1 : Int32) (x3 : Int32) (M : mv_M) : Option (Int32 × mv_M) :=
  mv_bind (fX9_tell 5 x1 M) fun _ M9 =>
  some (x3, M9)
set_option maxRecDepth 100000 in
set_option maxHeartbeats 4000000 in
theorem zX9_typeOf_77 {l : Launch} {d : Nat} {Q : Int32 → mv_M → Prop} {r_X9_ownType : Int32 → Int32 → mv_M → Option (Int32 × mv_M)} (hd : 2 ≤ d) (hr_X9_ownType : ∀ (a0 : Int32) (a1 : Int32) (M : mv_M) (Q : Int32 → mv_M → Prop), mv_ok (r_X9_ownType a0 a1 M) Q → mv l mX9_ownType (d - 1) 0 0 (lv_args 0 [.ref 4, .int a0, .int a1]) [] M (mv_qI Q)) (x1 : Int32) (x3 : Int32) (M : mv_M) (h : mv_ok (fX9_typeOf_77 r_X9_ownType x1 x3 M) Q) : mv l mX9_typeOf d 0 77 [(0, .ref 4), (1, .int x1), (3, .int x3)] [] M (mv_qI Q) := by
  unfold fX9_typeOf_77 at h
  refine mv_aload_n 0 dX9_typeOf_77 rfl ?_
  refine mv_iconst 5 dX9_typeOf_78 (by decide) ?_
  refine mv_iload_n 1 dX9_typeOf_79 rfl ?_
  refine mv_cvV (As := [.int 5, .int x1]) (st := []) okX9_tell lX9_84 (by decide) rfl rfl rfl (Nat.le_of_ble_eq_true rfl) rfl (Nat.le_of_ble_eq_true rfl) dX9_typeOf_80 (by omega) rfl (zX9_tell (d := d - 1) (by omega) 5 x1 M (mv_bindE h)) (fun _ M9 h => ?_)
  refine mv_iload_n 2 dX9_typeOf_83 rfl ?_
  exact mv_iret rfl dX9_typeOf_84 ⟨_, rfl, h⟩
noncomputable def fX9_typeOf_65 (r_X9_ownType : Int32 → Int32 → mv_M → Option (Int32 × mv_M)) (x1 : Int32) (x3 : Int32) (s0 : Int32) (M : mv_M) : Option (Int32 × mv_M) :=
  if s0 = 0 then
    fX9_typeOf_77 r_X9_ownType x1 x3 M
  else
    if x3 = (-1) then
      fX9_typeOf_77 r_X9_ownType x1 x3 M
    else
      some (x3, M)
set_option maxRecDepth 100000 in
set_option maxHeartbeats 4000000 in
theorem zX9_typeOf_65 {l : Launch} {d : Nat} {Q : Int32 → mv_M → Prop} {r_X9_ownType : Int32 → Int32 → mv_M → Option (Int32 × mv_M)} (hd : 2 ≤ d) (hr_X9_ownType : ∀ (a0 : Int32) (a1 : Int32) (M : mv_M) (Q : Int32 → mv_M → Prop), mv_ok (r_X9_ownType a0 a1 M) Q → mv l mX9_ownType (d - 1) 0 0 (lv_args 0 [.ref 4, .int a0, .int a1]) [] M (mv_qI Q)) (x1 : Int32) (x3 : Int32) (s0 : Int32) (M : mv_M) (h : mv_ok (fX9_typeOf_65 r_X9_ownType x1 x3 s0 M) Q) : mv l mX9_typeOf d 0 65 [(0, .ref 4), (1, .int x1), (3, .int x3)] [.int s0] M (mv_qI Q) := by
  unfold fX9_typeOf_65 at h
  refine mv_istore [(4, .int s0), (0, .ref 4), (1, .int x1), (3, .int x3)] dX9_typeOf_65 (by decide) rfl ?_
  refine mv_iload 0 dX9_typeOf_67 rfl ?_
  refine mv_if_eq 77 dX9_typeOf_69 (by decide) (fun z => ?_) (fun z => ?_)
  · replace h := mv_ifT z h
    refine mv_sub [1, 2, 3] rfl ?_
    exact zX9_typeOf_77 hd hr_X9_ownType x1 x3 M h
  · replace h := mv_ifF z h
    refine mv_iload_n 3 dX9_typeOf_72 rfl ?_
    refine mv_iconst (-1) dX9_typeOf_73 (by decide) ?_
    refine mv_icmp_ne 83 dX9_typeOf_74 (by decide) (fun z => ?_) (fun z => ?_)
    · replace h := mv_ifF z h
      refine mv_iload_n 3 dX9_typeOf_83 rfl ?_
      exact mv_iret rfl dX9_typeOf_84 ⟨_, rfl, h⟩
    · replace h := mv_ifT z h
      refine mv_sub [1, 2, 3] rfl ?_
      exact zX9_typeOf_77 hd hr_X9_ownType x1 x3 M h
noncomputable def fX9_typeOf_60 (r_X9_ownType : Int32 → Int32 → mv_M → Option (Int32 × mv_M)) (x1 : Int32) (x3 : Int32) (M : mv_M) : Option (Int32 × mv_M) :=
  fX9_typeOf_65 r_X9_ownType x1 x3 1 M
set_option maxRecDepth 100000 in
set_option maxHeartbeats 4000000 in
theorem zX9_typeOf_60 {l : Launch} {d : Nat} {Q : Int32 → mv_M → Prop} {r_X9_ownType : Int32 → Int32 → mv_M → Option (Int32 × mv_M)} (hd : 2 ≤ d) (hr_X9_ownType : ∀ (a0 : Int32) (a1 : Int32) (M : mv_M) (Q : Int32 → mv_M → Prop), mv_ok (r_X9_ownType a0 a1 M) Q → mv l mX9_ownType (d - 1) 0 0 (lv_args 0 [.ref 4, .int a0, .int a1]) [] M (mv_qI Q)) (x1 : Int32) (x3 : Int32) (M : mv_M) (h : mv_ok (fX9_typeOf_60 r_X9_ownType x1 x3 M) Q) : mv l mX9_typeOf d 0 60 [(0, .ref 4), (1, .int x1), (3, .int x3)] [] M (mv_qI Q) := by
  unfold fX9_typeOf_60 at h
  refine mv_iconst 1 dX9_typeOf_60 (by decide) ?_
  refine mv_goto 65 dX9_typeOf_61 (by decide) ?_
  refine mv_sub [0, 1, 2] rfl ?_
  exact zX9_typeOf_65 hd hr_X9_ownType x1 x3 1 M h
noncomputable def fX9_typeOf_64 (r_X9_ownType : Int32 → Int32 → mv_M → Option (Int32 × mv_M)) (x1 : Int32) (x3 : Int32) (M : mv_M) : Option (Int32 × mv_M) :=
  fX9_typeOf_65 r_X9_ownType x1 x3 0 M
set_option maxRecDepth 100000 in
set_option maxHeartbeats 4000000 in
theorem zX9_typeOf_64 {l : Launch} {d : Nat} {Q : Int32 → mv_M → Prop} {r_X9_ownType : Int32 → Int32 → mv_M → Option (Int32 × mv_M)} (hd : 2 ≤ d) (hr_X9_ownType : ∀ (a0 : Int32) (a1 : Int32) (M : mv_M) (Q : Int32 → mv_M → Prop), mv_ok (r_X9_ownType a0 a1 M) Q → mv l mX9_ownType (d - 1) 0 0 (lv_args 0 [.ref 4, .int a0, .int a1]) [] M (mv_qI Q)) (x1 : Int32) (x3 : Int32) (M : mv_M) (h : mv_ok (fX9_typeOf_64 r_X9_ownType x1 x3 M) Q) : mv l mX9_typeOf d 0 64 [(0, .ref 4), (1, .int x1), (3, .int x3)] [] M (mv_qI Q) := by
  unfold fX9_typeOf_64 at h
  refine mv_iconst 0 dX9_typeOf_64 (by decide) ?_
  refine mv_sub [0, 1, 2] rfl ?_
  exact zX9_typeOf_65 hd hr_X9_ownType x1 x3 0 M h
noncomputable def fX9_typeOf (r_X9_ownType : Int32 → Int32 → mv_M → Option (Int32 × mv_M)) (a0 : Int32) (a1 : Int32) (M : mv_M) : Option (Int32 × mv_M) :=
  if (M.1 1 0) = 0 then
    mv_getp (M.2.2 4 2) fun b1 =>
    mv_bind (fX4_hasNode b1 a0 M) fun r2 M3 =>
    if r2 = 0 then
      some (0, M3)
    else
      mv_bind (r_X9_ownType a0 a1 M3) fun r4 M5 =>
      mv_getp (M5.2.2 4 2) fun b6 =>
      mv_chk (mv_inb a0 1000) <|
      mv_let (mv_si M5 (b6 + 13) a0.toNatClampNeg r4) fun M8 =>
      if a1 = (-1) then
        fX9_typeOf_60 r_X9_ownType a0 r4 M8
      else
        if a1 = r4 then
          fX9_typeOf_60 r_X9_ownType a0 r4 M8
        else
          if a1 = (-2) then
            if r4 ≤ 0 then
              fX9_typeOf_64 r_X9_ownType a0 r4 M8
            else
              fX9_typeOf_60 r_X9_ownType a0 r4 M8
          else
            fX9_typeOf_64 r_X9_ownType a0 r4 M8
  else
    some (0, M)
set_option maxRecDepth 100000 in
set_option maxHeartbeats 4000000 in
theorem zX9_typeOf {l : Launch} {d : Nat} {Q : Int32 → mv_M → Prop} {r_X9_ownType : Int32 → Int32 → mv_M → Option (Int32 × mv_M)} (hd : 2 ≤ d) (hr_X9_ownType : ∀ (a0 : Int32) (a1 : Int32) (M : mv_M) (Q : Int32 → mv_M → Prop), mv_ok (r_X9_ownType a0 a1 M) Q → mv l mX9_ownType (d - 1) 0 0 (lv_args 0 [.ref 4, .int a0, .int a1]) [] M (mv_qI Q)) (a0 : Int32) (a1 : Int32) (M : mv_M) (h : mv_ok (fX9_typeOf r_X9_ownType a0 a1 M) Q) : mv l mX9_typeOf d 0 0 (lv_args 0 [.ref 4, .int a0, .int a1]) [] M (mv_qI Q) := by
  unfold fX9_typeOf at h
  show mv l mX9_typeOf d 0 0 [(0, .ref 4), (1, .int a0), (2, .int a1)] [] M (mv_qI Q)
  refine mv_aload_n 0 dX9_typeOf_0 rfl ?_
  refine mv_getR 1 fX9_19 (by decide) rfl rfl rfl dX9_typeOf_1 ?_
  refine mv_getI fX9_33 (by decide) rfl rfl dX9_typeOf_4 ?_
  refine mv_if_ne 21 dX9_typeOf_7 (by decide) (fun z => ?_) (fun z => ?_)
  · replace h := mv_ifF z h
    refine mv_iconst 0 dX9_typeOf_21 (by decide) ?_
    exact mv_iret rfl dX9_typeOf_22 ⟨_, rfl, h⟩
  · replace h := mv_ifT z h
    refine mv_aload_n 0 dX9_typeOf_10 rfl ?_
    obtain ⟨b1, eb1, hb1, h⟩ := mv_getpE h
    refine mv_getP b1 fX9_23 (by decide) rfl rfl eb1 dX9_typeOf_11 ?_
    refine mv_iload_n 1 dX9_typeOf_14 rfl ?_
    refine mv_cvI (As := [.int a0]) (st := []) okX4_hasNode lX9_74 (mv_pN (t := 0) hb1 (by decide)) (by rcases hb1 with rfl | rfl <;> rfl) rfl rfl (Nat.le_of_ble_eq_true rfl) rfl (Nat.le_of_ble_eq_true rfl) dX9_typeOf_15 (by omega) rfl (zX4_hasNode (d := d - 1) (by omega) b1 a0 M hb1 (mv_bindE h)) (fun r2 M3 h => ?_)
    refine mv_if_ne 23 dX9_typeOf_18 (by decide) (fun z => ?_) (fun z => ?_)
    · replace h := mv_ifF z h
      refine mv_aload_n 0 dX9_typeOf_23 rfl ?_
      refine mv_iload_n 1 dX9_typeOf_24 rfl ?_
      refine mv_iload_n 2 dX9_typeOf_25 rfl ?_
      refine mv_cvI (As := [.int a0, .int a1]) (st := []) okX9_ownType lX9_78 (by decide) rfl rfl rfl (Nat.le_of_ble_eq_true rfl) rfl (Nat.le_of_ble_eq_true rfl) dX9_typeOf_26 (by omega) rfl (hr_X9_ownType a0 a1 M3 _ (mv_bindE h)) (fun r4 M5 h => ?_)
      refine mv_istore_n [(3, .int r4), (0, .ref 4), (1, .int a0), (2, .int a1)] dX9_typeOf_29 (by decide) rfl ?_
      refine mv_aload_n 1 dX9_typeOf_30 rfl ?_
      obtain ⟨b6, eb6, hb6, h⟩ := mv_getpE h
      refine mv_getP b6 fX9_23 (by decide) rfl rfl eb6 dX9_typeOf_31 ?_
      refine mv_getR (b6 + 13) fX9_81 (mv_pN (t := 0) hb6 (by decide)) (by rcases hb6 with rfl | rfl <;> rfl) rfl (by rcases hb6 with rfl | rfl <;> rfl) dX9_typeOf_34 ?_
      refine mv_iload_n 2 dX9_typeOf_37 rfl ?_
      refine mv_iload_n 0 dX9_typeOf_38 rfl ?_
      obtain ⟨hi7, h⟩ := mv_chkE h
      refine mv_ist (mv_pN (t := 13) hb6 (by decide)) (by rcases hb6 with rfl | rfl <;> rfl) (mv_inE hi7) dX9_typeOf_39 (fun M8 eM8 => ?_)
      replace h := mv_letE h M8 eM8
      refine mv_iload_n 3 dX9_typeOf_40 rfl ?_
      refine mv_iconst (-1) dX9_typeOf_41 (by decide) ?_
      refine mv_icmp_eq 60 dX9_typeOf_42 (by decide) (fun z => ?_) (fun z => ?_)
      · replace h := mv_ifT z h
        refine mv_sub [1, 2, 0] rfl ?_
        exact zX9_typeOf_60 hd hr_X9_ownType a0 r4 M8 h
      · replace h := mv_ifF z h
        refine mv_iload_n 3 dX9_typeOf_45 rfl ?_
        refine mv_iload_n 0 dX9_typeOf_46 rfl ?_
        refine mv_icmp_eq 60 dX9_typeOf_47 (by decide) (fun z => ?_) (fun z => ?_)
        · replace h := mv_ifT z h
          refine mv_sub [1, 2, 0] rfl ?_
          exact zX9_typeOf_60 hd hr_X9_ownType a0 r4 M8 h
        · replace h := mv_ifF z h
          refine mv_iload_n 3 dX9_typeOf_50 rfl ?_
          refine mv_bipush (-2) dX9_typeOf_51 (by decide) ?_
          refine mv_icmp_ne 64 dX9_typeOf_53 (by decide) (fun z => ?_) (fun z => ?_)
          · replace h := mv_ifF z h
            refine mv_sub [1, 2, 0] rfl ?_
            exact zX9_typeOf_64 hd hr_X9_ownType a0 r4 M8 h
          · replace h := mv_ifT z h
            refine mv_iload_n 0 dX9_typeOf_56 rfl ?_
            refine mv_if_le 64 dX9_typeOf_57 (by decide) (fun z => ?_) (fun z => ?_)
            · replace h := mv_ifT z h
              refine mv_sub [1, 2, 0] rfl ?_
              exact zX9_typeOf_64 hd hr_X9_ownType a0 r4 M8 h
            · replace h := mv_ifF z h
              refine mv_sub [1, 2, 0] rfl ?_
              exact zX9_typeOf_60 hd hr_X9_ownType a0 r4 M8 h
    · replace h := mv_ifT z h
      refine mv_iconst 0 dX9_typeOf_21 (by decide) ?_
      exact mv_iret rfl dX9_typeOf_22 ⟨_, rfl, h⟩
theorem dX9_ownType_0 : decode cX9_ownType 0 = .ok (.aload_n 0, 1) := by decide +kernel
theorem dX9_ownType_1 : decode cX9_ownType 1 = .ok (.getfield 23, 3) := by decide +kernel
theorem dX9_ownType_4 : decode cX9_ownType 4 = .ok (.getfield 85, 3) := by decide +kernel
theorem dX9_ownType_7 : decode cX9_ownType 7 = .ok (.iload_n 1, 1) := by decide +kernel
theorem dX9_ownType_8 : decode cX9_ownType 8 = .ok (.iaload, 1) := by decide +kernel
theorem dX9_ownType_9 : decode cX9_ownType 9 = .ok (.lookupswitch 127 #[(2, 87), (3, 75), (5, 93), (6, 99), (301, 106), (304, 113), (306, 120), (308, 77)], 75) := by decide +kernel
theorem dX9_ownType_84 : decode cX9_ownType 84 = .ok (.iconst 0, 1) := by decide +kernel
theorem dX9_ownType_85 : decode cX9_ownType 85 = .ok (.ireturn, 1) := by decide +kernel
theorem dX9_ownType_86 : decode cX9_ownType 86 = .ok (.aload_n 0, 1) := by decide +kernel
theorem dX9_ownType_87 : decode cX9_ownType 87 = .ok (.getfield 23, 3) := by decide +kernel
theorem dX9_ownType_90 : decode cX9_ownType 90 = .ok (.getfield 81, 3) := by decide +kernel
theorem dX9_ownType_93 : decode cX9_ownType 93 = .ok (.iload_n 1, 1) := by decide +kernel
theorem dX9_ownType_94 : decode cX9_ownType 94 = .ok (.iaload, 1) := by decide +kernel
theorem dX9_ownType_95 : decode cX9_ownType 95 = .ok (.ireturn, 1) := by decide +kernel
theorem dX9_ownType_96 : decode cX9_ownType 96 = .ok (.aload_n 0, 1) := by decide +kernel
theorem dX9_ownType_97 : decode cX9_ownType 97 = .ok (.iload_n 1, 1) := by decide +kernel
theorem dX9_ownType_98 : decode cX9_ownType 98 = .ok (.invokevirtual 88, 3) := by decide +kernel
theorem dX9_ownType_101 : decode cX9_ownType 101 = .ok (.ireturn, 1) := by decide +kernel
theorem dX9_ownType_102 : decode cX9_ownType 102 = .ok (.aload_n 0, 1) := by decide +kernel
theorem dX9_ownType_103 : decode cX9_ownType 103 = .ok (.iload_n 1, 1) := by decide +kernel
theorem dX9_ownType_104 : decode cX9_ownType 104 = .ok (.invokevirtual 91, 3) := by decide +kernel
theorem dX9_ownType_107 : decode cX9_ownType 107 = .ok (.ireturn, 1) := by decide +kernel
theorem dX9_ownType_108 : decode cX9_ownType 108 = .ok (.aload_n 0, 1) := by decide +kernel
theorem dX9_ownType_109 : decode cX9_ownType 109 = .ok (.iload_n 1, 1) := by decide +kernel
theorem dX9_ownType_110 : decode cX9_ownType 110 = .ok (.iload_n 2, 1) := by decide +kernel
theorem dX9_ownType_111 : decode cX9_ownType 111 = .ok (.invokevirtual 94, 3) := by decide +kernel
theorem dX9_ownType_114 : decode cX9_ownType 114 = .ok (.ireturn, 1) := by decide +kernel
theorem dX9_ownType_115 : decode cX9_ownType 115 = .ok (.aload_n 0, 1) := by decide +kernel
theorem dX9_ownType_116 : decode cX9_ownType 116 = .ok (.iload_n 1, 1) := by decide +kernel
theorem dX9_ownType_117 : decode cX9_ownType 117 = .ok (.iload_n 2, 1) := by decide +kernel
theorem dX9_ownType_118 : decode cX9_ownType 118 = .ok (.invokevirtual 97, 3) := by decide +kernel
theorem dX9_ownType_121 : decode cX9_ownType 121 = .ok (.ireturn, 1) := by decide +kernel
theorem dX9_ownType_122 : decode cX9_ownType 122 = .ok (.aload_n 0, 1) := by decide +kernel
theorem dX9_ownType_123 : decode cX9_ownType 123 = .ok (.iload_n 1, 1) := by decide +kernel
theorem dX9_ownType_124 : decode cX9_ownType 124 = .ok (.iload_n 2, 1) := by decide +kernel
theorem dX9_ownType_125 : decode cX9_ownType 125 = .ok (.invokevirtual 100, 3) := by decide +kernel
theorem dX9_ownType_128 : decode cX9_ownType 128 = .ok (.ireturn, 1) := by decide +kernel
theorem dX9_ownType_129 : decode cX9_ownType 129 = .ok (.aload_n 0, 1) := by decide +kernel
theorem dX9_ownType_130 : decode cX9_ownType 130 = .ok (.iload_n 1, 1) := by decide +kernel
theorem dX9_ownType_131 : decode cX9_ownType 131 = .ok (.iload_n 2, 1) := by decide +kernel
theorem dX9_ownType_132 : decode cX9_ownType 132 = .ok (.invokevirtual 103, 3) := by decide +kernel
theorem dX9_ownType_135 : decode cX9_ownType 135 = .ok (.ireturn, 1) := by decide +kernel
theorem dX9_ownType_136 : decode cX9_ownType 136 = .ok (.aload_n 0, 1) := by decide +kernel
theorem dX9_ownType_137 : decode cX9_ownType 137 = .ok (.aload_n 0, 1) := by decide +kernel
theorem dX9_ownType_138 : decode cX9_ownType 138 = .ok (.getfield 23, 3) := by decide +kernel
theorem dX9_ownType_141 : decode cX9_ownType 141 = .ok (.getfield 106, 3) := by decide +kernel
theorem dX9_ownType_144 : decode cX9_ownType 144 = .ok (.iload_n 1, 1) := by decide +kernel
theorem dX9_ownType_145 : decode cX9_ownType 145 = .ok (.iaload, 1) := by decide +kernel
theorem dX9_ownType_146 : decode cX9_ownType 146 = .ok (.iconst 0, 1) := by decide +kernel
theorem dX9_ownType_147 : decode cX9_ownType 147 = .ok (.invokevirtual 57, 3) := by decide +kernel
theorem dX9_ownType_150 : decode cX9_ownType 150 = .ok (.pop, 1) := by decide +kernel
theorem dX9_ownType_151 : decode cX9_ownType 151 = .ok (.aload_n 0, 1) := by decide +kernel
theorem dX9_ownType_152 : decode cX9_ownType 152 = .ok (.aload_n 0, 1) := by decide +kernel
theorem dX9_ownType_153 : decode cX9_ownType 153 = .ok (.getfield 23, 3) := by decide +kernel
theorem dX9_ownType_156 : decode cX9_ownType 156 = .ok (.getfield 109, 3) := by decide +kernel
theorem dX9_ownType_159 : decode cX9_ownType 159 = .ok (.iload_n 1, 1) := by decide +kernel
theorem dX9_ownType_160 : decode cX9_ownType 160 = .ok (.iaload, 1) := by decide +kernel
theorem dX9_ownType_161 : decode cX9_ownType 161 = .ok (.iconst 0, 1) := by decide +kernel
theorem dX9_ownType_162 : decode cX9_ownType 162 = .ok (.invokevirtual 57, 3) := by decide +kernel
theorem dX9_ownType_165 : decode cX9_ownType 165 = .ok (.pop, 1) := by decide +kernel
theorem dX9_ownType_166 : decode cX9_ownType 166 = .ok (.iconst 0, 1) := by decide +kernel
theorem dX9_ownType_167 : decode cX9_ownType 167 = .ok (.ireturn, 1) := by decide +kernel
noncomputable def fX9_ownType (r_X9_typeOf : Int32 → Int32 → mv_M → Option (Int32 × mv_M)) (r_X9_typeOfCall : Int32 → mv_M → Option (Int32 × mv_M)) (r_X9_typeOfCase : Int32 → Int32 → mv_M → Option (Int32 × mv_M)) (r_X9_typeOfIf : Int32 → Int32 → mv_M → Option (Int32 × mv_M)) (r_X9_typeOfLet : Int32 → Int32 → mv_M → Option (Int32 × mv_M)) (r_X9_typeOfPair : Int32 → Int32 → mv_M → Option (Int32 × mv_M)) (a0 : Int32) (a1 : Int32) (M : mv_M) : Option (Int32 × mv_M) :=
  mv_getp (M.2.2 4 2) fun b1 =>
  mv_chk (mv_inb a0 1000) <|
  if (M.1 (b1 + 8) a0.toNatClampNeg) = 2 then
    mv_bind (fX9_typeOfName a0 M) fun r4 M5 =>
    some (r4, M5)
  else
    if (M.1 (b1 + 8) a0.toNatClampNeg) = 3 then
      some (0, M)
    else
      if (M.1 (b1 + 8) a0.toNatClampNeg) = 5 then
        mv_bind (r_X9_typeOfCall a0 M) fun r8 M9 =>
        some (r8, M9)
      else
        if (M.1 (b1 + 8) a0.toNatClampNeg) = 6 then
          mv_bind (r_X9_typeOfPair a0 a1 M) fun r11 M12 =>
          some (r11, M12)
        else
          if (M.1 (b1 + 8) a0.toNatClampNeg) = 301 then
            mv_bind (r_X9_typeOfIf a0 a1 M) fun r14 M15 =>
            some (r14, M15)
          else
            if (M.1 (b1 + 8) a0.toNatClampNeg) = 304 then
              mv_bind (r_X9_typeOfLet a0 a1 M) fun r17 M18 =>
              some (r17, M18)
            else
              if (M.1 (b1 + 8) a0.toNatClampNeg) = 306 then
                mv_bind (r_X9_typeOfCase a0 a1 M) fun r20 M21 =>
                some (r20, M21)
              else
                if (M.1 (b1 + 8) a0.toNatClampNeg) = 308 then
                  mv_getp (M.2.2 4 2) fun b23 =>
                  mv_chk (mv_inb a0 1000) <|
                  some (M.1 (b23 + 13) a0.toNatClampNeg, M)
                else
                  mv_getp (M.2.2 4 2) fun b25 =>
                  mv_chk (mv_inb a0 1000) <|
                  mv_bind (r_X9_typeOf (M.1 (b25 + 9) a0.toNatClampNeg) 0 M) fun r27 M28 =>
                  mv_getp (M28.2.2 4 2) fun b29 =>
                  mv_chk (mv_inb a0 1000) <|
                  mv_bind (r_X9_typeOf (M28.1 (b29 + 10) a0.toNatClampNeg) 0 M28) fun r31 M32 =>
                  some (0, M32)
set_option maxRecDepth 100000 in
set_option maxHeartbeats 4000000 in
theorem zX9_ownType {l : Launch} {d : Nat} {Q : Int32 → mv_M → Prop} {r_X9_typeOf : Int32 → Int32 → mv_M → Option (Int32 × mv_M)} {r_X9_typeOfCall : Int32 → mv_M → Option (Int32 × mv_M)} {r_X9_typeOfCase : Int32 → Int32 → mv_M → Option (Int32 × mv_M)} {r_X9_typeOfIf : Int32 → Int32 → mv_M → Option (Int32 × mv_M)} {r_X9_typeOfLet : Int32 → Int32 → mv_M → Option (Int32 × mv_M)} {r_X9_typeOfPair : Int32 → Int32 → mv_M → Option (Int32 × mv_M)} (hd : 4 ≤ d) (hr_X9_typeOf : ∀ (a0 : Int32) (a1 : Int32) (M : mv_M) (Q : Int32 → mv_M → Prop), mv_ok (r_X9_typeOf a0 a1 M) Q → mv l mX9_typeOf (d - 1) 0 0 (lv_args 0 [.ref 4, .int a0, .int a1]) [] M (mv_qI Q)) (hr_X9_typeOfCall : ∀ (a0 : Int32) (M : mv_M) (Q : Int32 → mv_M → Prop), mv_ok (r_X9_typeOfCall a0 M) Q → mv l mX9_typeOfCall (d - 1) 0 0 (lv_args 0 [.ref 4, .int a0]) [] M (mv_qI Q)) (hr_X9_typeOfCase : ∀ (a0 : Int32) (a1 : Int32) (M : mv_M) (Q : Int32 → mv_M → Prop), mv_ok (r_X9_typeOfCase a0 a1 M) Q → mv l mX9_typeOfCase (d - 1) 0 0 (lv_args 0 [.ref 4, .int a0, .int a1]) [] M (mv_qI Q)) (hr_X9_typeOfIf : ∀ (a0 : Int32) (a1 : Int32) (M : mv_M) (Q : Int32 → mv_M → Prop), mv_ok (r_X9_typeOfIf a0 a1 M) Q → mv l mX9_typeOfIf (d - 1) 0 0 (lv_args 0 [.ref 4, .int a0, .int a1]) [] M (mv_qI Q)) (hr_X9_typeOfLet : ∀ (a0 : Int32) (a1 : Int32) (M : mv_M) (Q : Int32 → mv_M → Prop), mv_ok (r_X9_typeOfLet a0 a1 M) Q → mv l mX9_typeOfLet (d - 1) 0 0 (lv_args 0 [.ref 4, .int a0, .int a1]) [] M (mv_qI Q)) (hr_X9_typeOfPair : ∀ (a0 : Int32) (a1 : Int32) (M : mv_M) (Q : Int32 → mv_M → Prop), mv_ok (r_X9_typeOfPair a0 a1 M) Q → mv l mX9_typeOfPair (d - 1) 0 0 (lv_args 0 [.ref 4, .int a0, .int a1]) [] M (mv_qI Q)) (a0 : Int32) (a1 : Int32) (M : mv_M) (h : mv_ok (fX9_ownType r_X9_typeOf r_X9_typeOfCall r_X9_typeOfCase r_X9_typeOfIf r_X9_typeOfLet r_X9_typeOfPair a0 a1 M) Q) : mv l mX9_ownType d 0 0 (lv_args 0 [.ref 4, .int a0, .int a1]) [] M (mv_qI Q) := by
  unfold fX9_ownType at h
  show mv l mX9_ownType d 0 0 [(0, .ref 4), (1, .int a0), (2, .int a1)] [] M (mv_qI Q)
  refine mv_aload_n 0 dX9_ownType_0 rfl ?_
  obtain ⟨b1, eb1, hb1, h⟩ := mv_getpE h
  refine mv_getP b1 fX9_23 (by decide) rfl rfl eb1 dX9_ownType_1 ?_
  refine mv_getR (b1 + 8) fX9_85 (mv_pN (t := 0) hb1 (by decide)) (by rcases hb1 with rfl | rfl <;> rfl) rfl (by rcases hb1 with rfl | rfl <;> rfl) dX9_ownType_4 ?_
  refine mv_iload_n 1 dX9_ownType_7 rfl ?_
  obtain ⟨hi2, h⟩ := mv_chkE h
  refine mv_ild (mv_pN (t := 8) hb1 (by decide)) (by rcases hb1 with rfl | rfl <;> rfl) (mv_inE hi2) dX9_ownType_8 ?_
  by_cases z3 : (M.1 (b1 + 8) a0.toNatClampNeg) = 2
  · replace h := mv_ifT z3 h
    refine mv_lookup (off := 87) 96 dX9_ownType_9 (by decide) (mv_swc (mv_eqv z3 (by decide))) (by decide) ?_
    refine mv_aload_n 0 dX9_ownType_96 rfl ?_
    refine mv_iload_n 1 dX9_ownType_97 rfl ?_
    refine mv_cvI (As := [.int a0]) (st := []) okX9_typeOfName lX9_88 (by decide) rfl rfl rfl (Nat.le_of_ble_eq_true rfl) rfl (Nat.le_of_ble_eq_true rfl) dX9_ownType_98 (by omega) rfl (zX9_typeOfName (d := d - 1) (by omega) a0 M (mv_bindE h)) (fun r4 M5 h => ?_)
    exact mv_iret rfl dX9_ownType_101 ⟨_, rfl, h⟩
  · replace h := mv_ifF z3 h
    by_cases z6 : (M.1 (b1 + 8) a0.toNatClampNeg) = 3
    · replace h := mv_ifT z6 h
      refine mv_lookup (off := 75) 84 dX9_ownType_9 (by decide) (mv_swn (mv_ne 2 (by decide) z3) (mv_swc (mv_eqv z6 (by decide)))) (by decide) ?_
      refine mv_iconst 0 dX9_ownType_84 (by decide) ?_
      exact mv_iret rfl dX9_ownType_85 ⟨_, rfl, h⟩
    · replace h := mv_ifF z6 h
      by_cases z7 : (M.1 (b1 + 8) a0.toNatClampNeg) = 5
      · replace h := mv_ifT z7 h
        refine mv_lookup (off := 93) 102 dX9_ownType_9 (by decide) (mv_swn (mv_ne 2 (by decide) z3) (mv_swn (mv_ne 3 (by decide) z6) (mv_swc (mv_eqv z7 (by decide))))) (by decide) ?_
        refine mv_aload_n 0 dX9_ownType_102 rfl ?_
        refine mv_iload_n 1 dX9_ownType_103 rfl ?_
        refine mv_cvI (As := [.int a0]) (st := []) okX9_typeOfCall lX9_91 (by decide) rfl rfl rfl (Nat.le_of_ble_eq_true rfl) rfl (Nat.le_of_ble_eq_true rfl) dX9_ownType_104 (by omega) rfl (hr_X9_typeOfCall a0 M _ (mv_bindE h)) (fun r8 M9 h => ?_)
        exact mv_iret rfl dX9_ownType_107 ⟨_, rfl, h⟩
      · replace h := mv_ifF z7 h
        by_cases z10 : (M.1 (b1 + 8) a0.toNatClampNeg) = 6
        · replace h := mv_ifT z10 h
          refine mv_lookup (off := 99) 108 dX9_ownType_9 (by decide) (mv_swn (mv_ne 2 (by decide) z3) (mv_swn (mv_ne 3 (by decide) z6) (mv_swn (mv_ne 5 (by decide) z7) (mv_swc (mv_eqv z10 (by decide)))))) (by decide) ?_
          refine mv_aload_n 0 dX9_ownType_108 rfl ?_
          refine mv_iload_n 1 dX9_ownType_109 rfl ?_
          refine mv_iload_n 2 dX9_ownType_110 rfl ?_
          refine mv_cvI (As := [.int a0, .int a1]) (st := []) okX9_typeOfPair lX9_94 (by decide) rfl rfl rfl (Nat.le_of_ble_eq_true rfl) rfl (Nat.le_of_ble_eq_true rfl) dX9_ownType_111 (by omega) rfl (hr_X9_typeOfPair a0 a1 M _ (mv_bindE h)) (fun r11 M12 h => ?_)
          exact mv_iret rfl dX9_ownType_114 ⟨_, rfl, h⟩
        · replace h := mv_ifF z10 h
          by_cases z13 : (M.1 (b1 + 8) a0.toNatClampNeg) = 301
          · replace h := mv_ifT z13 h
            refine mv_lookup (off := 106) 115 dX9_ownType_9 (by decide) (mv_swn (mv_ne 2 (by decide) z3) (mv_swn (mv_ne 3 (by decide) z6) (mv_swn (mv_ne 5 (by decide) z7) (mv_swn (mv_ne 6 (by decide) z10) (mv_swc (mv_eqv z13 (by decide))))))) (by decide) ?_
            refine mv_aload_n 0 dX9_ownType_115 rfl ?_
            refine mv_iload_n 1 dX9_ownType_116 rfl ?_
            refine mv_iload_n 2 dX9_ownType_117 rfl ?_
            refine mv_cvI (As := [.int a0, .int a1]) (st := []) okX9_typeOfIf lX9_97 (by decide) rfl rfl rfl (Nat.le_of_ble_eq_true rfl) rfl (Nat.le_of_ble_eq_true rfl) dX9_ownType_118 (by omega) rfl (hr_X9_typeOfIf a0 a1 M _ (mv_bindE h)) (fun r14 M15 h => ?_)
            exact mv_iret rfl dX9_ownType_121 ⟨_, rfl, h⟩
          · replace h := mv_ifF z13 h
            by_cases z16 : (M.1 (b1 + 8) a0.toNatClampNeg) = 304
            · replace h := mv_ifT z16 h
              refine mv_lookup (off := 113) 122 dX9_ownType_9 (by decide) (mv_swn (mv_ne 2 (by decide) z3) (mv_swn (mv_ne 3 (by decide) z6) (mv_swn (mv_ne 5 (by decide) z7) (mv_swn (mv_ne 6 (by decide) z10) (mv_swn (mv_ne 301 (by decide) z13) (mv_swc (mv_eqv z16 (by decide)))))))) (by decide) ?_
              refine mv_aload_n 0 dX9_ownType_122 rfl ?_
              refine mv_iload_n 1 dX9_ownType_123 rfl ?_
              refine mv_iload_n 2 dX9_ownType_124 rfl ?_
              refine mv_cvI (As := [.int a0, .int a1]) (st := []) okX9_typeOfLet lX9_100 (by decide) rfl rfl rfl (Nat.le_of_ble_eq_true rfl) rfl (Nat.le_of_ble_eq_true rfl) dX9_ownType_125 (by omega) rfl (hr_X9_typeOfLet a0 a1 M _ (mv_bindE h)) (fun r17 M18 h => ?_)
              exact mv_iret rfl dX9_ownType_128 ⟨_, rfl, h⟩
            · replace h := mv_ifF z16 h
              by_cases z19 : (M.1 (b1 + 8) a0.toNatClampNeg) = 306
              · replace h := mv_ifT z19 h
                refine mv_lookup (off := 120) 129 dX9_ownType_9 (by decide) (mv_swn (mv_ne 2 (by decide) z3) (mv_swn (mv_ne 3 (by decide) z6) (mv_swn (mv_ne 5 (by decide) z7) (mv_swn (mv_ne 6 (by decide) z10) (mv_swn (mv_ne 301 (by decide) z13) (mv_swn (mv_ne 304 (by decide) z16) (mv_swc (mv_eqv z19 (by decide))))))))) (by decide) ?_
                refine mv_aload_n 0 dX9_ownType_129 rfl ?_
                refine mv_iload_n 1 dX9_ownType_130 rfl ?_
                refine mv_iload_n 2 dX9_ownType_131 rfl ?_
                refine mv_cvI (As := [.int a0, .int a1]) (st := []) okX9_typeOfCase lX9_103 (by decide) rfl rfl rfl (Nat.le_of_ble_eq_true rfl) rfl (Nat.le_of_ble_eq_true rfl) dX9_ownType_132 (by omega) rfl (hr_X9_typeOfCase a0 a1 M _ (mv_bindE h)) (fun r20 M21 h => ?_)
                exact mv_iret rfl dX9_ownType_135 ⟨_, rfl, h⟩
              · replace h := mv_ifF z19 h
                by_cases z22 : (M.1 (b1 + 8) a0.toNatClampNeg) = 308
                · replace h := mv_ifT z22 h
                  refine mv_lookup (off := 77) 86 dX9_ownType_9 (by decide) (mv_swn (mv_ne 2 (by decide) z3) (mv_swn (mv_ne 3 (by decide) z6) (mv_swn (mv_ne 5 (by decide) z7) (mv_swn (mv_ne 6 (by decide) z10) (mv_swn (mv_ne 301 (by decide) z13) (mv_swn (mv_ne 304 (by decide) z16) (mv_swn (mv_ne 306 (by decide) z19) (mv_swc (mv_eqv z22 (by decide)))))))))) (by decide) ?_
                  refine mv_aload_n 0 dX9_ownType_86 rfl ?_
                  obtain ⟨b23, eb23, hb23, h⟩ := mv_getpE h
                  refine mv_getP b23 fX9_23 (by decide) rfl rfl eb23 dX9_ownType_87 ?_
                  refine mv_getR (b23 + 13) fX9_81 (mv_pN (t := 0) hb23 (by decide)) (by rcases hb23 with rfl | rfl <;> rfl) rfl (by rcases hb23 with rfl | rfl <;> rfl) dX9_ownType_90 ?_
                  refine mv_iload_n 1 dX9_ownType_93 rfl ?_
                  obtain ⟨hi24, h⟩ := mv_chkE h
                  refine mv_ild (mv_pN (t := 13) hb23 (by decide)) (by rcases hb23 with rfl | rfl <;> rfl) (mv_inE hi24) dX9_ownType_94 ?_
                  exact mv_iret rfl dX9_ownType_95 ⟨_, rfl, h⟩
                · replace h := mv_ifF z22 h
                  refine mv_lookup (off := 127) 136 dX9_ownType_9 (by decide) (mv_swn (mv_ne 2 (by decide) z3) (mv_swn (mv_ne 3 (by decide) z6) (mv_swn (mv_ne 5 (by decide) z7) (mv_swn (mv_ne 6 (by decide) z10) (mv_swn (mv_ne 301 (by decide) z13) (mv_swn (mv_ne 304 (by decide) z16) (mv_swn (mv_ne 306 (by decide) z19) (mv_swn (mv_ne 308 (by decide) z22) rfl)))))))) (by decide) ?_
                  refine mv_aload_n 0 dX9_ownType_136 rfl ?_
                  refine mv_aload_n 0 dX9_ownType_137 rfl ?_
                  obtain ⟨b25, eb25, hb25, h⟩ := mv_getpE h
                  refine mv_getP b25 fX9_23 (by decide) rfl rfl eb25 dX9_ownType_138 ?_
                  refine mv_getR (b25 + 9) fX9_106 (mv_pN (t := 0) hb25 (by decide)) (by rcases hb25 with rfl | rfl <;> rfl) rfl (by rcases hb25 with rfl | rfl <;> rfl) dX9_ownType_141 ?_
                  refine mv_iload_n 1 dX9_ownType_144 rfl ?_
                  obtain ⟨hi26, h⟩ := mv_chkE h
                  refine mv_ild (mv_pN (t := 9) hb25 (by decide)) (by rcases hb25 with rfl | rfl <;> rfl) (mv_inE hi26) dX9_ownType_145 ?_
                  refine mv_iconst 0 dX9_ownType_146 (by decide) ?_
                  refine mv_cvI (As := [.int (M.1 (b25 + 9) a0.toNatClampNeg), .int 0]) (st := []) okX9_typeOf lX9_57 (by decide) rfl rfl rfl (Nat.le_of_ble_eq_true rfl) rfl (Nat.le_of_ble_eq_true rfl) dX9_ownType_147 (by omega) rfl (hr_X9_typeOf (M.1 (b25 + 9) a0.toNatClampNeg) 0 M _ (mv_bindE h)) (fun r27 M28 h => ?_)
                  refine mv_pop dX9_ownType_150 rfl ?_
                  refine mv_aload_n 0 dX9_ownType_151 rfl ?_
                  refine mv_aload_n 0 dX9_ownType_152 rfl ?_
                  obtain ⟨b29, eb29, hb29, h⟩ := mv_getpE h
                  refine mv_getP b29 fX9_23 (by decide) rfl rfl eb29 dX9_ownType_153 ?_
                  refine mv_getR (b29 + 10) fX9_109 (mv_pN (t := 0) hb29 (by decide)) (by rcases hb29 with rfl | rfl <;> rfl) rfl (by rcases hb29 with rfl | rfl <;> rfl) dX9_ownType_156 ?_
                  refine mv_iload_n 1 dX9_ownType_159 rfl ?_
                  obtain ⟨hi30, h⟩ := mv_chkE h
                  refine mv_ild (mv_pN (t := 10) hb29 (by decide)) (by rcases hb29 with rfl | rfl <;> rfl) (mv_inE hi30) dX9_ownType_160 ?_
                  refine mv_iconst 0 dX9_ownType_161 (by decide) ?_
                  refine mv_cvI (As := [.int (M28.1 (b29 + 10) a0.toNatClampNeg), .int 0]) (st := []) okX9_typeOf lX9_57 (by decide) rfl rfl rfl (Nat.le_of_ble_eq_true rfl) rfl (Nat.le_of_ble_eq_true rfl) dX9_ownType_162 (by omega) rfl (hr_X9_typeOf (M28.1 (b29 + 10) a0.toNatClampNeg) 0 M28 _ (mv_bindE h)) (fun r31 M32 h => ?_)
                  refine mv_pop dX9_ownType_165 rfl ?_
                  refine mv_iconst 0 dX9_ownType_166 (by decide) ?_
                  exact mv_iret rfl dX9_ownType_167 ⟨_, rfl, h⟩
theorem dX9_typeOfCall_0 : decode cX9_typeOfCall 0 = .ok (.aload_n 0, 1) := by decide +kernel
theorem dX9_typeOfCall_1 : decode cX9_typeOfCall 1 = .ok (.getfield 23, 3) := by decide +kernel
theorem dX9_typeOfCall_4 : decode cX9_typeOfCall 4 = .ok (.aload_n 0, 1) := by decide +kernel
theorem dX9_typeOfCall_5 : decode cX9_typeOfCall 5 = .ok (.getfield 15, 3) := by decide +kernel
theorem dX9_typeOfCall_8 : decode cX9_typeOfCall 8 = .ok (.aload_n 0, 1) := by decide +kernel
theorem dX9_typeOfCall_9 : decode cX9_typeOfCall 9 = .ok (.getfield 23, 3) := by decide +kernel
theorem dX9_typeOfCall_12 : decode cX9_typeOfCall 12 = .ok (.getfield 61, 3) := by decide +kernel
theorem dX9_typeOfCall_15 : decode cX9_typeOfCall 15 = .ok (.iload_n 1, 1) := by decide +kernel
theorem dX9_typeOfCall_16 : decode cX9_typeOfCall 16 = .ok (.iaload, 1) := by decide +kernel
theorem dX9_typeOfCall_17 : decode cX9_typeOfCall 17 = .ok (.invokevirtual 112, 3) := by decide +kernel
theorem dX9_typeOfCall_20 : decode cX9_typeOfCall 20 = .ok (.invokevirtual 123, 3) := by decide +kernel
theorem dX9_typeOfCall_23 : decode cX9_typeOfCall 23 = .ok (.istore_n 2, 1) := by decide +kernel
theorem dX9_typeOfCall_24 : decode cX9_typeOfCall 24 = .ok (.iload_n 2, 1) := by decide +kernel
theorem dX9_typeOfCall_25 : decode cX9_typeOfCall 25 = .ok (.iconst (-1), 1) := by decide +kernel
theorem dX9_typeOfCall_26 : decode cX9_typeOfCall 26 = .ok (.if_icmp .ne 11, 3) := by decide +kernel
theorem dX9_typeOfCall_29 : decode cX9_typeOfCall 29 = .ok (.aload_n 0, 1) := by decide +kernel
theorem dX9_typeOfCall_30 : decode cX9_typeOfCall 30 = .ok (.iconst 4, 1) := by decide +kernel
theorem dX9_typeOfCall_31 : decode cX9_typeOfCall 31 = .ok (.iload_n 1, 1) := by decide +kernel
theorem dX9_typeOfCall_32 : decode cX9_typeOfCall 32 = .ok (.invokevirtual 84, 3) := by decide +kernel
theorem dX9_typeOfCall_35 : decode cX9_typeOfCall 35 = .ok (.iconst 0, 1) := by decide +kernel
theorem dX9_typeOfCall_36 : decode cX9_typeOfCall 36 = .ok (.ireturn, 1) := by decide +kernel
theorem dX9_typeOfCall_37 : decode cX9_typeOfCall 37 = .ok (.aload_n 0, 1) := by decide +kernel
theorem dX9_typeOfCall_38 : decode cX9_typeOfCall 38 = .ok (.getfield 23, 3) := by decide +kernel
theorem dX9_typeOfCall_41 : decode cX9_typeOfCall 41 = .ok (.getfield 127, 3) := by decide +kernel
theorem dX9_typeOfCall_44 : decode cX9_typeOfCall 44 = .ok (.iload_n 1, 1) := by decide +kernel
theorem dX9_typeOfCall_45 : decode cX9_typeOfCall 45 = .ok (.iaload, 1) := by decide +kernel
theorem dX9_typeOfCall_46 : decode cX9_typeOfCall 46 = .ok (.aload_n 0, 1) := by decide +kernel
theorem dX9_typeOfCall_47 : decode cX9_typeOfCall 47 = .ok (.getfield 23, 3) := by decide +kernel
theorem dX9_typeOfCall_50 : decode cX9_typeOfCall 50 = .ok (.getfield 44, 3) := by decide +kernel
theorem dX9_typeOfCall_53 : decode cX9_typeOfCall 53 = .ok (.iload_n 2, 1) := by decide +kernel
theorem dX9_typeOfCall_54 : decode cX9_typeOfCall 54 = .ok (.iaload, 1) := by decide +kernel
theorem dX9_typeOfCall_55 : decode cX9_typeOfCall 55 = .ok (.if_icmp .eq 11, 3) := by decide +kernel
theorem dX9_typeOfCall_58 : decode cX9_typeOfCall 58 = .ok (.aload_n 0, 1) := by decide +kernel
theorem dX9_typeOfCall_59 : decode cX9_typeOfCall 59 = .ok (.iconst 5, 1) := by decide +kernel
theorem dX9_typeOfCall_60 : decode cX9_typeOfCall 60 = .ok (.iload_n 1, 1) := by decide +kernel
theorem dX9_typeOfCall_61 : decode cX9_typeOfCall 61 = .ok (.invokevirtual 84, 3) := by decide +kernel
theorem dX9_typeOfCall_64 : decode cX9_typeOfCall 64 = .ok (.iconst 0, 1) := by decide +kernel
theorem dX9_typeOfCall_65 : decode cX9_typeOfCall 65 = .ok (.ireturn, 1) := by decide +kernel
theorem dX9_typeOfCall_66 : decode cX9_typeOfCall 66 = .ok (.aload_n 0, 1) := by decide +kernel
theorem dX9_typeOfCall_67 : decode cX9_typeOfCall 67 = .ok (.getfield 23, 3) := by decide +kernel
theorem dX9_typeOfCall_70 : decode cX9_typeOfCall 70 = .ok (.getfield 106, 3) := by decide +kernel
theorem dX9_typeOfCall_73 : decode cX9_typeOfCall 73 = .ok (.iload_n 1, 1) := by decide +kernel
theorem dX9_typeOfCall_74 : decode cX9_typeOfCall 74 = .ok (.iload_n 2, 1) := by decide +kernel
theorem dX9_typeOfCall_75 : decode cX9_typeOfCall 75 = .ok (.iastore, 1) := by decide +kernel
theorem dX9_typeOfCall_76 : decode cX9_typeOfCall 76 = .ok (.aload_n 0, 1) := by decide +kernel
theorem dX9_typeOfCall_77 : decode cX9_typeOfCall 77 = .ok (.getfield 23, 3) := by decide +kernel
theorem dX9_typeOfCall_80 : decode cX9_typeOfCall 80 = .ok (.getfield 109, 3) := by decide +kernel
theorem dX9_typeOfCall_83 : decode cX9_typeOfCall 83 = .ok (.iload_n 1, 1) := by decide +kernel
theorem dX9_typeOfCall_84 : decode cX9_typeOfCall 84 = .ok (.iaload, 1) := by decide +kernel
theorem dX9_typeOfCall_85 : decode cX9_typeOfCall 85 = .ok (.istore_n 3, 1) := by decide +kernel
theorem dX9_typeOfCall_86 : decode cX9_typeOfCall 86 = .ok (.iconst 0, 1) := by decide +kernel
theorem dX9_typeOfCall_87 : decode cX9_typeOfCall 87 = .ok (.istore 4, 2) := by decide +kernel
theorem dX9_typeOfCall_89 : decode cX9_typeOfCall 89 = .ok (.iload 4, 2) := by decide +kernel
theorem dX9_typeOfCall_91 : decode cX9_typeOfCall 91 = .ok (.aload_n 0, 1) := by decide +kernel
theorem dX9_typeOfCall_92 : decode cX9_typeOfCall 92 = .ok (.getfield 23, 3) := by decide +kernel
theorem dX9_typeOfCall_95 : decode cX9_typeOfCall 95 = .ok (.getfield 44, 3) := by decide +kernel
theorem dX9_typeOfCall_98 : decode cX9_typeOfCall 98 = .ok (.iload_n 2, 1) := by decide +kernel
theorem dX9_typeOfCall_99 : decode cX9_typeOfCall 99 = .ok (.iaload, 1) := by decide +kernel
theorem dX9_typeOfCall_100 : decode cX9_typeOfCall 100 = .ok (.if_icmp .ge 46, 3) := by decide +kernel
theorem dX9_typeOfCall_103 : decode cX9_typeOfCall 103 = .ok (.aload_n 0, 1) := by decide +kernel
theorem dX9_typeOfCall_104 : decode cX9_typeOfCall 104 = .ok (.getfield 23, 3) := by decide +kernel
theorem dX9_typeOfCall_107 : decode cX9_typeOfCall 107 = .ok (.iload_n 3, 1) := by decide +kernel
theorem dX9_typeOfCall_108 : decode cX9_typeOfCall 108 = .ok (.invokevirtual 74, 3) := by decide +kernel
theorem dX9_typeOfCall_111 : decode cX9_typeOfCall 111 = .ok (.ifCond .eq 35, 3) := by decide +kernel
theorem dX9_typeOfCall_114 : decode cX9_typeOfCall 114 = .ok (.aload_n 0, 1) := by decide +kernel
theorem dX9_typeOfCall_115 : decode cX9_typeOfCall 115 = .ok (.iload_n 3, 1) := by decide +kernel
theorem dX9_typeOfCall_116 : decode cX9_typeOfCall 116 = .ok (.aload_n 0, 1) := by decide +kernel
theorem dX9_typeOfCall_117 : decode cX9_typeOfCall 117 = .ok (.getfield 23, 3) := by decide +kernel
theorem dX9_typeOfCall_120 : decode cX9_typeOfCall 120 = .ok (.iload_n 2, 1) := by decide +kernel
theorem dX9_typeOfCall_121 : decode cX9_typeOfCall 121 = .ok (.iload 4, 2) := by decide +kernel
theorem dX9_typeOfCall_123 : decode cX9_typeOfCall 123 = .ok (.invokevirtual 120, 3) := by decide +kernel
theorem dX9_typeOfCall_126 : decode cX9_typeOfCall 126 = .ok (.invokevirtual 57, 3) := by decide +kernel
theorem dX9_typeOfCall_129 : decode cX9_typeOfCall 129 = .ok (.pop, 1) := by decide +kernel
theorem dX9_typeOfCall_130 : decode cX9_typeOfCall 130 = .ok (.aload_n 0, 1) := by decide +kernel
theorem dX9_typeOfCall_131 : decode cX9_typeOfCall 131 = .ok (.getfield 23, 3) := by decide +kernel
theorem dX9_typeOfCall_134 : decode cX9_typeOfCall 134 = .ok (.getfield 130, 3) := by decide +kernel
theorem dX9_typeOfCall_137 : decode cX9_typeOfCall 137 = .ok (.iload_n 3, 1) := by decide +kernel
theorem dX9_typeOfCall_138 : decode cX9_typeOfCall 138 = .ok (.iaload, 1) := by decide +kernel
theorem dX9_typeOfCall_139 : decode cX9_typeOfCall 139 = .ok (.istore_n 3, 1) := by decide +kernel
theorem dX9_typeOfCall_140 : decode cX9_typeOfCall 140 = .ok (.iinc 4 1, 3) := by decide +kernel
theorem dX9_typeOfCall_143 : decode cX9_typeOfCall 143 = .ok (.goto (-54), 3) := by decide +kernel
theorem dX9_typeOfCall_146 : decode cX9_typeOfCall 146 = .ok (.aload_n 0, 1) := by decide +kernel
theorem dX9_typeOfCall_147 : decode cX9_typeOfCall 147 = .ok (.getfield 23, 3) := by decide +kernel
theorem dX9_typeOfCall_150 : decode cX9_typeOfCall 150 = .ok (.getfield 54, 3) := by decide +kernel
theorem dX9_typeOfCall_153 : decode cX9_typeOfCall 153 = .ok (.iload_n 2, 1) := by decide +kernel
theorem dX9_typeOfCall_154 : decode cX9_typeOfCall 154 = .ok (.iaload, 1) := by decide +kernel
theorem dX9_typeOfCall_155 : decode cX9_typeOfCall 155 = .ok (.ireturn, 1) := by decide +kernel
noncomputable def fX9_typeOfCall_146 (r_X9_typeOf : Int32 → Int32 → mv_M → Option (Int32 × mv_M)) (x2 : Int32) (M : mv_M) : Option (Int32 × mv_M) :=
  mv_getp (M.2.2 4 2) fun b34 =>
  mv_chk (mv_inb x2 12) <|
  some (M.1 (b34 + 4) x2.toNatClampNeg, M)
set_option maxRecDepth 100000 in
set_option maxHeartbeats 4000000 in
theorem zX9_typeOfCall_146 {l : Launch} {d : Nat} {Q : Int32 → mv_M → Prop} {r_X9_typeOf : Int32 → Int32 → mv_M → Option (Int32 × mv_M)} (hd : 3 ≤ d) (hr_X9_typeOf : ∀ (a0 : Int32) (a1 : Int32) (M : mv_M) (Q : Int32 → mv_M → Prop), mv_ok (r_X9_typeOf a0 a1 M) Q → mv l mX9_typeOf (d - 1) 0 0 (lv_args 0 [.ref 4, .int a0, .int a1]) [] M (mv_qI Q)) (x2 : Int32) (M : mv_M) (h : mv_ok (fX9_typeOfCall_146 r_X9_typeOf x2 M) Q) : mv l mX9_typeOfCall d 0 146 [(0, .ref 4), (2, .int x2)] [] M (mv_qI Q) := by
  unfold fX9_typeOfCall_146 at h
  refine mv_aload_n 0 dX9_typeOfCall_146 rfl ?_
  obtain ⟨b34, eb34, hb34, h⟩ := mv_getpE h
  refine mv_getP b34 fX9_23 (by decide) rfl rfl eb34 dX9_typeOfCall_147 ?_
  refine mv_getR (b34 + 4) fX9_54 (mv_pN (t := 0) hb34 (by decide)) (by rcases hb34 with rfl | rfl <;> rfl) rfl (by rcases hb34 with rfl | rfl <;> rfl) dX9_typeOfCall_150 ?_
  refine mv_iload_n 1 dX9_typeOfCall_153 rfl ?_
  obtain ⟨hi35, h⟩ := mv_chkE h
  refine mv_ild (mv_pN (t := 4) hb34 (by decide)) (by rcases hb34 with rfl | rfl <;> rfl) (mv_inE hi35) dX9_typeOfCall_154 ?_
  exact mv_iret rfl dX9_typeOfCall_155 ⟨_, rfl, h⟩
noncomputable def gX9_typeOfCall_89 (r_X9_typeOf : Int32 → Int32 → mv_M → Option (Int32 × mv_M)) (x2 : Int32) (x3 : Int32) (x4 : Int32) (M : mv_M) : Option (((Int32 × Int32 × Int32) ⊕ Int32) × mv_M) :=
  mv_getp (M.2.2 4 2) fun b20 =>
  mv_chk (mv_inb x2 12) <|
  if (M.1 (b20 + 2) x2.toNatClampNeg) ≤ x4 then
    mv_inr (fX9_typeOfCall_146 r_X9_typeOf x2 M)
  else
    mv_getp (M.2.2 4 2) fun b22 =>
    mv_bind (fX4_hasNode b22 x3 M) fun r23 M24 =>
    if r23 = 0 then
      mv_inr (fX9_typeOfCall_146 r_X9_typeOf x2 M24)
    else
      mv_getp (M24.2.2 4 2) fun b25 =>
      mv_bind (fX4_nameType b25 x2 x4 M24) fun r26 M27 =>
      mv_bind (r_X9_typeOf x3 r26 M27) fun r28 M29 =>
      mv_getp (M29.2.2 4 2) fun b30 =>
      mv_chk (mv_inb x3 1000) <|
      mv_let (M29.1 (b30 + 12) x3.toNatClampNeg) fun v32 =>
      mv_let (x4 + 1) fun v33 =>
      some (.inl (x2, v32, v33), M29)
noncomputable def fX9_typeOfCall_89 (r_X9_typeOf : Int32 → Int32 → mv_M → Option (Int32 × mv_M)) (x2 : Int32) (x3 : Int32) (x4 : Int32) (M : mv_M) : Option (Int32 × mv_M) := mv_loop (fun (s : Int32 × Int32 × Int32) M => gX9_typeOfCall_89 r_X9_typeOf s.1 s.2.1 s.2.2 M) (x2, x3, x4) M
set_option maxRecDepth 100000 in
set_option maxHeartbeats 4000000 in
theorem zX9_typeOfCall_89 {l : Launch} {d : Nat} {Q : Int32 → mv_M → Prop} {r_X9_typeOf : Int32 → Int32 → mv_M → Option (Int32 × mv_M)} (hd : 3 ≤ d) (hr_X9_typeOf : ∀ (a0 : Int32) (a1 : Int32) (M : mv_M) (Q : Int32 → mv_M → Prop), mv_ok (r_X9_typeOf a0 a1 M) Q → mv l mX9_typeOf (d - 1) 0 0 (lv_args 0 [.ref 4, .int a0, .int a1]) [] M (mv_qI Q)) (x2 : Int32) (x3 : Int32) (x4 : Int32) (M : mv_M) (h : mv_ok (fX9_typeOfCall_89 r_X9_typeOf x2 x3 x4 M) Q) : mv l mX9_typeOfCall d 0 89 [(0, .ref 4), (2, .int x2), (3, .int x3), (4, .int x4)] [] M (mv_qI Q) := by
  unfold fX9_typeOfCall_89 at h
  refine mv_loopE (A := (fun (s : Int32 × Int32 × Int32) M => mv l mX9_typeOfCall d 0 89 [(0, .ref 4), (2, .int s.1), (3, .int s.2.1), (4, .int s.2.2)] [] M (mv_qI Q))) ?_ (x2, x3, x4) M h
  · rintro ⟨x2, x3, x4⟩ M h
    try dsimp only at h
    show mv l mX9_typeOfCall d 0 89 [(0, .ref 4), (2, .int x2), (3, .int x3), (4, .int x4)] [] M (mv_qI Q)
    unfold gX9_typeOfCall_89 at h
    refine mv_iload 3 dX9_typeOfCall_89 rfl ?_
    refine mv_aload_n 0 dX9_typeOfCall_91 rfl ?_
    obtain ⟨b20, eb20, hb20, h⟩ := mv_getpE h
    refine mv_getP b20 fX9_23 (by decide) rfl rfl eb20 dX9_typeOfCall_92 ?_
    refine mv_getR (b20 + 2) fX9_44 (mv_pN (t := 0) hb20 (by decide)) (by rcases hb20 with rfl | rfl <;> rfl) rfl (by rcases hb20 with rfl | rfl <;> rfl) dX9_typeOfCall_95 ?_
    refine mv_iload_n 1 dX9_typeOfCall_98 rfl ?_
    obtain ⟨hi21, h⟩ := mv_chkE h
    refine mv_ild (mv_pN (t := 2) hb20 (by decide)) (by rcases hb20 with rfl | rfl <;> rfl) (mv_inE hi21) dX9_typeOfCall_99 ?_
    refine mv_icmp_ge 146 dX9_typeOfCall_100 (by decide) (fun z => ?_) (fun z => ?_)
    · replace h := mv_ifT z h
      refine mv_sub [0, 1] rfl ?_
      exact zX9_typeOfCall_146 hd hr_X9_typeOf x2 M (mv_inrE h)
    · replace h := mv_ifF z h
      refine mv_aload_n 0 dX9_typeOfCall_103 rfl ?_
      obtain ⟨b22, eb22, hb22, h⟩ := mv_getpE h
      refine mv_getP b22 fX9_23 (by decide) rfl rfl eb22 dX9_typeOfCall_104 ?_
      refine mv_iload_n 2 dX9_typeOfCall_107 rfl ?_
      refine mv_cvI (As := [.int x3]) (st := []) okX4_hasNode lX9_74 (mv_pN (t := 0) hb22 (by decide)) (by rcases hb22 with rfl | rfl <;> rfl) rfl rfl (Nat.le_of_ble_eq_true rfl) rfl (Nat.le_of_ble_eq_true rfl) dX9_typeOfCall_108 (by omega) rfl (zX4_hasNode (d := d - 1) (by omega) b22 x3 M hb22 (mv_bindE h)) (fun r23 M24 h => ?_)
      refine mv_if_eq 146 dX9_typeOfCall_111 (by decide) (fun z => ?_) (fun z => ?_)
      · replace h := mv_ifT z h
        refine mv_sub [0, 1] rfl ?_
        exact zX9_typeOfCall_146 hd hr_X9_typeOf x2 M24 (mv_inrE h)
      · replace h := mv_ifF z h
        refine mv_aload_n 0 dX9_typeOfCall_114 rfl ?_
        refine mv_iload_n 2 dX9_typeOfCall_115 rfl ?_
        refine mv_aload_n 0 dX9_typeOfCall_116 rfl ?_
        obtain ⟨b25, eb25, hb25, h⟩ := mv_getpE h
        refine mv_getP b25 fX9_23 (by decide) rfl rfl eb25 dX9_typeOfCall_117 ?_
        refine mv_iload_n 1 dX9_typeOfCall_120 rfl ?_
        refine mv_iload 3 dX9_typeOfCall_121 rfl ?_
        refine mv_cvI (As := [.int x2, .int x4]) (st := [.int x3, .ref 4]) okX4_nameType lX9_120 (mv_pN (t := 0) hb25 (by decide)) (by rcases hb25 with rfl | rfl <;> rfl) rfl rfl (Nat.le_of_ble_eq_true rfl) rfl (Nat.le_of_ble_eq_true rfl) dX9_typeOfCall_123 (by omega) rfl (zX4_nameType (d := d - 1) (by omega) b25 x2 x4 M24 hb25 (mv_bindE h)) (fun r26 M27 h => ?_)
        refine mv_cvI (As := [.int x3, .int r26]) (st := []) okX9_typeOf lX9_57 (by decide) rfl rfl rfl (Nat.le_of_ble_eq_true rfl) rfl (Nat.le_of_ble_eq_true rfl) dX9_typeOfCall_126 (by omega) rfl (hr_X9_typeOf x3 r26 M27 _ (mv_bindE h)) (fun r28 M29 h => ?_)
        refine mv_pop dX9_typeOfCall_129 rfl ?_
        refine mv_aload_n 0 dX9_typeOfCall_130 rfl ?_
        obtain ⟨b30, eb30, hb30, h⟩ := mv_getpE h
        refine mv_getP b30 fX9_23 (by decide) rfl rfl eb30 dX9_typeOfCall_131 ?_
        refine mv_getR (b30 + 12) fX9_130 (mv_pN (t := 0) hb30 (by decide)) (by rcases hb30 with rfl | rfl <;> rfl) rfl (by rcases hb30 with rfl | rfl <;> rfl) dX9_typeOfCall_134 ?_
        refine mv_iload_n 2 dX9_typeOfCall_137 rfl ?_
        obtain ⟨hi31, h⟩ := mv_chkE h
        refine mv_ild (mv_pN (t := 12) hb30 (by decide)) (by rcases hb30 with rfl | rfl <;> rfl) (mv_inE hi31) dX9_typeOfCall_138 ?_
        refine mv_topi (fun v32 ev32 => ?_)
        replace h := mv_letE h v32 ev32
        refine mv_istore_n [(3, .int v32), (0, .ref 4), (2, .int x2), (4, .int x4)] dX9_typeOfCall_139 (by decide) rfl ?_
        obtain ⟨v33, ev33⟩ : ∃ z : Int32, z = x4 + 1 := ⟨_, rfl⟩
        replace h := mv_letE h v33 ev33
        refine mv_iinc v33 3 [(4, .int v33), (3, .int v32), (0, .ref 4), (2, .int x2)] dX9_typeOfCall_140 rfl (by rw [ev33]; rfl) (by decide) rfl ?_
        refine mv_goto 89 dX9_typeOfCall_143 (by decide) ?_
        refine mv_sub [2, 3, 1, 0] rfl ?_
        exact h
noncomputable def fX9_typeOfCall (r_X9_typeOf : Int32 → Int32 → mv_M → Option (Int32 × mv_M)) (a0 : Int32) (M : mv_M) : Option (Int32 × mv_M) :=
  mv_getp (M.2.2 4 2) fun b1 =>
  mv_getp (M.2.2 4 2) fun b2 =>
  mv_chk (mv_inb a0 1000) <|
  mv_bind (fX8_textOf (M.1 (b2 + 14) a0.toNatClampNeg) M) fun r4 M5 =>
  mv_bind (fX4_functionOf b1 r4 M5) fun r6 M7 =>
  if r6 = (-1) then
    mv_bind (fX9_tell 4 a0 M7) fun _ M19 =>
    some (0, M19)
  else
    mv_getp (M7.2.2 4 2) fun b8 =>
    mv_chk (mv_inb a0 1000) <|
    mv_getp (M7.2.2 4 2) fun b10 =>
    mv_chk (mv_inb r6 12) <|
    if (M7.1 (b8 + 11) a0.toNatClampNeg) = (M7.1 (b10 + 2) r6.toNatClampNeg) then
      mv_getp (M7.2.2 4 2) fun b12 =>
      mv_chk (mv_inb a0 1000) <|
      mv_let (mv_si M7 (b12 + 9) a0.toNatClampNeg r6) fun M14 =>
      mv_getp (M14.2.2 4 2) fun b15 =>
      mv_chk (mv_inb a0 1000) <|
      mv_let (M14.1 (b15 + 10) a0.toNatClampNeg) fun v17 =>
      fX9_typeOfCall_89 r_X9_typeOf r6 v17 0 M14
    else
      mv_bind (fX9_tell 5 a0 M7) fun _ M18 =>
      some (0, M18)
set_option maxRecDepth 100000 in
set_option maxHeartbeats 4000000 in
theorem zX9_typeOfCall {l : Launch} {d : Nat} {Q : Int32 → mv_M → Prop} {r_X9_typeOf : Int32 → Int32 → mv_M → Option (Int32 × mv_M)} (hd : 3 ≤ d) (hr_X9_typeOf : ∀ (a0 : Int32) (a1 : Int32) (M : mv_M) (Q : Int32 → mv_M → Prop), mv_ok (r_X9_typeOf a0 a1 M) Q → mv l mX9_typeOf (d - 1) 0 0 (lv_args 0 [.ref 4, .int a0, .int a1]) [] M (mv_qI Q)) (a0 : Int32) (M : mv_M) (h : mv_ok (fX9_typeOfCall r_X9_typeOf a0 M) Q) : mv l mX9_typeOfCall d 0 0 (lv_args 0 [.ref 4, .int a0]) [] M (mv_qI Q) := by
  unfold fX9_typeOfCall at h
  show mv l mX9_typeOfCall d 0 0 [(0, .ref 4), (1, .int a0)] [] M (mv_qI Q)
  refine mv_aload_n 0 dX9_typeOfCall_0 rfl ?_
  obtain ⟨b1, eb1, hb1, h⟩ := mv_getpE h
  refine mv_getP b1 fX9_23 (by decide) rfl rfl eb1 dX9_typeOfCall_1 ?_
  refine mv_aload_n 0 dX9_typeOfCall_4 rfl ?_
  refine mv_getR 2 fX9_15 (by decide) rfl rfl rfl dX9_typeOfCall_5 ?_
  refine mv_aload_n 0 dX9_typeOfCall_8 rfl ?_
  obtain ⟨b2, eb2, hb2, h⟩ := mv_getpE h
  refine mv_getP b2 fX9_23 (by decide) rfl rfl eb2 dX9_typeOfCall_9 ?_
  refine mv_getR (b2 + 14) fX9_61 (mv_pN (t := 0) hb2 (by decide)) (by rcases hb2 with rfl | rfl <;> rfl) rfl (by rcases hb2 with rfl | rfl <;> rfl) dX9_typeOfCall_12 ?_
  refine mv_iload_n 1 dX9_typeOfCall_15 rfl ?_
  obtain ⟨hi3, h⟩ := mv_chkE h
  refine mv_ild (mv_pN (t := 14) hb2 (by decide)) (by rcases hb2 with rfl | rfl <;> rfl) (mv_inE hi3) dX9_typeOfCall_16 ?_
  refine mv_cvL (As := [.int (M.1 (b2 + 14) a0.toNatClampNeg)]) (st := [.ref b1]) okX8_textOf lX9_112 (by decide) rfl rfl rfl (Nat.le_of_ble_eq_true rfl) rfl (Nat.le_of_ble_eq_true rfl) dX9_typeOfCall_17 (by omega) rfl (zX8_textOf (d := d - 1) (by omega) (M.1 (b2 + 14) a0.toNatClampNeg) M (mv_bindE h)) (fun r4 M5 h => ?_)
  refine mv_cvI (As := [.long r4]) (st := []) okX4_functionOf lX9_123 (mv_pN (t := 0) hb1 (by decide)) (by rcases hb1 with rfl | rfl <;> rfl) rfl rfl (Nat.le_of_ble_eq_true rfl) rfl (Nat.le_of_ble_eq_true rfl) dX9_typeOfCall_20 (by omega) rfl (zX4_functionOf (d := d - 1) (by omega) b1 r4 M5 hb1 (mv_bindE h)) (fun r6 M7 h => ?_)
  refine mv_istore_n [(2, .int r6), (0, .ref 4), (1, .int a0)] dX9_typeOfCall_23 (by decide) rfl ?_
  refine mv_iload_n 0 dX9_typeOfCall_24 rfl ?_
  refine mv_iconst (-1) dX9_typeOfCall_25 (by decide) ?_
  refine mv_icmp_ne 37 dX9_typeOfCall_26 (by decide) (fun z => ?_) (fun z => ?_)
  · replace h := mv_ifF z h
    refine mv_aload_n 1 dX9_typeOfCall_37 rfl ?_
    obtain ⟨b8, eb8, hb8, h⟩ := mv_getpE h
    refine mv_getP b8 fX9_23 (by decide) rfl rfl eb8 dX9_typeOfCall_38 ?_
    refine mv_getR (b8 + 11) fX9_127 (mv_pN (t := 0) hb8 (by decide)) (by rcases hb8 with rfl | rfl <;> rfl) rfl (by rcases hb8 with rfl | rfl <;> rfl) dX9_typeOfCall_41 ?_
    refine mv_iload_n 2 dX9_typeOfCall_44 rfl ?_
    obtain ⟨hi9, h⟩ := mv_chkE h
    refine mv_ild (mv_pN (t := 11) hb8 (by decide)) (by rcases hb8 with rfl | rfl <;> rfl) (mv_inE hi9) dX9_typeOfCall_45 ?_
    refine mv_aload_n 1 dX9_typeOfCall_46 rfl ?_
    obtain ⟨b10, eb10, hb10, h⟩ := mv_getpE h
    refine mv_getP b10 fX9_23 (by decide) rfl rfl eb10 dX9_typeOfCall_47 ?_
    refine mv_getR (b10 + 2) fX9_44 (mv_pN (t := 0) hb10 (by decide)) (by rcases hb10 with rfl | rfl <;> rfl) rfl (by rcases hb10 with rfl | rfl <;> rfl) dX9_typeOfCall_50 ?_
    refine mv_iload_n 0 dX9_typeOfCall_53 rfl ?_
    obtain ⟨hi11, h⟩ := mv_chkE h
    refine mv_ild (mv_pN (t := 2) hb10 (by decide)) (by rcases hb10 with rfl | rfl <;> rfl) (mv_inE hi11) dX9_typeOfCall_54 ?_
    refine mv_icmp_eq 66 dX9_typeOfCall_55 (by decide) (fun z => ?_) (fun z => ?_)
    · replace h := mv_ifT z h
      refine mv_aload_n 1 dX9_typeOfCall_66 rfl ?_
      obtain ⟨b12, eb12, hb12, h⟩ := mv_getpE h
      refine mv_getP b12 fX9_23 (by decide) rfl rfl eb12 dX9_typeOfCall_67 ?_
      refine mv_getR (b12 + 9) fX9_106 (mv_pN (t := 0) hb12 (by decide)) (by rcases hb12 with rfl | rfl <;> rfl) rfl (by rcases hb12 with rfl | rfl <;> rfl) dX9_typeOfCall_70 ?_
      refine mv_iload_n 2 dX9_typeOfCall_73 rfl ?_
      refine mv_iload_n 0 dX9_typeOfCall_74 rfl ?_
      obtain ⟨hi13, h⟩ := mv_chkE h
      refine mv_ist (mv_pN (t := 9) hb12 (by decide)) (by rcases hb12 with rfl | rfl <;> rfl) (mv_inE hi13) dX9_typeOfCall_75 (fun M14 eM14 => ?_)
      replace h := mv_letE h M14 eM14
      refine mv_aload_n 1 dX9_typeOfCall_76 rfl ?_
      obtain ⟨b15, eb15, hb15, h⟩ := mv_getpE h
      refine mv_getP b15 fX9_23 (by decide) rfl rfl eb15 dX9_typeOfCall_77 ?_
      refine mv_getR (b15 + 10) fX9_109 (mv_pN (t := 0) hb15 (by decide)) (by rcases hb15 with rfl | rfl <;> rfl) rfl (by rcases hb15 with rfl | rfl <;> rfl) dX9_typeOfCall_80 ?_
      refine mv_iload_n 2 dX9_typeOfCall_83 rfl ?_
      obtain ⟨hi16, h⟩ := mv_chkE h
      refine mv_ild (mv_pN (t := 10) hb15 (by decide)) (by rcases hb15 with rfl | rfl <;> rfl) (mv_inE hi16) dX9_typeOfCall_84 ?_
      refine mv_topi (fun v17 ev17 => ?_)
      replace h := mv_letE h v17 ev17
      refine mv_istore_n [(3, .int v17), (2, .int r6), (0, .ref 4), (1, .int a0)] dX9_typeOfCall_85 (by decide) rfl ?_
      refine mv_iconst 0 dX9_typeOfCall_86 (by decide) ?_
      refine mv_istore [(4, .int 0), (3, .int v17), (2, .int r6), (0, .ref 4), (1, .int a0)] dX9_typeOfCall_87 (by decide) rfl ?_
      refine mv_sub [3, 2, 1, 0] rfl ?_
      exact zX9_typeOfCall_89 hd hr_X9_typeOf r6 v17 0 M14 h
    · replace h := mv_ifF z h
      refine mv_aload_n 1 dX9_typeOfCall_58 rfl ?_
      refine mv_iconst 5 dX9_typeOfCall_59 (by decide) ?_
      refine mv_iload_n 2 dX9_typeOfCall_60 rfl ?_
      refine mv_cvV (As := [.int 5, .int a0]) (st := []) okX9_tell lX9_84 (by decide) rfl rfl rfl (Nat.le_of_ble_eq_true rfl) rfl (Nat.le_of_ble_eq_true rfl) dX9_typeOfCall_61 (by omega) rfl (zX9_tell (d := d - 1) (by omega) 5 a0 M7 (mv_bindE h)) (fun _ M18 h => ?_)
      refine mv_iconst 0 dX9_typeOfCall_64 (by decide) ?_
      exact mv_iret rfl dX9_typeOfCall_65 ⟨_, rfl, h⟩
  · replace h := mv_ifT z h
    refine mv_aload_n 1 dX9_typeOfCall_29 rfl ?_
    refine mv_iconst 4 dX9_typeOfCall_30 (by decide) ?_
    refine mv_iload_n 2 dX9_typeOfCall_31 rfl ?_
    refine mv_cvV (As := [.int 4, .int a0]) (st := []) okX9_tell lX9_84 (by decide) rfl rfl rfl (Nat.le_of_ble_eq_true rfl) rfl (Nat.le_of_ble_eq_true rfl) dX9_typeOfCall_32 (by omega) rfl (zX9_tell (d := d - 1) (by omega) 4 a0 M7 (mv_bindE h)) (fun _ M19 h => ?_)
    refine mv_iconst 0 dX9_typeOfCall_35 (by decide) ?_
    exact mv_iret rfl dX9_typeOfCall_36 ⟨_, rfl, h⟩
theorem dX9_typeOfPair_0 : decode cX9_typeOfPair 0 = .ok (.iload_n 2, 1) := by decide +kernel
theorem dX9_typeOfPair_1 : decode cX9_typeOfPair 1 = .ok (.ifCond .le 7, 3) := by decide +kernel
theorem dX9_typeOfPair_4 : decode cX9_typeOfPair 4 = .ok (.iconst 1, 1) := by decide +kernel
theorem dX9_typeOfPair_5 : decode cX9_typeOfPair 5 = .ok (.goto 4, 3) := by decide +kernel
theorem dX9_typeOfPair_8 : decode cX9_typeOfPair 8 = .ok (.iconst 0, 1) := by decide +kernel
theorem dX9_typeOfPair_9 : decode cX9_typeOfPair 9 = .ok (.istore_n 3, 1) := by decide +kernel
theorem dX9_typeOfPair_10 : decode cX9_typeOfPair 10 = .ok (.aload_n 0, 1) := by decide +kernel
theorem dX9_typeOfPair_11 : decode cX9_typeOfPair 11 = .ok (.aload_n 0, 1) := by decide +kernel
theorem dX9_typeOfPair_12 : decode cX9_typeOfPair 12 = .ok (.getfield 23, 3) := by decide +kernel
theorem dX9_typeOfPair_15 : decode cX9_typeOfPair 15 = .ok (.getfield 106, 3) := by decide +kernel
theorem dX9_typeOfPair_18 : decode cX9_typeOfPair 18 = .ok (.iload_n 1, 1) := by decide +kernel
theorem dX9_typeOfPair_19 : decode cX9_typeOfPair 19 = .ok (.iaload, 1) := by decide +kernel
theorem dX9_typeOfPair_20 : decode cX9_typeOfPair 20 = .ok (.iload_n 3, 1) := by decide +kernel
theorem dX9_typeOfPair_21 : decode cX9_typeOfPair 21 = .ok (.ifCond .eq 10, 3) := by decide +kernel
theorem dX9_typeOfPair_24 : decode cX9_typeOfPair 24 = .ok (.iload_n 2, 1) := by decide +kernel
theorem dX9_typeOfPair_25 : decode cX9_typeOfPair 25 = .ok (.invokestatic 133, 3) := by decide +kernel
theorem dX9_typeOfPair_28 : decode cX9_typeOfPair 28 = .ok (.goto 4, 3) := by decide +kernel
theorem dX9_typeOfPair_31 : decode cX9_typeOfPair 31 = .ok (.iconst (-1), 1) := by decide +kernel
theorem dX9_typeOfPair_32 : decode cX9_typeOfPair 32 = .ok (.invokevirtual 57, 3) := by decide +kernel
theorem dX9_typeOfPair_35 : decode cX9_typeOfPair 35 = .ok (.istore 4, 2) := by decide +kernel
theorem dX9_typeOfPair_37 : decode cX9_typeOfPair 37 = .ok (.aload_n 0, 1) := by decide +kernel
theorem dX9_typeOfPair_38 : decode cX9_typeOfPair 38 = .ok (.aload_n 0, 1) := by decide +kernel
theorem dX9_typeOfPair_39 : decode cX9_typeOfPair 39 = .ok (.getfield 23, 3) := by decide +kernel
theorem dX9_typeOfPair_42 : decode cX9_typeOfPair 42 = .ok (.getfield 109, 3) := by decide +kernel
theorem dX9_typeOfPair_45 : decode cX9_typeOfPair 45 = .ok (.iload_n 1, 1) := by decide +kernel
theorem dX9_typeOfPair_46 : decode cX9_typeOfPair 46 = .ok (.iaload, 1) := by decide +kernel
theorem dX9_typeOfPair_47 : decode cX9_typeOfPair 47 = .ok (.iload_n 3, 1) := by decide +kernel
theorem dX9_typeOfPair_48 : decode cX9_typeOfPair 48 = .ok (.ifCond .eq 10, 3) := by decide +kernel
theorem dX9_typeOfPair_51 : decode cX9_typeOfPair 51 = .ok (.iload_n 2, 1) := by decide +kernel
theorem dX9_typeOfPair_52 : decode cX9_typeOfPair 52 = .ok (.invokestatic 138, 3) := by decide +kernel
theorem dX9_typeOfPair_55 : decode cX9_typeOfPair 55 = .ok (.goto 4, 3) := by decide +kernel
theorem dX9_typeOfPair_58 : decode cX9_typeOfPair 58 = .ok (.iconst (-1), 1) := by decide +kernel
theorem dX9_typeOfPair_59 : decode cX9_typeOfPair 59 = .ok (.invokevirtual 57, 3) := by decide +kernel
theorem dX9_typeOfPair_62 : decode cX9_typeOfPair 62 = .ok (.istore 5, 2) := by decide +kernel
theorem dX9_typeOfPair_64 : decode cX9_typeOfPair 64 = .ok (.iload 4, 2) := by decide +kernel
theorem dX9_typeOfPair_66 : decode cX9_typeOfPair 66 = .ok (.iload 5, 2) := by decide +kernel
theorem dX9_typeOfPair_68 : decode cX9_typeOfPair 68 = .ok (.invokestatic 141, 3) := by decide +kernel
theorem dX9_typeOfPair_71 : decode cX9_typeOfPair 71 = .ok (.ireturn, 1) := by decide +kernel
noncomputable def fX9_typeOfPair_59 (r_X9_typeOf : Int32 → Int32 → mv_M → Option (Int32 × mv_M)) (x4 : Int32) (s0 : Int32) (s1 : Int32) (M : mv_M) : Option (Int32 × mv_M) :=
  mv_bind (r_X9_typeOf s1 s0 M) fun r11 M12 =>
  mv_bind (fX6_pairOf x4 r11 M12) fun r13 M14 =>
  some (r13, M14)
set_option maxRecDepth 100000 in
set_option maxHeartbeats 4000000 in
theorem zX9_typeOfPair_59 {l : Launch} {d : Nat} {Q : Int32 → mv_M → Prop} {r_X9_typeOf : Int32 → Int32 → mv_M → Option (Int32 × mv_M)} (hd : 1 ≤ d) (hr_X9_typeOf : ∀ (a0 : Int32) (a1 : Int32) (M : mv_M) (Q : Int32 → mv_M → Prop), mv_ok (r_X9_typeOf a0 a1 M) Q → mv l mX9_typeOf (d - 1) 0 0 (lv_args 0 [.ref 4, .int a0, .int a1]) [] M (mv_qI Q)) (x4 : Int32) (s0 : Int32) (s1 : Int32) (M : mv_M) (h : mv_ok (fX9_typeOfPair_59 r_X9_typeOf x4 s0 s1 M) Q) : mv l mX9_typeOfPair d 0 59 [(4, .int x4)] [.int s0, .int s1, .ref 4] M (mv_qI Q) := by
  unfold fX9_typeOfPair_59 at h
  refine mv_cvI (As := [.int s1, .int s0]) (st := []) okX9_typeOf lX9_57 (by decide) rfl rfl rfl (Nat.le_of_ble_eq_true rfl) rfl (Nat.le_of_ble_eq_true rfl) dX9_typeOfPair_59 (by omega) rfl (hr_X9_typeOf s1 s0 M _ (mv_bindE h)) (fun r11 M12 h => ?_)
  refine mv_istore [(5, .int r11), (4, .int x4)] dX9_typeOfPair_62 (by decide) rfl ?_
  refine mv_iload 1 dX9_typeOfPair_64 rfl ?_
  refine mv_iload 0 dX9_typeOfPair_66 rfl ?_
  refine mv_csI (As := [.int x4, .int r11]) (st := []) okX6_pairOf lX9_141 rfl (Nat.le_of_ble_eq_true rfl) rfl (Nat.le_of_ble_eq_true rfl) dX9_typeOfPair_68 (by omega) rfl (zX6_pairOf (d := d - 1) (by omega) x4 r11 M12 (mv_bindE h)) (fun r13 M14 h => ?_)
  exact mv_iret rfl dX9_typeOfPair_71 ⟨_, rfl, h⟩
noncomputable def fX9_typeOfPair_32 (r_X9_typeOf : Int32 → Int32 → mv_M → Option (Int32 × mv_M)) (x1 : Int32) (x2 : Int32) (x3 : Int32) (s0 : Int32) (s1 : Int32) (M : mv_M) : Option (Int32 × mv_M) :=
  mv_bind (r_X9_typeOf s1 s0 M) fun r5 M6 =>
  mv_getp (M6.2.2 4 2) fun b7 =>
  mv_chk (mv_inb x1 1000) <|
  if x3 = 0 then
    fX9_typeOfPair_59 r_X9_typeOf r5 (-1) (M6.1 (b7 + 10) x1.toNatClampNeg) M6
  else
    mv_bind (fX6_secondOf x2 M6) fun r9 M10 =>
    fX9_typeOfPair_59 r_X9_typeOf r5 r9 (M6.1 (b7 + 10) x1.toNatClampNeg) M10
set_option maxRecDepth 100000 in
set_option maxHeartbeats 4000000 in
theorem zX9_typeOfPair_32 {l : Launch} {d : Nat} {Q : Int32 → mv_M → Prop} {r_X9_typeOf : Int32 → Int32 → mv_M → Option (Int32 × mv_M)} (hd : 1 ≤ d) (hr_X9_typeOf : ∀ (a0 : Int32) (a1 : Int32) (M : mv_M) (Q : Int32 → mv_M → Prop), mv_ok (r_X9_typeOf a0 a1 M) Q → mv l mX9_typeOf (d - 1) 0 0 (lv_args 0 [.ref 4, .int a0, .int a1]) [] M (mv_qI Q)) (x1 : Int32) (x2 : Int32) (x3 : Int32) (s0 : Int32) (s1 : Int32) (M : mv_M) (h : mv_ok (fX9_typeOfPair_32 r_X9_typeOf x1 x2 x3 s0 s1 M) Q) : mv l mX9_typeOfPair d 0 32 [(0, .ref 4), (1, .int x1), (2, .int x2), (3, .int x3)] [.int s0, .int s1, .ref 4] M (mv_qI Q) := by
  unfold fX9_typeOfPair_32 at h
  refine mv_cvI (As := [.int s1, .int s0]) (st := []) okX9_typeOf lX9_57 (by decide) rfl rfl rfl (Nat.le_of_ble_eq_true rfl) rfl (Nat.le_of_ble_eq_true rfl) dX9_typeOfPair_32 (by omega) rfl (hr_X9_typeOf s1 s0 M _ (mv_bindE h)) (fun r5 M6 h => ?_)
  refine mv_istore [(4, .int r5), (0, .ref 4), (1, .int x1), (2, .int x2), (3, .int x3)] dX9_typeOfPair_35 (by decide) rfl ?_
  refine mv_aload_n 1 dX9_typeOfPair_37 rfl ?_
  refine mv_aload_n 1 dX9_typeOfPair_38 rfl ?_
  obtain ⟨b7, eb7, hb7, h⟩ := mv_getpE h
  refine mv_getP b7 fX9_23 (by decide) rfl rfl eb7 dX9_typeOfPair_39 ?_
  refine mv_getR (b7 + 10) fX9_109 (mv_pN (t := 0) hb7 (by decide)) (by rcases hb7 with rfl | rfl <;> rfl) rfl (by rcases hb7 with rfl | rfl <;> rfl) dX9_typeOfPair_42 ?_
  refine mv_iload_n 2 dX9_typeOfPair_45 rfl ?_
  obtain ⟨hi8, h⟩ := mv_chkE h
  refine mv_ild (mv_pN (t := 10) hb7 (by decide)) (by rcases hb7 with rfl | rfl <;> rfl) (mv_inE hi8) dX9_typeOfPair_46 ?_
  refine mv_iload_n 4 dX9_typeOfPair_47 rfl ?_
  refine mv_if_eq 58 dX9_typeOfPair_48 (by decide) (fun z => ?_) (fun z => ?_)
  · replace h := mv_ifT z h
    refine mv_iconst (-1) dX9_typeOfPair_58 (by decide) ?_
    refine mv_sub [0] rfl ?_
    exact zX9_typeOfPair_59 hd hr_X9_typeOf r5 (-1) (M6.1 (b7 + 10) x1.toNatClampNeg) M6 h
  · replace h := mv_ifF z h
    refine mv_iload_n 3 dX9_typeOfPair_51 rfl ?_
    refine mv_csI (As := [.int x2]) (st := [.int (M6.1 (b7 + 10) x1.toNatClampNeg), .ref 4]) okX6_secondOf lX9_138 rfl (Nat.le_of_ble_eq_true rfl) rfl (Nat.le_of_ble_eq_true rfl) dX9_typeOfPair_52 (by omega) rfl (zX6_secondOf (d := d - 1) (by omega) x2 M6 (mv_bindE h)) (fun r9 M10 h => ?_)
    refine mv_goto 59 dX9_typeOfPair_55 (by decide) ?_
    refine mv_sub [0] rfl ?_
    exact zX9_typeOfPair_59 hd hr_X9_typeOf r5 r9 (M6.1 (b7 + 10) x1.toNatClampNeg) M10 h
noncomputable def fX9_typeOfPair_9 (r_X9_typeOf : Int32 → Int32 → mv_M → Option (Int32 × mv_M)) (x1 : Int32) (x2 : Int32) (s0 : Int32) (M : mv_M) : Option (Int32 × mv_M) :=
  mv_getp (M.2.2 4 2) fun b1 =>
  mv_chk (mv_inb x1 1000) <|
  if s0 = 0 then
    fX9_typeOfPair_32 r_X9_typeOf x1 x2 s0 (-1) (M.1 (b1 + 9) x1.toNatClampNeg) M
  else
    mv_bind (fX6_firstOf x2 M) fun r3 M4 =>
    fX9_typeOfPair_32 r_X9_typeOf x1 x2 s0 r3 (M.1 (b1 + 9) x1.toNatClampNeg) M4
set_option maxRecDepth 100000 in
set_option maxHeartbeats 4000000 in
theorem zX9_typeOfPair_9 {l : Launch} {d : Nat} {Q : Int32 → mv_M → Prop} {r_X9_typeOf : Int32 → Int32 → mv_M → Option (Int32 × mv_M)} (hd : 1 ≤ d) (hr_X9_typeOf : ∀ (a0 : Int32) (a1 : Int32) (M : mv_M) (Q : Int32 → mv_M → Prop), mv_ok (r_X9_typeOf a0 a1 M) Q → mv l mX9_typeOf (d - 1) 0 0 (lv_args 0 [.ref 4, .int a0, .int a1]) [] M (mv_qI Q)) (x1 : Int32) (x2 : Int32) (s0 : Int32) (M : mv_M) (h : mv_ok (fX9_typeOfPair_9 r_X9_typeOf x1 x2 s0 M) Q) : mv l mX9_typeOfPair d 0 9 [(0, .ref 4), (1, .int x1), (2, .int x2)] [.int s0] M (mv_qI Q) := by
  unfold fX9_typeOfPair_9 at h
  refine mv_istore_n [(3, .int s0), (0, .ref 4), (1, .int x1), (2, .int x2)] dX9_typeOfPair_9 (by decide) rfl ?_
  refine mv_aload_n 1 dX9_typeOfPair_10 rfl ?_
  refine mv_aload_n 1 dX9_typeOfPair_11 rfl ?_
  obtain ⟨b1, eb1, hb1, h⟩ := mv_getpE h
  refine mv_getP b1 fX9_23 (by decide) rfl rfl eb1 dX9_typeOfPair_12 ?_
  refine mv_getR (b1 + 9) fX9_106 (mv_pN (t := 0) hb1 (by decide)) (by rcases hb1 with rfl | rfl <;> rfl) rfl (by rcases hb1 with rfl | rfl <;> rfl) dX9_typeOfPair_15 ?_
  refine mv_iload_n 2 dX9_typeOfPair_18 rfl ?_
  obtain ⟨hi2, h⟩ := mv_chkE h
  refine mv_ild (mv_pN (t := 9) hb1 (by decide)) (by rcases hb1 with rfl | rfl <;> rfl) (mv_inE hi2) dX9_typeOfPair_19 ?_
  refine mv_iload_n 0 dX9_typeOfPair_20 rfl ?_
  refine mv_if_eq 31 dX9_typeOfPair_21 (by decide) (fun z => ?_) (fun z => ?_)
  · replace h := mv_ifT z h
    refine mv_iconst (-1) dX9_typeOfPair_31 (by decide) ?_
    refine mv_sub [1, 2, 3, 0] rfl ?_
    exact zX9_typeOfPair_32 hd hr_X9_typeOf x1 x2 s0 (-1) (M.1 (b1 + 9) x1.toNatClampNeg) M h
  · replace h := mv_ifF z h
    refine mv_iload_n 3 dX9_typeOfPair_24 rfl ?_
    refine mv_csI (As := [.int x2]) (st := [.int (M.1 (b1 + 9) x1.toNatClampNeg), .ref 4]) okX6_firstOf lX9_133 rfl (Nat.le_of_ble_eq_true rfl) rfl (Nat.le_of_ble_eq_true rfl) dX9_typeOfPair_25 (by omega) rfl (zX6_firstOf (d := d - 1) (by omega) x2 M (mv_bindE h)) (fun r3 M4 h => ?_)
    refine mv_goto 32 dX9_typeOfPair_28 (by decide) ?_
    refine mv_sub [1, 2, 3, 0] rfl ?_
    exact zX9_typeOfPair_32 hd hr_X9_typeOf x1 x2 s0 r3 (M.1 (b1 + 9) x1.toNatClampNeg) M4 h
noncomputable def fX9_typeOfPair (r_X9_typeOf : Int32 → Int32 → mv_M → Option (Int32 × mv_M)) (a0 : Int32) (a1 : Int32) (M : mv_M) : Option (Int32 × mv_M) :=
  if a1 ≤ 0 then
    fX9_typeOfPair_9 r_X9_typeOf a0 a1 0 M
  else
    fX9_typeOfPair_9 r_X9_typeOf a0 a1 1 M
set_option maxRecDepth 100000 in
set_option maxHeartbeats 4000000 in
theorem zX9_typeOfPair {l : Launch} {d : Nat} {Q : Int32 → mv_M → Prop} {r_X9_typeOf : Int32 → Int32 → mv_M → Option (Int32 × mv_M)} (hd : 1 ≤ d) (hr_X9_typeOf : ∀ (a0 : Int32) (a1 : Int32) (M : mv_M) (Q : Int32 → mv_M → Prop), mv_ok (r_X9_typeOf a0 a1 M) Q → mv l mX9_typeOf (d - 1) 0 0 (lv_args 0 [.ref 4, .int a0, .int a1]) [] M (mv_qI Q)) (a0 : Int32) (a1 : Int32) (M : mv_M) (h : mv_ok (fX9_typeOfPair r_X9_typeOf a0 a1 M) Q) : mv l mX9_typeOfPair d 0 0 (lv_args 0 [.ref 4, .int a0, .int a1]) [] M (mv_qI Q) := by
  unfold fX9_typeOfPair at h
  show mv l mX9_typeOfPair d 0 0 [(0, .ref 4), (1, .int a0), (2, .int a1)] [] M (mv_qI Q)
  refine mv_iload_n 2 dX9_typeOfPair_0 rfl ?_
  refine mv_if_le 8 dX9_typeOfPair_1 (by decide) (fun z => ?_) (fun z => ?_)
  · replace h := mv_ifT z h
    refine mv_iconst 0 dX9_typeOfPair_8 (by decide) ?_
    refine mv_sub [0, 1, 2] rfl ?_
    exact zX9_typeOfPair_9 hd hr_X9_typeOf a0 a1 0 M h
  · replace h := mv_ifF z h
    refine mv_iconst 1 dX9_typeOfPair_4 (by decide) ?_
    refine mv_goto 9 dX9_typeOfPair_5 (by decide) ?_
    refine mv_sub [0, 1, 2] rfl ?_
    exact zX9_typeOfPair_9 hd hr_X9_typeOf a0 a1 1 M h
theorem dX9_typeOfIf_0 : decode cX9_typeOfIf 0 = .ok (.aload_n 0, 1) := by decide +kernel
theorem dX9_typeOfIf_1 : decode cX9_typeOfIf 1 = .ok (.aload_n 0, 1) := by decide +kernel
theorem dX9_typeOfIf_2 : decode cX9_typeOfIf 2 = .ok (.getfield 23, 3) := by decide +kernel
theorem dX9_typeOfIf_5 : decode cX9_typeOfIf 5 = .ok (.getfield 106, 3) := by decide +kernel
theorem dX9_typeOfIf_8 : decode cX9_typeOfIf 8 = .ok (.iload_n 1, 1) := by decide +kernel
theorem dX9_typeOfIf_9 : decode cX9_typeOfIf 9 = .ok (.iaload, 1) := by decide +kernel
theorem dX9_typeOfIf_10 : decode cX9_typeOfIf 10 = .ok (.iconst 0, 1) := by decide +kernel
theorem dX9_typeOfIf_11 : decode cX9_typeOfIf 11 = .ok (.invokevirtual 57, 3) := by decide +kernel
theorem dX9_typeOfIf_14 : decode cX9_typeOfIf 14 = .ok (.pop, 1) := by decide +kernel
theorem dX9_typeOfIf_15 : decode cX9_typeOfIf 15 = .ok (.aload_n 0, 1) := by decide +kernel
theorem dX9_typeOfIf_16 : decode cX9_typeOfIf 16 = .ok (.aload_n 0, 1) := by decide +kernel
theorem dX9_typeOfIf_17 : decode cX9_typeOfIf 17 = .ok (.getfield 23, 3) := by decide +kernel
theorem dX9_typeOfIf_20 : decode cX9_typeOfIf 20 = .ok (.getfield 109, 3) := by decide +kernel
theorem dX9_typeOfIf_23 : decode cX9_typeOfIf 23 = .ok (.iload_n 1, 1) := by decide +kernel
theorem dX9_typeOfIf_24 : decode cX9_typeOfIf 24 = .ok (.iaload, 1) := by decide +kernel
theorem dX9_typeOfIf_25 : decode cX9_typeOfIf 25 = .ok (.iload_n 2, 1) := by decide +kernel
theorem dX9_typeOfIf_26 : decode cX9_typeOfIf 26 = .ok (.invokevirtual 57, 3) := by decide +kernel
theorem dX9_typeOfIf_29 : decode cX9_typeOfIf 29 = .ok (.istore_n 3, 1) := by decide +kernel
theorem dX9_typeOfIf_30 : decode cX9_typeOfIf 30 = .ok (.aload_n 0, 1) := by decide +kernel
theorem dX9_typeOfIf_31 : decode cX9_typeOfIf 31 = .ok (.aload_n 0, 1) := by decide +kernel
theorem dX9_typeOfIf_32 : decode cX9_typeOfIf 32 = .ok (.getfield 23, 3) := by decide +kernel
theorem dX9_typeOfIf_35 : decode cX9_typeOfIf 35 = .ok (.getfield 127, 3) := by decide +kernel
theorem dX9_typeOfIf_38 : decode cX9_typeOfIf 38 = .ok (.iload_n 1, 1) := by decide +kernel
theorem dX9_typeOfIf_39 : decode cX9_typeOfIf 39 = .ok (.iaload, 1) := by decide +kernel
theorem dX9_typeOfIf_40 : decode cX9_typeOfIf 40 = .ok (.iload_n 2, 1) := by decide +kernel
theorem dX9_typeOfIf_41 : decode cX9_typeOfIf 41 = .ok (.ifCond .ge 7, 3) := by decide +kernel
theorem dX9_typeOfIf_44 : decode cX9_typeOfIf 44 = .ok (.iload_n 3, 1) := by decide +kernel
theorem dX9_typeOfIf_45 : decode cX9_typeOfIf 45 = .ok (.goto 4, 3) := by decide +kernel
theorem dX9_typeOfIf_48 : decode cX9_typeOfIf 48 = .ok (.iload_n 2, 1) := by decide +kernel
theorem dX9_typeOfIf_49 : decode cX9_typeOfIf 49 = .ok (.invokevirtual 57, 3) := by decide +kernel
theorem dX9_typeOfIf_52 : decode cX9_typeOfIf 52 = .ok (.pop, 1) := by decide +kernel
theorem dX9_typeOfIf_53 : decode cX9_typeOfIf 53 = .ok (.iload_n 3, 1) := by decide +kernel
theorem dX9_typeOfIf_54 : decode cX9_typeOfIf 54 = .ok (.ireturn, 1) := by decide +kernel
noncomputable def fX9_typeOfIf_49 (r_X9_typeOf : Int32 → Int32 → mv_M → Option (Int32 × mv_M)) (x3 : Int32) (s0 : Int32) (s1 : Int32) (M : mv_M) : Option (Int32 × mv_M) :=
  mv_bind (r_X9_typeOf s1 s0 M) fun r11 M12 =>
  some (x3, M12)
set_option maxRecDepth 100000 in
set_option maxHeartbeats 4000000 in
theorem zX9_typeOfIf_49 {l : Launch} {d : Nat} {Q : Int32 → mv_M → Prop} {r_X9_typeOf : Int32 → Int32 → mv_M → Option (Int32 × mv_M)} (hd : 1 ≤ d) (hr_X9_typeOf : ∀ (a0 : Int32) (a1 : Int32) (M : mv_M) (Q : Int32 → mv_M → Prop), mv_ok (r_X9_typeOf a0 a1 M) Q → mv l mX9_typeOf (d - 1) 0 0 (lv_args 0 [.ref 4, .int a0, .int a1]) [] M (mv_qI Q)) (x3 : Int32) (s0 : Int32) (s1 : Int32) (M : mv_M) (h : mv_ok (fX9_typeOfIf_49 r_X9_typeOf x3 s0 s1 M) Q) : mv l mX9_typeOfIf d 0 49 [(3, .int x3)] [.int s0, .int s1, .ref 4] M (mv_qI Q) := by
  unfold fX9_typeOfIf_49 at h
  refine mv_cvI (As := [.int s1, .int s0]) (st := []) okX9_typeOf lX9_57 (by decide) rfl rfl rfl (Nat.le_of_ble_eq_true rfl) rfl (Nat.le_of_ble_eq_true rfl) dX9_typeOfIf_49 (by omega) rfl (hr_X9_typeOf s1 s0 M _ (mv_bindE h)) (fun r11 M12 h => ?_)
  refine mv_pop dX9_typeOfIf_52 rfl ?_
  refine mv_iload_n 0 dX9_typeOfIf_53 rfl ?_
  exact mv_iret rfl dX9_typeOfIf_54 ⟨_, rfl, h⟩
noncomputable def fX9_typeOfIf (r_X9_typeOf : Int32 → Int32 → mv_M → Option (Int32 × mv_M)) (a0 : Int32) (a1 : Int32) (M : mv_M) : Option (Int32 × mv_M) :=
  mv_getp (M.2.2 4 2) fun b1 =>
  mv_chk (mv_inb a0 1000) <|
  mv_bind (r_X9_typeOf (M.1 (b1 + 9) a0.toNatClampNeg) 0 M) fun r3 M4 =>
  mv_getp (M4.2.2 4 2) fun b5 =>
  mv_chk (mv_inb a0 1000) <|
  mv_bind (r_X9_typeOf (M4.1 (b5 + 10) a0.toNatClampNeg) a1 M4) fun r7 M8 =>
  mv_getp (M8.2.2 4 2) fun b9 =>
  mv_chk (mv_inb a0 1000) <|
  if 0 ≤ a1 then
    fX9_typeOfIf_49 r_X9_typeOf r7 a1 (M8.1 (b9 + 11) a0.toNatClampNeg) M8
  else
    fX9_typeOfIf_49 r_X9_typeOf r7 r7 (M8.1 (b9 + 11) a0.toNatClampNeg) M8
set_option maxRecDepth 100000 in
set_option maxHeartbeats 4000000 in
theorem zX9_typeOfIf {l : Launch} {d : Nat} {Q : Int32 → mv_M → Prop} {r_X9_typeOf : Int32 → Int32 → mv_M → Option (Int32 × mv_M)} (hd : 1 ≤ d) (hr_X9_typeOf : ∀ (a0 : Int32) (a1 : Int32) (M : mv_M) (Q : Int32 → mv_M → Prop), mv_ok (r_X9_typeOf a0 a1 M) Q → mv l mX9_typeOf (d - 1) 0 0 (lv_args 0 [.ref 4, .int a0, .int a1]) [] M (mv_qI Q)) (a0 : Int32) (a1 : Int32) (M : mv_M) (h : mv_ok (fX9_typeOfIf r_X9_typeOf a0 a1 M) Q) : mv l mX9_typeOfIf d 0 0 (lv_args 0 [.ref 4, .int a0, .int a1]) [] M (mv_qI Q) := by
  unfold fX9_typeOfIf at h
  show mv l mX9_typeOfIf d 0 0 [(0, .ref 4), (1, .int a0), (2, .int a1)] [] M (mv_qI Q)
  refine mv_aload_n 0 dX9_typeOfIf_0 rfl ?_
  refine mv_aload_n 0 dX9_typeOfIf_1 rfl ?_
  obtain ⟨b1, eb1, hb1, h⟩ := mv_getpE h
  refine mv_getP b1 fX9_23 (by decide) rfl rfl eb1 dX9_typeOfIf_2 ?_
  refine mv_getR (b1 + 9) fX9_106 (mv_pN (t := 0) hb1 (by decide)) (by rcases hb1 with rfl | rfl <;> rfl) rfl (by rcases hb1 with rfl | rfl <;> rfl) dX9_typeOfIf_5 ?_
  refine mv_iload_n 1 dX9_typeOfIf_8 rfl ?_
  obtain ⟨hi2, h⟩ := mv_chkE h
  refine mv_ild (mv_pN (t := 9) hb1 (by decide)) (by rcases hb1 with rfl | rfl <;> rfl) (mv_inE hi2) dX9_typeOfIf_9 ?_
  refine mv_iconst 0 dX9_typeOfIf_10 (by decide) ?_
  refine mv_cvI (As := [.int (M.1 (b1 + 9) a0.toNatClampNeg), .int 0]) (st := []) okX9_typeOf lX9_57 (by decide) rfl rfl rfl (Nat.le_of_ble_eq_true rfl) rfl (Nat.le_of_ble_eq_true rfl) dX9_typeOfIf_11 (by omega) rfl (hr_X9_typeOf (M.1 (b1 + 9) a0.toNatClampNeg) 0 M _ (mv_bindE h)) (fun r3 M4 h => ?_)
  refine mv_pop dX9_typeOfIf_14 rfl ?_
  refine mv_aload_n 0 dX9_typeOfIf_15 rfl ?_
  refine mv_aload_n 0 dX9_typeOfIf_16 rfl ?_
  obtain ⟨b5, eb5, hb5, h⟩ := mv_getpE h
  refine mv_getP b5 fX9_23 (by decide) rfl rfl eb5 dX9_typeOfIf_17 ?_
  refine mv_getR (b5 + 10) fX9_109 (mv_pN (t := 0) hb5 (by decide)) (by rcases hb5 with rfl | rfl <;> rfl) rfl (by rcases hb5 with rfl | rfl <;> rfl) dX9_typeOfIf_20 ?_
  refine mv_iload_n 1 dX9_typeOfIf_23 rfl ?_
  obtain ⟨hi6, h⟩ := mv_chkE h
  refine mv_ild (mv_pN (t := 10) hb5 (by decide)) (by rcases hb5 with rfl | rfl <;> rfl) (mv_inE hi6) dX9_typeOfIf_24 ?_
  refine mv_iload_n 2 dX9_typeOfIf_25 rfl ?_
  refine mv_cvI (As := [.int (M4.1 (b5 + 10) a0.toNatClampNeg), .int a1]) (st := []) okX9_typeOf lX9_57 (by decide) rfl rfl rfl (Nat.le_of_ble_eq_true rfl) rfl (Nat.le_of_ble_eq_true rfl) dX9_typeOfIf_26 (by omega) rfl (hr_X9_typeOf (M4.1 (b5 + 10) a0.toNatClampNeg) a1 M4 _ (mv_bindE h)) (fun r7 M8 h => ?_)
  refine mv_istore_n [(3, .int r7), (0, .ref 4), (1, .int a0), (2, .int a1)] dX9_typeOfIf_29 (by decide) rfl ?_
  refine mv_aload_n 1 dX9_typeOfIf_30 rfl ?_
  refine mv_aload_n 1 dX9_typeOfIf_31 rfl ?_
  obtain ⟨b9, eb9, hb9, h⟩ := mv_getpE h
  refine mv_getP b9 fX9_23 (by decide) rfl rfl eb9 dX9_typeOfIf_32 ?_
  refine mv_getR (b9 + 11) fX9_127 (mv_pN (t := 0) hb9 (by decide)) (by rcases hb9 with rfl | rfl <;> rfl) rfl (by rcases hb9 with rfl | rfl <;> rfl) dX9_typeOfIf_35 ?_
  refine mv_iload_n 2 dX9_typeOfIf_38 rfl ?_
  obtain ⟨hi10, h⟩ := mv_chkE h
  refine mv_ild (mv_pN (t := 11) hb9 (by decide)) (by rcases hb9 with rfl | rfl <;> rfl) (mv_inE hi10) dX9_typeOfIf_39 ?_
  refine mv_iload_n 3 dX9_typeOfIf_40 rfl ?_
  refine mv_if_ge 48 dX9_typeOfIf_41 (by decide) (fun z => ?_) (fun z => ?_)
  · replace h := mv_ifT z h
    refine mv_iload_n 3 dX9_typeOfIf_48 rfl ?_
    refine mv_sub [0] rfl ?_
    exact zX9_typeOfIf_49 hd hr_X9_typeOf r7 a1 (M8.1 (b9 + 11) a0.toNatClampNeg) M8 h
  · replace h := mv_ifF z h
    refine mv_iload_n 0 dX9_typeOfIf_44 rfl ?_
    refine mv_goto 49 dX9_typeOfIf_45 (by decide) ?_
    refine mv_sub [0] rfl ?_
    exact zX9_typeOfIf_49 hd hr_X9_typeOf r7 r7 (M8.1 (b9 + 11) a0.toNatClampNeg) M8 h
theorem dX9_typeOfLet_0 : decode cX9_typeOfLet 0 = .ok (.aload_n 0, 1) := by decide +kernel
theorem dX9_typeOfLet_1 : decode cX9_typeOfLet 1 = .ok (.getfield 23, 3) := by decide +kernel
theorem dX9_typeOfLet_4 : decode cX9_typeOfLet 4 = .ok (.getfield 127, 3) := by decide +kernel
theorem dX9_typeOfLet_7 : decode cX9_typeOfLet 7 = .ok (.iload_n 1, 1) := by decide +kernel
theorem dX9_typeOfLet_8 : decode cX9_typeOfLet 8 = .ok (.iaload, 1) := by decide +kernel
theorem dX9_typeOfLet_9 : decode cX9_typeOfLet 9 = .ok (.istore_n 3, 1) := by decide +kernel
theorem dX9_typeOfLet_10 : decode cX9_typeOfLet 10 = .ok (.aload_n 0, 1) := by decide +kernel
theorem dX9_typeOfLet_11 : decode cX9_typeOfLet 11 = .ok (.getfield 23, 3) := by decide +kernel
theorem dX9_typeOfLet_14 : decode cX9_typeOfLet 14 = .ok (.aload_n 0, 1) := by decide +kernel
theorem dX9_typeOfLet_15 : decode cX9_typeOfLet 15 = .ok (.getfield 38, 3) := by decide +kernel
theorem dX9_typeOfLet_18 : decode cX9_typeOfLet 18 = .ok (.iload_n 3, 1) := by decide +kernel
theorem dX9_typeOfLet_19 : decode cX9_typeOfLet 19 = .ok (.aload_n 0, 1) := by decide +kernel
theorem dX9_typeOfLet_20 : decode cX9_typeOfLet 20 = .ok (.aload_n 0, 1) := by decide +kernel
theorem dX9_typeOfLet_21 : decode cX9_typeOfLet 21 = .ok (.getfield 23, 3) := by decide +kernel
theorem dX9_typeOfLet_24 : decode cX9_typeOfLet 24 = .ok (.getfield 106, 3) := by decide +kernel
theorem dX9_typeOfLet_27 : decode cX9_typeOfLet 27 = .ok (.iload_n 1, 1) := by decide +kernel
theorem dX9_typeOfLet_28 : decode cX9_typeOfLet 28 = .ok (.iaload, 1) := by decide +kernel
theorem dX9_typeOfLet_29 : decode cX9_typeOfLet 29 = .ok (.iconst (-1), 1) := by decide +kernel
theorem dX9_typeOfLet_30 : decode cX9_typeOfLet 30 = .ok (.invokevirtual 57, 3) := by decide +kernel
theorem dX9_typeOfLet_33 : decode cX9_typeOfLet 33 = .ok (.invokevirtual 144, 3) := by decide +kernel
theorem dX9_typeOfLet_36 : decode cX9_typeOfLet 36 = .ok (.aload_n 0, 1) := by decide +kernel
theorem dX9_typeOfLet_37 : decode cX9_typeOfLet 37 = .ok (.getfield 41, 3) := by decide +kernel
theorem dX9_typeOfLet_40 : decode cX9_typeOfLet 40 = .ok (.istore 4, 2) := by decide +kernel
theorem dX9_typeOfLet_42 : decode cX9_typeOfLet 42 = .ok (.aload_n 0, 1) := by decide +kernel
theorem dX9_typeOfLet_43 : decode cX9_typeOfLet 43 = .ok (.iload_n 3, 1) := by decide +kernel
theorem dX9_typeOfLet_44 : decode cX9_typeOfLet 44 = .ok (.invokevirtual 47, 3) := by decide +kernel
theorem dX9_typeOfLet_47 : decode cX9_typeOfLet 47 = .ok (.aload_n 0, 1) := by decide +kernel
theorem dX9_typeOfLet_48 : decode cX9_typeOfLet 48 = .ok (.aload_n 0, 1) := by decide +kernel
theorem dX9_typeOfLet_49 : decode cX9_typeOfLet 49 = .ok (.getfield 23, 3) := by decide +kernel
theorem dX9_typeOfLet_52 : decode cX9_typeOfLet 52 = .ok (.getfield 109, 3) := by decide +kernel
theorem dX9_typeOfLet_55 : decode cX9_typeOfLet 55 = .ok (.iload_n 1, 1) := by decide +kernel
theorem dX9_typeOfLet_56 : decode cX9_typeOfLet 56 = .ok (.iaload, 1) := by decide +kernel
theorem dX9_typeOfLet_57 : decode cX9_typeOfLet 57 = .ok (.iload_n 2, 1) := by decide +kernel
theorem dX9_typeOfLet_58 : decode cX9_typeOfLet 58 = .ok (.invokevirtual 57, 3) := by decide +kernel
theorem dX9_typeOfLet_61 : decode cX9_typeOfLet 61 = .ok (.istore 5, 2) := by decide +kernel
theorem dX9_typeOfLet_63 : decode cX9_typeOfLet 63 = .ok (.aload_n 0, 1) := by decide +kernel
theorem dX9_typeOfLet_64 : decode cX9_typeOfLet 64 = .ok (.iload 4, 2) := by decide +kernel
theorem dX9_typeOfLet_66 : decode cX9_typeOfLet 66 = .ok (.putfield 41, 3) := by decide +kernel
theorem dX9_typeOfLet_69 : decode cX9_typeOfLet 69 = .ok (.iload 5, 2) := by decide +kernel
theorem dX9_typeOfLet_71 : decode cX9_typeOfLet 71 = .ok (.ireturn, 1) := by decide +kernel
noncomputable def fX9_typeOfLet (r_X9_typeOf : Int32 → Int32 → mv_M → Option (Int32 × mv_M)) (a0 : Int32) (a1 : Int32) (M : mv_M) : Option (Int32 × mv_M) :=
  mv_getp (M.2.2 4 2) fun b1 =>
  mv_chk (mv_inb a0 1000) <|
  mv_let (M.1 (b1 + 11) a0.toNatClampNeg) fun v3 =>
  mv_getp (M.2.2 4 2) fun b4 =>
  mv_getp (M.2.2 4 2) fun b5 =>
  mv_chk (mv_inb a0 1000) <|
  mv_bind (r_X9_typeOf (M.1 (b5 + 9) a0.toNatClampNeg) (-1) M) fun r7 M8 =>
  mv_bind (fX4_setNameType b4 (M.1 4 3) v3 r7 M8) fun _ M9 =>
  mv_let (M9.1 4 5) fun v10 =>
  mv_bind (fX9_open v3 M9) fun _ M11 =>
  mv_getp (M11.2.2 4 2) fun b12 =>
  mv_chk (mv_inb a0 1000) <|
  mv_bind (r_X9_typeOf (M11.1 (b12 + 10) a0.toNatClampNeg) a1 M11) fun r14 M15 =>
  mv_let (mv_si M15 4 5 v10) fun M16 =>
  some (r14, M16)
set_option maxRecDepth 100000 in
set_option maxHeartbeats 4000000 in
theorem zX9_typeOfLet {l : Launch} {d : Nat} {Q : Int32 → mv_M → Prop} {r_X9_typeOf : Int32 → Int32 → mv_M → Option (Int32 × mv_M)} (hd : 3 ≤ d) (hr_X9_typeOf : ∀ (a0 : Int32) (a1 : Int32) (M : mv_M) (Q : Int32 → mv_M → Prop), mv_ok (r_X9_typeOf a0 a1 M) Q → mv l mX9_typeOf (d - 1) 0 0 (lv_args 0 [.ref 4, .int a0, .int a1]) [] M (mv_qI Q)) (a0 : Int32) (a1 : Int32) (M : mv_M) (h : mv_ok (fX9_typeOfLet r_X9_typeOf a0 a1 M) Q) : mv l mX9_typeOfLet d 0 0 (lv_args 0 [.ref 4, .int a0, .int a1]) [] M (mv_qI Q) := by
  unfold fX9_typeOfLet at h
  show mv l mX9_typeOfLet d 0 0 [(0, .ref 4), (1, .int a0), (2, .int a1)] [] M (mv_qI Q)
  refine mv_aload_n 0 dX9_typeOfLet_0 rfl ?_
  obtain ⟨b1, eb1, hb1, h⟩ := mv_getpE h
  refine mv_getP b1 fX9_23 (by decide) rfl rfl eb1 dX9_typeOfLet_1 ?_
  refine mv_getR (b1 + 11) fX9_127 (mv_pN (t := 0) hb1 (by decide)) (by rcases hb1 with rfl | rfl <;> rfl) rfl (by rcases hb1 with rfl | rfl <;> rfl) dX9_typeOfLet_4 ?_
  refine mv_iload_n 1 dX9_typeOfLet_7 rfl ?_
  obtain ⟨hi2, h⟩ := mv_chkE h
  refine mv_ild (mv_pN (t := 11) hb1 (by decide)) (by rcases hb1 with rfl | rfl <;> rfl) (mv_inE hi2) dX9_typeOfLet_8 ?_
  refine mv_topi (fun v3 ev3 => ?_)
  replace h := mv_letE h v3 ev3
  refine mv_istore_n [(3, .int v3), (0, .ref 4), (1, .int a0), (2, .int a1)] dX9_typeOfLet_9 (by decide) rfl ?_
  refine mv_aload_n 1 dX9_typeOfLet_10 rfl ?_
  obtain ⟨b4, eb4, hb4, h⟩ := mv_getpE h
  refine mv_getP b4 fX9_23 (by decide) rfl rfl eb4 dX9_typeOfLet_11 ?_
  refine mv_aload_n 1 dX9_typeOfLet_14 rfl ?_
  refine mv_getI fX9_38 (by decide) rfl rfl dX9_typeOfLet_15 ?_
  refine mv_iload_n 0 dX9_typeOfLet_18 rfl ?_
  refine mv_aload_n 1 dX9_typeOfLet_19 rfl ?_
  refine mv_aload_n 1 dX9_typeOfLet_20 rfl ?_
  obtain ⟨b5, eb5, hb5, h⟩ := mv_getpE h
  refine mv_getP b5 fX9_23 (by decide) rfl rfl eb5 dX9_typeOfLet_21 ?_
  refine mv_getR (b5 + 9) fX9_106 (mv_pN (t := 0) hb5 (by decide)) (by rcases hb5 with rfl | rfl <;> rfl) rfl (by rcases hb5 with rfl | rfl <;> rfl) dX9_typeOfLet_24 ?_
  refine mv_iload_n 2 dX9_typeOfLet_27 rfl ?_
  obtain ⟨hi6, h⟩ := mv_chkE h
  refine mv_ild (mv_pN (t := 9) hb5 (by decide)) (by rcases hb5 with rfl | rfl <;> rfl) (mv_inE hi6) dX9_typeOfLet_28 ?_
  refine mv_iconst (-1) dX9_typeOfLet_29 (by decide) ?_
  refine mv_cvI (As := [.int (M.1 (b5 + 9) a0.toNatClampNeg), .int (-1)]) (st := [.int v3, .int (M.1 4 3), .ref b4]) okX9_typeOf lX9_57 (by decide) rfl rfl rfl (Nat.le_of_ble_eq_true rfl) rfl (Nat.le_of_ble_eq_true rfl) dX9_typeOfLet_30 (by omega) rfl (hr_X9_typeOf (M.1 (b5 + 9) a0.toNatClampNeg) (-1) M _ (mv_bindE h)) (fun r7 M8 h => ?_)
  refine mv_cvV (As := [.int (M.1 4 3), .int v3, .int r7]) (st := []) okX4_setNameType lX9_144 (mv_pN (t := 0) hb4 (by decide)) (by rcases hb4 with rfl | rfl <;> rfl) rfl rfl (Nat.le_of_ble_eq_true rfl) rfl (Nat.le_of_ble_eq_true rfl) dX9_typeOfLet_33 (by omega) rfl (zX4_setNameType (d := d - 1) (by omega) b4 (M.1 4 3) v3 r7 M8 hb4 (mv_bindE h)) (fun _ M9 h => ?_)
  refine mv_aload_n 1 dX9_typeOfLet_36 rfl ?_
  refine mv_getI fX9_41 (by decide) rfl rfl dX9_typeOfLet_37 ?_
  refine mv_topi (fun v10 ev10 => ?_)
  replace h := mv_letE h v10 ev10
  refine mv_istore [(4, .int v10), (3, .int v3), (0, .ref 4), (1, .int a0), (2, .int a1)] dX9_typeOfLet_40 (by decide) rfl ?_
  refine mv_aload_n 2 dX9_typeOfLet_42 rfl ?_
  refine mv_iload_n 1 dX9_typeOfLet_43 rfl ?_
  refine mv_cvV (As := [.int v3]) (st := []) okX9_open lX9_47 (by decide) rfl rfl rfl (Nat.le_of_ble_eq_true rfl) rfl (Nat.le_of_ble_eq_true rfl) dX9_typeOfLet_44 (by omega) rfl (zX9_open (d := d - 1) (by omega) v3 M9 (mv_bindE h)) (fun _ M11 h => ?_)
  refine mv_aload_n 2 dX9_typeOfLet_47 rfl ?_
  refine mv_aload_n 2 dX9_typeOfLet_48 rfl ?_
  obtain ⟨b12, eb12, hb12, h⟩ := mv_getpE h
  refine mv_getP b12 fX9_23 (by decide) rfl rfl eb12 dX9_typeOfLet_49 ?_
  refine mv_getR (b12 + 10) fX9_109 (mv_pN (t := 0) hb12 (by decide)) (by rcases hb12 with rfl | rfl <;> rfl) rfl (by rcases hb12 with rfl | rfl <;> rfl) dX9_typeOfLet_52 ?_
  refine mv_iload_n 3 dX9_typeOfLet_55 rfl ?_
  obtain ⟨hi13, h⟩ := mv_chkE h
  refine mv_ild (mv_pN (t := 10) hb12 (by decide)) (by rcases hb12 with rfl | rfl <;> rfl) (mv_inE hi13) dX9_typeOfLet_56 ?_
  refine mv_iload_n 4 dX9_typeOfLet_57 rfl ?_
  refine mv_cvI (As := [.int (M11.1 (b12 + 10) a0.toNatClampNeg), .int a1]) (st := []) okX9_typeOf lX9_57 (by decide) rfl rfl rfl (Nat.le_of_ble_eq_true rfl) rfl (Nat.le_of_ble_eq_true rfl) dX9_typeOfLet_58 (by omega) rfl (hr_X9_typeOf (M11.1 (b12 + 10) a0.toNatClampNeg) a1 M11 _ (mv_bindE h)) (fun r14 M15 h => ?_)
  refine mv_istore [(5, .int r14), (4, .int v10), (3, .int v3), (0, .ref 4), (1, .int a0), (2, .int a1)] dX9_typeOfLet_61 (by decide) rfl ?_
  refine mv_aload_n 3 dX9_typeOfLet_63 rfl ?_
  refine mv_iload 1 dX9_typeOfLet_64 rfl ?_
  refine mv_putI fX9_41 (by decide) rfl rfl dX9_typeOfLet_66 (fun M16 eM16 => ?_)
  replace h := mv_letE h M16 eM16
  refine mv_iload 0 dX9_typeOfLet_69 rfl ?_
  exact mv_iret rfl dX9_typeOfLet_71 ⟨_, rfl, h⟩
theorem dX9_typeOfCase_0 : decode cX9_typeOfCase 0 = .ok (.aload_n 0, 1) := by decide +kernel
theorem dX9_typeOfCase_1 : decode cX9_typeOfCase 1 = .ok (.getfield 23, 3) := by decide +kernel
theorem dX9_typeOfCase_4 : decode cX9_typeOfCase 4 = .ok (.getfield 127, 3) := by decide +kernel
theorem dX9_typeOfCase_7 : decode cX9_typeOfCase 7 = .ok (.iload_n 1, 1) := by decide +kernel
theorem dX9_typeOfCase_8 : decode cX9_typeOfCase 8 = .ok (.iaload, 1) := by decide +kernel
theorem dX9_typeOfCase_9 : decode cX9_typeOfCase 9 = .ok (.istore_n 3, 1) := by decide +kernel
theorem dX9_typeOfCase_10 : decode cX9_typeOfCase 10 = .ok (.aload_n 0, 1) := by decide +kernel
theorem dX9_typeOfCase_11 : decode cX9_typeOfCase 11 = .ok (.aload_n 0, 1) := by decide +kernel
theorem dX9_typeOfCase_12 : decode cX9_typeOfCase 12 = .ok (.getfield 23, 3) := by decide +kernel
theorem dX9_typeOfCase_15 : decode cX9_typeOfCase 15 = .ok (.getfield 106, 3) := by decide +kernel
theorem dX9_typeOfCase_18 : decode cX9_typeOfCase 18 = .ok (.iload_n 1, 1) := by decide +kernel
theorem dX9_typeOfCase_19 : decode cX9_typeOfCase 19 = .ok (.iaload, 1) := by decide +kernel
theorem dX9_typeOfCase_20 : decode cX9_typeOfCase 20 = .ok (.bipush (-2), 2) := by decide +kernel
theorem dX9_typeOfCase_22 : decode cX9_typeOfCase 22 = .ok (.invokevirtual 57, 3) := by decide +kernel
theorem dX9_typeOfCase_25 : decode cX9_typeOfCase 25 = .ok (.istore 4, 2) := by decide +kernel
theorem dX9_typeOfCase_27 : decode cX9_typeOfCase 27 = .ok (.aload_n 0, 1) := by decide +kernel
theorem dX9_typeOfCase_28 : decode cX9_typeOfCase 28 = .ok (.getfield 23, 3) := by decide +kernel
theorem dX9_typeOfCase_31 : decode cX9_typeOfCase 31 = .ok (.aload_n 0, 1) := by decide +kernel
theorem dX9_typeOfCase_32 : decode cX9_typeOfCase 32 = .ok (.getfield 38, 3) := by decide +kernel
theorem dX9_typeOfCase_35 : decode cX9_typeOfCase 35 = .ok (.iload_n 3, 1) := by decide +kernel
theorem dX9_typeOfCase_36 : decode cX9_typeOfCase 36 = .ok (.iload 4, 2) := by decide +kernel
theorem dX9_typeOfCase_38 : decode cX9_typeOfCase 38 = .ok (.invokestatic 133, 3) := by decide +kernel
theorem dX9_typeOfCase_41 : decode cX9_typeOfCase 41 = .ok (.invokevirtual 144, 3) := by decide +kernel
theorem dX9_typeOfCase_44 : decode cX9_typeOfCase 44 = .ok (.aload_n 0, 1) := by decide +kernel
theorem dX9_typeOfCase_45 : decode cX9_typeOfCase 45 = .ok (.getfield 23, 3) := by decide +kernel
theorem dX9_typeOfCase_48 : decode cX9_typeOfCase 48 = .ok (.aload_n 0, 1) := by decide +kernel
theorem dX9_typeOfCase_49 : decode cX9_typeOfCase 49 = .ok (.getfield 38, 3) := by decide +kernel
theorem dX9_typeOfCase_52 : decode cX9_typeOfCase 52 = .ok (.iload_n 3, 1) := by decide +kernel
theorem dX9_typeOfCase_53 : decode cX9_typeOfCase 53 = .ok (.iconst 1, 1) := by decide +kernel
theorem dX9_typeOfCase_54 : decode cX9_typeOfCase 54 = .ok (.iadd, 1) := by decide +kernel
theorem dX9_typeOfCase_55 : decode cX9_typeOfCase 55 = .ok (.iload 4, 2) := by decide +kernel
theorem dX9_typeOfCase_57 : decode cX9_typeOfCase 57 = .ok (.invokestatic 138, 3) := by decide +kernel
theorem dX9_typeOfCase_60 : decode cX9_typeOfCase 60 = .ok (.invokevirtual 144, 3) := by decide +kernel
theorem dX9_typeOfCase_63 : decode cX9_typeOfCase 63 = .ok (.aload_n 0, 1) := by decide +kernel
theorem dX9_typeOfCase_64 : decode cX9_typeOfCase 64 = .ok (.getfield 41, 3) := by decide +kernel
theorem dX9_typeOfCase_67 : decode cX9_typeOfCase 67 = .ok (.istore 5, 2) := by decide +kernel
theorem dX9_typeOfCase_69 : decode cX9_typeOfCase 69 = .ok (.aload_n 0, 1) := by decide +kernel
theorem dX9_typeOfCase_70 : decode cX9_typeOfCase 70 = .ok (.iload_n 3, 1) := by decide +kernel
theorem dX9_typeOfCase_71 : decode cX9_typeOfCase 71 = .ok (.invokevirtual 47, 3) := by decide +kernel
theorem dX9_typeOfCase_74 : decode cX9_typeOfCase 74 = .ok (.aload_n 0, 1) := by decide +kernel
theorem dX9_typeOfCase_75 : decode cX9_typeOfCase 75 = .ok (.iload_n 3, 1) := by decide +kernel
theorem dX9_typeOfCase_76 : decode cX9_typeOfCase 76 = .ok (.iconst 1, 1) := by decide +kernel
theorem dX9_typeOfCase_77 : decode cX9_typeOfCase 77 = .ok (.iadd, 1) := by decide +kernel
theorem dX9_typeOfCase_78 : decode cX9_typeOfCase 78 = .ok (.invokevirtual 47, 3) := by decide +kernel
theorem dX9_typeOfCase_81 : decode cX9_typeOfCase 81 = .ok (.aload_n 0, 1) := by decide +kernel
theorem dX9_typeOfCase_82 : decode cX9_typeOfCase 82 = .ok (.aload_n 0, 1) := by decide +kernel
theorem dX9_typeOfCase_83 : decode cX9_typeOfCase 83 = .ok (.getfield 23, 3) := by decide +kernel
theorem dX9_typeOfCase_86 : decode cX9_typeOfCase 86 = .ok (.getfield 109, 3) := by decide +kernel
theorem dX9_typeOfCase_89 : decode cX9_typeOfCase 89 = .ok (.iload_n 1, 1) := by decide +kernel
theorem dX9_typeOfCase_90 : decode cX9_typeOfCase 90 = .ok (.iaload, 1) := by decide +kernel
theorem dX9_typeOfCase_91 : decode cX9_typeOfCase 91 = .ok (.iload_n 2, 1) := by decide +kernel
theorem dX9_typeOfCase_92 : decode cX9_typeOfCase 92 = .ok (.invokevirtual 57, 3) := by decide +kernel
theorem dX9_typeOfCase_95 : decode cX9_typeOfCase 95 = .ok (.istore 6, 2) := by decide +kernel
theorem dX9_typeOfCase_97 : decode cX9_typeOfCase 97 = .ok (.aload_n 0, 1) := by decide +kernel
theorem dX9_typeOfCase_98 : decode cX9_typeOfCase 98 = .ok (.iload 5, 2) := by decide +kernel
theorem dX9_typeOfCase_100 : decode cX9_typeOfCase 100 = .ok (.putfield 41, 3) := by decide +kernel
theorem dX9_typeOfCase_103 : decode cX9_typeOfCase 103 = .ok (.iload 6, 2) := by decide +kernel
theorem dX9_typeOfCase_105 : decode cX9_typeOfCase 105 = .ok (.ireturn, 1) := by decide +kernel
noncomputable def fX9_typeOfCase (r_X9_typeOf : Int32 → Int32 → mv_M → Option (Int32 × mv_M)) (a0 : Int32) (a1 : Int32) (M : mv_M) : Option (Int32 × mv_M) :=
  mv_getp (M.2.2 4 2) fun b1 =>
  mv_chk (mv_inb a0 1000) <|
  mv_let (M.1 (b1 + 11) a0.toNatClampNeg) fun v3 =>
  mv_getp (M.2.2 4 2) fun b4 =>
  mv_chk (mv_inb a0 1000) <|
  mv_bind (r_X9_typeOf (M.1 (b4 + 9) a0.toNatClampNeg) (-2) M) fun r6 M7 =>
  mv_getp (M7.2.2 4 2) fun b8 =>
  mv_bind (fX6_firstOf r6 M7) fun r9 M10 =>
  mv_bind (fX4_setNameType b8 (M7.1 4 3) v3 r9 M10) fun _ M11 =>
  mv_getp (M11.2.2 4 2) fun b12 =>
  mv_bind (fX6_secondOf r6 M11) fun r13 M14 =>
  mv_bind (fX4_setNameType b12 (M11.1 4 3) (v3 + 1) r13 M14) fun _ M15 =>
  mv_let (M15.1 4 5) fun v16 =>
  mv_bind (fX9_open v3 M15) fun _ M17 =>
  mv_bind (fX9_open (v3 + 1) M17) fun _ M18 =>
  mv_getp (M18.2.2 4 2) fun b19 =>
  mv_chk (mv_inb a0 1000) <|
  mv_bind (r_X9_typeOf (M18.1 (b19 + 10) a0.toNatClampNeg) a1 M18) fun r21 M22 =>
  mv_let (mv_si M22 4 5 v16) fun M23 =>
  some (r21, M23)
set_option maxRecDepth 100000 in
set_option maxHeartbeats 4000000 in
theorem zX9_typeOfCase {l : Launch} {d : Nat} {Q : Int32 → mv_M → Prop} {r_X9_typeOf : Int32 → Int32 → mv_M → Option (Int32 × mv_M)} (hd : 3 ≤ d) (hr_X9_typeOf : ∀ (a0 : Int32) (a1 : Int32) (M : mv_M) (Q : Int32 → mv_M → Prop), mv_ok (r_X9_typeOf a0 a1 M) Q → mv l mX9_typeOf (d - 1) 0 0 (lv_args 0 [.ref 4, .int a0, .int a1]) [] M (mv_qI Q)) (a0 : Int32) (a1 : Int32) (M : mv_M) (h : mv_ok (fX9_typeOfCase r_X9_typeOf a0 a1 M) Q) : mv l mX9_typeOfCase d 0 0 (lv_args 0 [.ref 4, .int a0, .int a1]) [] M (mv_qI Q) := by
  unfold fX9_typeOfCase at h
  show mv l mX9_typeOfCase d 0 0 [(0, .ref 4), (1, .int a0), (2, .int a1)] [] M (mv_qI Q)
  refine mv_aload_n 0 dX9_typeOfCase_0 rfl ?_
  obtain ⟨b1, eb1, hb1, h⟩ := mv_getpE h
  refine mv_getP b1 fX9_23 (by decide) rfl rfl eb1 dX9_typeOfCase_1 ?_
  refine mv_getR (b1 + 11) fX9_127 (mv_pN (t := 0) hb1 (by decide)) (by rcases hb1 with rfl | rfl <;> rfl) rfl (by rcases hb1 with rfl | rfl <;> rfl) dX9_typeOfCase_4 ?_
  refine mv_iload_n 1 dX9_typeOfCase_7 rfl ?_
  obtain ⟨hi2, h⟩ := mv_chkE h
  refine mv_ild (mv_pN (t := 11) hb1 (by decide)) (by rcases hb1 with rfl | rfl <;> rfl) (mv_inE hi2) dX9_typeOfCase_8 ?_
  refine mv_topi (fun v3 ev3 => ?_)
  replace h := mv_letE h v3 ev3
  refine mv_istore_n [(3, .int v3), (0, .ref 4), (1, .int a0), (2, .int a1)] dX9_typeOfCase_9 (by decide) rfl ?_
  refine mv_aload_n 1 dX9_typeOfCase_10 rfl ?_
  refine mv_aload_n 1 dX9_typeOfCase_11 rfl ?_
  obtain ⟨b4, eb4, hb4, h⟩ := mv_getpE h
  refine mv_getP b4 fX9_23 (by decide) rfl rfl eb4 dX9_typeOfCase_12 ?_
  refine mv_getR (b4 + 9) fX9_106 (mv_pN (t := 0) hb4 (by decide)) (by rcases hb4 with rfl | rfl <;> rfl) rfl (by rcases hb4 with rfl | rfl <;> rfl) dX9_typeOfCase_15 ?_
  refine mv_iload_n 2 dX9_typeOfCase_18 rfl ?_
  obtain ⟨hi5, h⟩ := mv_chkE h
  refine mv_ild (mv_pN (t := 9) hb4 (by decide)) (by rcases hb4 with rfl | rfl <;> rfl) (mv_inE hi5) dX9_typeOfCase_19 ?_
  refine mv_bipush (-2) dX9_typeOfCase_20 (by decide) ?_
  refine mv_cvI (As := [.int (M.1 (b4 + 9) a0.toNatClampNeg), .int (-2)]) (st := []) okX9_typeOf lX9_57 (by decide) rfl rfl rfl (Nat.le_of_ble_eq_true rfl) rfl (Nat.le_of_ble_eq_true rfl) dX9_typeOfCase_22 (by omega) rfl (hr_X9_typeOf (M.1 (b4 + 9) a0.toNatClampNeg) (-2) M _ (mv_bindE h)) (fun r6 M7 h => ?_)
  refine mv_istore [(4, .int r6), (3, .int v3), (0, .ref 4), (1, .int a0), (2, .int a1)] dX9_typeOfCase_25 (by decide) rfl ?_
  refine mv_aload_n 2 dX9_typeOfCase_27 rfl ?_
  obtain ⟨b8, eb8, hb8, h⟩ := mv_getpE h
  refine mv_getP b8 fX9_23 (by decide) rfl rfl eb8 dX9_typeOfCase_28 ?_
  refine mv_aload_n 2 dX9_typeOfCase_31 rfl ?_
  refine mv_getI fX9_38 (by decide) rfl rfl dX9_typeOfCase_32 ?_
  refine mv_iload_n 1 dX9_typeOfCase_35 rfl ?_
  refine mv_iload 0 dX9_typeOfCase_36 rfl ?_
  refine mv_csI (As := [.int r6]) (st := [.int v3, .int (M7.1 4 3), .ref b8]) okX6_firstOf lX9_133 rfl (Nat.le_of_ble_eq_true rfl) rfl (Nat.le_of_ble_eq_true rfl) dX9_typeOfCase_38 (by omega) rfl (zX6_firstOf (d := d - 1) (by omega) r6 M7 (mv_bindE h)) (fun r9 M10 h => ?_)
  refine mv_cvV (As := [.int (M7.1 4 3), .int v3, .int r9]) (st := []) okX4_setNameType lX9_144 (mv_pN (t := 0) hb8 (by decide)) (by rcases hb8 with rfl | rfl <;> rfl) rfl rfl (Nat.le_of_ble_eq_true rfl) rfl (Nat.le_of_ble_eq_true rfl) dX9_typeOfCase_41 (by omega) rfl (zX4_setNameType (d := d - 1) (by omega) b8 (M7.1 4 3) v3 r9 M10 hb8 (mv_bindE h)) (fun _ M11 h => ?_)
  refine mv_aload_n 2 dX9_typeOfCase_44 rfl ?_
  obtain ⟨b12, eb12, hb12, h⟩ := mv_getpE h
  refine mv_getP b12 fX9_23 (by decide) rfl rfl eb12 dX9_typeOfCase_45 ?_
  refine mv_aload_n 2 dX9_typeOfCase_48 rfl ?_
  refine mv_getI fX9_38 (by decide) rfl rfl dX9_typeOfCase_49 ?_
  refine mv_iload_n 1 dX9_typeOfCase_52 rfl ?_
  refine mv_iconst 1 dX9_typeOfCase_53 (by decide) ?_
  refine mv_iadd dX9_typeOfCase_54 ?_
  refine mv_iload 0 dX9_typeOfCase_55 rfl ?_
  refine mv_csI (As := [.int r6]) (st := [.int (v3 + 1), .int (M11.1 4 3), .ref b12]) okX6_secondOf lX9_138 rfl (Nat.le_of_ble_eq_true rfl) rfl (Nat.le_of_ble_eq_true rfl) dX9_typeOfCase_57 (by omega) rfl (zX6_secondOf (d := d - 1) (by omega) r6 M11 (mv_bindE h)) (fun r13 M14 h => ?_)
  refine mv_cvV (As := [.int (M11.1 4 3), .int (v3 + 1), .int r13]) (st := []) okX4_setNameType lX9_144 (mv_pN (t := 0) hb12 (by decide)) (by rcases hb12 with rfl | rfl <;> rfl) rfl rfl (Nat.le_of_ble_eq_true rfl) rfl (Nat.le_of_ble_eq_true rfl) dX9_typeOfCase_60 (by omega) rfl (zX4_setNameType (d := d - 1) (by omega) b12 (M11.1 4 3) (v3 + 1) r13 M14 hb12 (mv_bindE h)) (fun _ M15 h => ?_)
  refine mv_aload_n 2 dX9_typeOfCase_63 rfl ?_
  refine mv_getI fX9_41 (by decide) rfl rfl dX9_typeOfCase_64 ?_
  refine mv_topi (fun v16 ev16 => ?_)
  replace h := mv_letE h v16 ev16
  refine mv_istore [(5, .int v16), (4, .int r6), (3, .int v3), (0, .ref 4), (1, .int a0), (2, .int a1)] dX9_typeOfCase_67 (by decide) rfl ?_
  refine mv_aload_n 3 dX9_typeOfCase_69 rfl ?_
  refine mv_iload_n 2 dX9_typeOfCase_70 rfl ?_
  refine mv_cvV (As := [.int v3]) (st := []) okX9_open lX9_47 (by decide) rfl rfl rfl (Nat.le_of_ble_eq_true rfl) rfl (Nat.le_of_ble_eq_true rfl) dX9_typeOfCase_71 (by omega) rfl (zX9_open (d := d - 1) (by omega) v3 M15 (mv_bindE h)) (fun _ M17 h => ?_)
  refine mv_aload_n 3 dX9_typeOfCase_74 rfl ?_
  refine mv_iload_n 2 dX9_typeOfCase_75 rfl ?_
  refine mv_iconst 1 dX9_typeOfCase_76 (by decide) ?_
  refine mv_iadd dX9_typeOfCase_77 ?_
  refine mv_cvV (As := [.int (v3 + 1)]) (st := []) okX9_open lX9_47 (by decide) rfl rfl rfl (Nat.le_of_ble_eq_true rfl) rfl (Nat.le_of_ble_eq_true rfl) dX9_typeOfCase_78 (by omega) rfl (zX9_open (d := d - 1) (by omega) (v3 + 1) M17 (mv_bindE h)) (fun _ M18 h => ?_)
  refine mv_aload_n 3 dX9_typeOfCase_81 rfl ?_
  refine mv_aload_n 3 dX9_typeOfCase_82 rfl ?_
  obtain ⟨b19, eb19, hb19, h⟩ := mv_getpE h
  refine mv_getP b19 fX9_23 (by decide) rfl rfl eb19 dX9_typeOfCase_83 ?_
  refine mv_getR (b19 + 10) fX9_109 (mv_pN (t := 0) hb19 (by decide)) (by rcases hb19 with rfl | rfl <;> rfl) rfl (by rcases hb19 with rfl | rfl <;> rfl) dX9_typeOfCase_86 ?_
  refine mv_iload_n 4 dX9_typeOfCase_89 rfl ?_
  obtain ⟨hi20, h⟩ := mv_chkE h
  refine mv_ild (mv_pN (t := 10) hb19 (by decide)) (by rcases hb19 with rfl | rfl <;> rfl) (mv_inE hi20) dX9_typeOfCase_90 ?_
  refine mv_iload_n 5 dX9_typeOfCase_91 rfl ?_
  refine mv_cvI (As := [.int (M18.1 (b19 + 10) a0.toNatClampNeg), .int a1]) (st := []) okX9_typeOf lX9_57 (by decide) rfl rfl rfl (Nat.le_of_ble_eq_true rfl) rfl (Nat.le_of_ble_eq_true rfl) dX9_typeOfCase_92 (by omega) rfl (hr_X9_typeOf (M18.1 (b19 + 10) a0.toNatClampNeg) a1 M18 _ (mv_bindE h)) (fun r21 M22 h => ?_)
  refine mv_istore [(6, .int r21), (5, .int v16), (4, .int r6), (3, .int v3), (0, .ref 4), (1, .int a0), (2, .int a1)] dX9_typeOfCase_95 (by decide) rfl ?_
  refine mv_aload_n 4 dX9_typeOfCase_97 rfl ?_
  refine mv_iload 1 dX9_typeOfCase_98 rfl ?_
  refine mv_putI fX9_41 (by decide) rfl rfl dX9_typeOfCase_100 (fun M23 eM23 => ?_)
  replace h := mv_letE h M23 eM23
  refine mv_iload 0 dX9_typeOfCase_103 rfl ?_
  exact mv_iret rfl dX9_typeOfCase_105 ⟨_, rfl, h⟩
noncomputable def RX9_typeOf : Nat → Nat → Int32 → Int32 → mv_M → Option (Int32 × mv_M)
  | 0, _, _, _, _ => none
  | n + 1, s, a0, a1, M =>
    if s = 0 then fX9_typeOf (fun a0 a1 M => RX9_typeOf n 1 a0 a1 M) a0 a1 M else
    if s = 1 then fX9_ownType (fun a0 a1 M => RX9_typeOf n 0 a0 a1 M) (fun a0 M => RX9_typeOf n 2 a0 0 M) (fun a0 a1 M => RX9_typeOf n 6 a0 a1 M) (fun a0 a1 M => RX9_typeOf n 4 a0 a1 M) (fun a0 a1 M => RX9_typeOf n 5 a0 a1 M) (fun a0 a1 M => RX9_typeOf n 3 a0 a1 M) a0 a1 M else
    if s = 2 then fX9_typeOfCall (fun a0 a1 M => RX9_typeOf n 0 a0 a1 M) a0 M else
    if s = 3 then fX9_typeOfPair (fun a0 a1 M => RX9_typeOf n 0 a0 a1 M) a0 a1 M else
    if s = 4 then fX9_typeOfIf (fun a0 a1 M => RX9_typeOf n 0 a0 a1 M) a0 a1 M else
    if s = 5 then fX9_typeOfLet (fun a0 a1 M => RX9_typeOf n 0 a0 a1 M) a0 a1 M else
    fX9_typeOfCase (fun a0 a1 M => RX9_typeOf n 0 a0 a1 M) a0 a1 M
set_option maxRecDepth 100000 in
theorem zRX9_typeOf {l : Launch} : ∀ (n d : Nat), n + 5 ≤ d → (∀ (a0 : Int32) (a1 : Int32) (M : mv_M) (Q : Int32 → mv_M → Prop), mv_ok (RX9_typeOf n 0 a0 a1 M) Q → mv l mX9_typeOf d 0 0 (lv_args 0 [.ref 4, .int a0, .int a1]) [] M (mv_qI Q)) ∧ (∀ (a0 : Int32) (a1 : Int32) (M : mv_M) (Q : Int32 → mv_M → Prop), mv_ok (RX9_typeOf n 1 a0 a1 M) Q → mv l mX9_ownType d 0 0 (lv_args 0 [.ref 4, .int a0, .int a1]) [] M (mv_qI Q)) ∧ (∀ (a0 : Int32) (M : mv_M) (Q : Int32 → mv_M → Prop), mv_ok (RX9_typeOf n 2 a0 0 M) Q → mv l mX9_typeOfCall d 0 0 (lv_args 0 [.ref 4, .int a0]) [] M (mv_qI Q)) ∧ (∀ (a0 : Int32) (a1 : Int32) (M : mv_M) (Q : Int32 → mv_M → Prop), mv_ok (RX9_typeOf n 3 a0 a1 M) Q → mv l mX9_typeOfPair d 0 0 (lv_args 0 [.ref 4, .int a0, .int a1]) [] M (mv_qI Q)) ∧ (∀ (a0 : Int32) (a1 : Int32) (M : mv_M) (Q : Int32 → mv_M → Prop), mv_ok (RX9_typeOf n 4 a0 a1 M) Q → mv l mX9_typeOfIf d 0 0 (lv_args 0 [.ref 4, .int a0, .int a1]) [] M (mv_qI Q)) ∧ (∀ (a0 : Int32) (a1 : Int32) (M : mv_M) (Q : Int32 → mv_M → Prop), mv_ok (RX9_typeOf n 5 a0 a1 M) Q → mv l mX9_typeOfLet d 0 0 (lv_args 0 [.ref 4, .int a0, .int a1]) [] M (mv_qI Q)) ∧ (∀ (a0 : Int32) (a1 : Int32) (M : mv_M) (Q : Int32 → mv_M → Prop), mv_ok (RX9_typeOf n 6 a0 a1 M) Q → mv l mX9_typeOfCase d 0 0 (lv_args 0 [.ref 4, .int a0, .int a1]) [] M (mv_qI Q)) := by
  intro n
  induction n with
  | zero =>
    intro d hd
    exact ⟨(fun _ _ _ _ h => by rw [RX9_typeOf] at h; exact False.elim h), (fun _ _ _ _ h => by rw [RX9_typeOf] at h; exact False.elim h), (fun _ _ _ h => by rw [RX9_typeOf] at h; exact False.elim h), (fun _ _ _ _ h => by rw [RX9_typeOf] at h; exact False.elim h), (fun _ _ _ _ h => by rw [RX9_typeOf] at h; exact False.elim h), (fun _ _ _ _ h => by rw [RX9_typeOf] at h; exact False.elim h), (fun _ _ _ _ h => by rw [RX9_typeOf] at h; exact False.elim h)⟩
  | succ n ih =>
    intro d hd
    have hi := ih (d - 1) (by omega)
    refine ⟨?_, ?_, ?_, ?_, ?_, ?_, ?_⟩
    · intro a0 a1 M Q h
      rw [RX9_typeOf] at h
      replace h := mv_ifT rfl h
      exact zX9_typeOf (by omega) hi.2.1 a0 a1 M h
    · intro a0 a1 M Q h
      rw [RX9_typeOf] at h
      replace h := mv_ifF (by decide) h
      replace h := mv_ifT rfl h
      exact zX9_ownType (by omega) hi.1 hi.2.2.1 hi.2.2.2.2.2.2 hi.2.2.2.2.1 hi.2.2.2.2.2.1 hi.2.2.2.1 a0 a1 M h
    · intro a0 M Q h
      rw [RX9_typeOf] at h
      replace h := mv_ifF (by decide) h
      replace h := mv_ifF (by decide) h
      replace h := mv_ifT rfl h
      exact zX9_typeOfCall (by omega) hi.1 a0 M h
    · intro a0 a1 M Q h
      rw [RX9_typeOf] at h
      replace h := mv_ifF (by decide) h
      replace h := mv_ifF (by decide) h
      replace h := mv_ifF (by decide) h
      replace h := mv_ifT rfl h
      exact zX9_typeOfPair (by omega) hi.1 a0 a1 M h
    · intro a0 a1 M Q h
      rw [RX9_typeOf] at h
      replace h := mv_ifF (by decide) h
      replace h := mv_ifF (by decide) h
      replace h := mv_ifF (by decide) h
      replace h := mv_ifF (by decide) h
      replace h := mv_ifT rfl h
      exact zX9_typeOfIf (by omega) hi.1 a0 a1 M h
    · intro a0 a1 M Q h
      rw [RX9_typeOf] at h
      replace h := mv_ifF (by decide) h
      replace h := mv_ifF (by decide) h
      replace h := mv_ifF (by decide) h
      replace h := mv_ifF (by decide) h
      replace h := mv_ifF (by decide) h
      replace h := mv_ifT rfl h
      exact zX9_typeOfLet (by omega) hi.1 a0 a1 M h
    · intro a0 a1 M Q h
      rw [RX9_typeOf] at h
      replace h := mv_ifF (by decide) h
      replace h := mv_ifF (by decide) h
      replace h := mv_ifF (by decide) h
      replace h := mv_ifF (by decide) h
      replace h := mv_ifF (by decide) h
      replace h := mv_ifF (by decide) h
      exact zX9_typeOfCase (by omega) hi.1 a0 a1 M h

noncomputable def tX9_typeOf (a0 : Int32) (a1 : Int32) (M : mv_M) : Option (Int32 × mv_M) := RX9_typeOf 320 0 a0 a1 M
theorem ztX9_typeOf {l : Launch} {d : Nat} {Q : Int32 → mv_M → Prop} (hd : 325 ≤ d) (a0 : Int32) (a1 : Int32) (M : mv_M) (h : mv_ok (tX9_typeOf a0 a1 M) Q) : mv l mX9_typeOf d 0 0 (lv_args 0 [.ref 4, .int a0, .int a1]) [] M (mv_qI Q) := (zRX9_typeOf 320 d hd).1 a0 a1 M Q h
noncomputable def tX9_ownType (a0 : Int32) (a1 : Int32) (M : mv_M) : Option (Int32 × mv_M) := RX9_typeOf 320 1 a0 a1 M
theorem ztX9_ownType {l : Launch} {d : Nat} {Q : Int32 → mv_M → Prop} (hd : 325 ≤ d) (a0 : Int32) (a1 : Int32) (M : mv_M) (h : mv_ok (tX9_ownType a0 a1 M) Q) : mv l mX9_ownType d 0 0 (lv_args 0 [.ref 4, .int a0, .int a1]) [] M (mv_qI Q) := (zRX9_typeOf 320 d hd).2.1 a0 a1 M Q h
noncomputable def tX9_typeOfCall (a0 : Int32) (M : mv_M) : Option (Int32 × mv_M) := RX9_typeOf 320 2 a0 0 M
theorem ztX9_typeOfCall {l : Launch} {d : Nat} {Q : Int32 → mv_M → Prop} (hd : 325 ≤ d) (a0 : Int32) (M : mv_M) (h : mv_ok (tX9_typeOfCall a0 M) Q) : mv l mX9_typeOfCall d 0 0 (lv_args 0 [.ref 4, .int a0]) [] M (mv_qI Q) := (zRX9_typeOf 320 d hd).2.2.1 a0 M Q h
noncomputable def tX9_typeOfPair (a0 : Int32) (a1 : Int32) (M : mv_M) : Option (Int32 × mv_M) := RX9_typeOf 320 3 a0 a1 M
theorem ztX9_typeOfPair {l : Launch} {d : Nat} {Q : Int32 → mv_M → Prop} (hd : 325 ≤ d) (a0 : Int32) (a1 : Int32) (M : mv_M) (h : mv_ok (tX9_typeOfPair a0 a1 M) Q) : mv l mX9_typeOfPair d 0 0 (lv_args 0 [.ref 4, .int a0, .int a1]) [] M (mv_qI Q) := (zRX9_typeOf 320 d hd).2.2.2.1 a0 a1 M Q h
noncomputable def tX9_typeOfIf (a0 : Int32) (a1 : Int32) (M : mv_M) : Option (Int32 × mv_M) := RX9_typeOf 320 4 a0 a1 M
theorem ztX9_typeOfIf {l : Launch} {d : Nat} {Q : Int32 → mv_M → Prop} (hd : 325 ≤ d) (a0 : Int32) (a1 : Int32) (M : mv_M) (h : mv_ok (tX9_typeOfIf a0 a1 M) Q) : mv l mX9_typeOfIf d 0 0 (lv_args 0 [.ref 4, .int a0, .int a1]) [] M (mv_qI Q) := (zRX9_typeOf 320 d hd).2.2.2.2.1 a0 a1 M Q h
noncomputable def tX9_typeOfLet (a0 : Int32) (a1 : Int32) (M : mv_M) : Option (Int32 × mv_M) := RX9_typeOf 320 5 a0 a1 M
theorem ztX9_typeOfLet {l : Launch} {d : Nat} {Q : Int32 → mv_M → Prop} (hd : 325 ≤ d) (a0 : Int32) (a1 : Int32) (M : mv_M) (h : mv_ok (tX9_typeOfLet a0 a1 M) Q) : mv l mX9_typeOfLet d 0 0 (lv_args 0 [.ref 4, .int a0, .int a1]) [] M (mv_qI Q) := (zRX9_typeOf 320 d hd).2.2.2.2.2.1 a0 a1 M Q h
noncomputable def tX9_typeOfCase (a0 : Int32) (a1 : Int32) (M : mv_M) : Option (Int32 × mv_M) := RX9_typeOf 320 6 a0 a1 M
theorem ztX9_typeOfCase {l : Launch} {d : Nat} {Q : Int32 → mv_M → Prop} (hd : 325 ≤ d) (a0 : Int32) (a1 : Int32) (M : mv_M) (h : mv_ok (tX9_typeOfCase a0 a1 M) Q) : mv l mX9_typeOfCase d 0 0 (lv_args 0 [.ref 4, .int a0, .int a1]) [] M (mv_qI Q) := (zRX9_typeOf 320 d hd).2.2.2.2.2.2 a0 a1 M Q h
theorem dX9_judge_0 : decode cX9_judge 0 = .ok (.aload_n 0, 1) := by decide +kernel
theorem dX9_judge_1 : decode cX9_judge 1 = .ok (.aload_n 1, 1) := by decide +kernel
theorem dX9_judge_2 : decode cX9_judge 2 = .ok (.putfield 23, 3) := by decide +kernel
theorem dX9_judge_5 : decode cX9_judge 5 = .ok (.iconst 0, 1) := by decide +kernel
theorem dX9_judge_6 : decode cX9_judge 6 = .ok (.istore_n 2, 1) := by decide +kernel
theorem dX9_judge_7 : decode cX9_judge 7 = .ok (.iload_n 2, 1) := by decide +kernel
theorem dX9_judge_8 : decode cX9_judge 8 = .ok (.aload_n 0, 1) := by decide +kernel
theorem dX9_judge_9 : decode cX9_judge 9 = .ok (.getfield 23, 3) := by decide +kernel
theorem dX9_judge_12 : decode cX9_judge 12 = .ok (.getfield 27, 3) := by decide +kernel
theorem dX9_judge_15 : decode cX9_judge 15 = .ok (.if_icmp .ge 87, 3) := by decide +kernel
theorem dX9_judge_18 : decode cX9_judge 18 = .ok (.aload_n 0, 1) := by decide +kernel
theorem dX9_judge_19 : decode cX9_judge 19 = .ok (.getfield 19, 3) := by decide +kernel
theorem dX9_judge_22 : decode cX9_judge 22 = .ok (.getfield 33, 3) := by decide +kernel
theorem dX9_judge_25 : decode cX9_judge 25 = .ok (.ifCond .ne 77, 3) := by decide +kernel
theorem dX9_judge_28 : decode cX9_judge 28 = .ok (.aload_n 0, 1) := by decide +kernel
theorem dX9_judge_29 : decode cX9_judge 29 = .ok (.iload_n 2, 1) := by decide +kernel
theorem dX9_judge_30 : decode cX9_judge 30 = .ok (.putfield 38, 3) := by decide +kernel
theorem dX9_judge_33 : decode cX9_judge 33 = .ok (.aload_n 0, 1) := by decide +kernel
theorem dX9_judge_34 : decode cX9_judge 34 = .ok (.iconst 0, 1) := by decide +kernel
theorem dX9_judge_35 : decode cX9_judge 35 = .ok (.putfield 41, 3) := by decide +kernel
theorem dX9_judge_38 : decode cX9_judge 38 = .ok (.iconst 0, 1) := by decide +kernel
theorem dX9_judge_39 : decode cX9_judge 39 = .ok (.istore_n 3, 1) := by decide +kernel
theorem dX9_judge_40 : decode cX9_judge 40 = .ok (.iload_n 3, 1) := by decide +kernel
theorem dX9_judge_41 : decode cX9_judge 41 = .ok (.aload_n 0, 1) := by decide +kernel
theorem dX9_judge_42 : decode cX9_judge 42 = .ok (.getfield 23, 3) := by decide +kernel
theorem dX9_judge_45 : decode cX9_judge 45 = .ok (.getfield 44, 3) := by decide +kernel
theorem dX9_judge_48 : decode cX9_judge 48 = .ok (.aload_n 0, 1) := by decide +kernel
theorem dX9_judge_49 : decode cX9_judge 49 = .ok (.getfield 38, 3) := by decide +kernel
theorem dX9_judge_52 : decode cX9_judge 52 = .ok (.iaload, 1) := by decide +kernel
theorem dX9_judge_53 : decode cX9_judge 53 = .ok (.if_icmp .ge 14, 3) := by decide +kernel
theorem dX9_judge_56 : decode cX9_judge 56 = .ok (.aload_n 0, 1) := by decide +kernel
theorem dX9_judge_57 : decode cX9_judge 57 = .ok (.iload_n 3, 1) := by decide +kernel
theorem dX9_judge_58 : decode cX9_judge 58 = .ok (.invokevirtual 47, 3) := by decide +kernel
theorem dX9_judge_61 : decode cX9_judge 61 = .ok (.iinc 3 1, 3) := by decide +kernel
theorem dX9_judge_64 : decode cX9_judge 64 = .ok (.goto (-24), 3) := by decide +kernel
theorem dX9_judge_67 : decode cX9_judge 67 = .ok (.aload_n 0, 1) := by decide +kernel
theorem dX9_judge_68 : decode cX9_judge 68 = .ok (.aload_n 0, 1) := by decide +kernel
theorem dX9_judge_69 : decode cX9_judge 69 = .ok (.getfield 23, 3) := by decide +kernel
theorem dX9_judge_72 : decode cX9_judge 72 = .ok (.getfield 51, 3) := by decide +kernel
theorem dX9_judge_75 : decode cX9_judge 75 = .ok (.aload_n 0, 1) := by decide +kernel
theorem dX9_judge_76 : decode cX9_judge 76 = .ok (.getfield 38, 3) := by decide +kernel
theorem dX9_judge_79 : decode cX9_judge 79 = .ok (.iaload, 1) := by decide +kernel
theorem dX9_judge_80 : decode cX9_judge 80 = .ok (.aload_n 0, 1) := by decide +kernel
theorem dX9_judge_81 : decode cX9_judge 81 = .ok (.getfield 23, 3) := by decide +kernel
theorem dX9_judge_84 : decode cX9_judge 84 = .ok (.getfield 54, 3) := by decide +kernel
theorem dX9_judge_87 : decode cX9_judge 87 = .ok (.aload_n 0, 1) := by decide +kernel
theorem dX9_judge_88 : decode cX9_judge 88 = .ok (.getfield 38, 3) := by decide +kernel
theorem dX9_judge_91 : decode cX9_judge 91 = .ok (.iaload, 1) := by decide +kernel
theorem dX9_judge_92 : decode cX9_judge 92 = .ok (.invokevirtual 57, 3) := by decide +kernel
theorem dX9_judge_95 : decode cX9_judge 95 = .ok (.pop, 1) := by decide +kernel
theorem dX9_judge_96 : decode cX9_judge 96 = .ok (.iinc 2 1, 3) := by decide +kernel
theorem dX9_judge_99 : decode cX9_judge 99 = .ok (.goto (-92), 3) := by decide +kernel
theorem dX9_judge_102 : decode cX9_judge 102 = .ok (.return_, 1) := by decide +kernel
noncomputable def gX9_judge_40 (x2 : Int32) (x3 : Int32) (M : mv_M) : Option (((Int32 × Int32) ⊕ ((Int32) ⊕ Unit)) × mv_M) :=
  mv_getp (M.2.2 4 2) fun b5 =>
  mv_chk (mv_inb (M.1 4 3) 12) <|
  if (M.1 (b5 + 2) (M.1 4 3).toNatClampNeg) ≤ x3 then
    mv_getp (M.2.2 4 2) fun b7 =>
    mv_chk (mv_inb (M.1 4 3) 12) <|
    mv_getp (M.2.2 4 2) fun b9 =>
    mv_chk (mv_inb (M.1 4 3) 12) <|
    mv_bind (tX9_typeOf (M.1 (b7 + 5) (M.1 4 3).toNatClampNeg) (M.1 (b9 + 4) (M.1 4 3).toNatClampNeg) M) fun r11 M12 =>
    mv_let (x2 + 1) fun v13 =>
    some (.inr (.inl v13), M12)
  else
    mv_bind (fX9_open x3 M) fun _ M14 =>
    mv_let (x3 + 1) fun v15 =>
    some (.inl (x2, v15), M14)
noncomputable def fX9_judge_40 (x2 : Int32) (x3 : Int32) (M : mv_M) : Option (((Int32) ⊕ Unit) × mv_M) := mv_loop (fun (s : Int32 × Int32) M => gX9_judge_40 s.1 s.2 M) (x2, x3) M
set_option maxRecDepth 100000 in
set_option maxHeartbeats 4000000 in
theorem zX9_judge_40 {l : Launch} {d : Nat} {Q : Unit → mv_M → Prop} (hd : 326 ≤ d) (x2 : Int32) (x3 : Int32) (M : mv_M) (h : mv_ok (fX9_judge_40 x2 x3 M) (mv_pq (fun (s : Int32) M => mv l mX9_judge d 0 7 [(0, .ref 4), (2, .int s)] [] M (mv_qV Q)) Q)) : mv l mX9_judge d 0 40 [(0, .ref 4), (2, .int x2), (3, .int x3)] [] M (mv_qV Q) := by
  unfold fX9_judge_40 at h
  refine mv_loopE (A := (fun (s : Int32 × Int32) M => mv l mX9_judge d 0 40 [(0, .ref 4), (2, .int s.1), (3, .int s.2)] [] M (mv_qV Q))) ?_ (x2, x3) M h
  · rintro ⟨x2, x3⟩ M h
    try dsimp only at h
    show mv l mX9_judge d 0 40 [(0, .ref 4), (2, .int x2), (3, .int x3)] [] M (mv_qV Q)
    unfold gX9_judge_40 at h
    refine mv_iload_n 2 dX9_judge_40 rfl ?_
    refine mv_aload_n 0 dX9_judge_41 rfl ?_
    obtain ⟨b5, eb5, hb5, h⟩ := mv_getpE h
    refine mv_getP b5 fX9_23 (by decide) rfl rfl eb5 dX9_judge_42 ?_
    refine mv_getR (b5 + 2) fX9_44 (mv_pN (t := 0) hb5 (by decide)) (by rcases hb5 with rfl | rfl <;> rfl) rfl (by rcases hb5 with rfl | rfl <;> rfl) dX9_judge_45 ?_
    refine mv_aload_n 0 dX9_judge_48 rfl ?_
    refine mv_getI fX9_38 (by decide) rfl rfl dX9_judge_49 ?_
    obtain ⟨hi6, h⟩ := mv_chkE h
    refine mv_ild (mv_pN (t := 2) hb5 (by decide)) (by rcases hb5 with rfl | rfl <;> rfl) (mv_inE hi6) dX9_judge_52 ?_
    refine mv_icmp_ge 67 dX9_judge_53 (by decide) (fun z => ?_) (fun z => ?_)
    · replace h := mv_ifT z h
      refine mv_aload_n 0 dX9_judge_67 rfl ?_
      refine mv_aload_n 0 dX9_judge_68 rfl ?_
      obtain ⟨b7, eb7, hb7, h⟩ := mv_getpE h
      refine mv_getP b7 fX9_23 (by decide) rfl rfl eb7 dX9_judge_69 ?_
      refine mv_getR (b7 + 5) fX9_51 (mv_pN (t := 0) hb7 (by decide)) (by rcases hb7 with rfl | rfl <;> rfl) rfl (by rcases hb7 with rfl | rfl <;> rfl) dX9_judge_72 ?_
      refine mv_aload_n 0 dX9_judge_75 rfl ?_
      refine mv_getI fX9_38 (by decide) rfl rfl dX9_judge_76 ?_
      obtain ⟨hi8, h⟩ := mv_chkE h
      refine mv_ild (mv_pN (t := 5) hb7 (by decide)) (by rcases hb7 with rfl | rfl <;> rfl) (mv_inE hi8) dX9_judge_79 ?_
      refine mv_aload_n 0 dX9_judge_80 rfl ?_
      obtain ⟨b9, eb9, hb9, h⟩ := mv_getpE h
      refine mv_getP b9 fX9_23 (by decide) rfl rfl eb9 dX9_judge_81 ?_
      refine mv_getR (b9 + 4) fX9_54 (mv_pN (t := 0) hb9 (by decide)) (by rcases hb9 with rfl | rfl <;> rfl) rfl (by rcases hb9 with rfl | rfl <;> rfl) dX9_judge_84 ?_
      refine mv_aload_n 0 dX9_judge_87 rfl ?_
      refine mv_getI fX9_38 (by decide) rfl rfl dX9_judge_88 ?_
      obtain ⟨hi10, h⟩ := mv_chkE h
      refine mv_ild (mv_pN (t := 4) hb9 (by decide)) (by rcases hb9 with rfl | rfl <;> rfl) (mv_inE hi10) dX9_judge_91 ?_
      refine mv_cvI (As := [.int (M.1 (b7 + 5) (M.1 4 3).toNatClampNeg), .int (M.1 (b9 + 4) (M.1 4 3).toNatClampNeg)]) (st := []) okX9_typeOf lX9_57 (by decide) rfl rfl rfl (Nat.le_of_ble_eq_true rfl) rfl (Nat.le_of_ble_eq_true rfl) dX9_judge_92 (by omega) rfl (ztX9_typeOf (d := d - 1) (by omega) (M.1 (b7 + 5) (M.1 4 3).toNatClampNeg) (M.1 (b9 + 4) (M.1 4 3).toNatClampNeg) M (mv_bindE h)) (fun r11 M12 h => ?_)
      refine mv_pop dX9_judge_95 rfl ?_
      obtain ⟨v13, ev13⟩ : ∃ z : Int32, z = x2 + 1 := ⟨_, rfl⟩
      replace h := mv_letE h v13 ev13
      refine mv_iinc v13 1 [(2, .int v13), (0, .ref 4), (3, .int x3)] dX9_judge_96 rfl (by rw [ev13]; rfl) (by decide) rfl ?_
      refine mv_goto 7 dX9_judge_99 (by decide) ?_
      refine mv_sub [1, 0] rfl ?_
      exact h
    · replace h := mv_ifF z h
      refine mv_aload_n 0 dX9_judge_56 rfl ?_
      refine mv_iload_n 2 dX9_judge_57 rfl ?_
      refine mv_cvV (As := [.int x3]) (st := []) okX9_open lX9_47 (by decide) rfl rfl rfl (Nat.le_of_ble_eq_true rfl) rfl (Nat.le_of_ble_eq_true rfl) dX9_judge_58 (by omega) rfl (zX9_open (d := d - 1) (by omega) x3 M (mv_bindE h)) (fun _ M14 h => ?_)
      obtain ⟨v15, ev15⟩ : ∃ z : Int32, z = x3 + 1 := ⟨_, rfl⟩
      replace h := mv_letE h v15 ev15
      refine mv_iinc v15 2 [(3, .int v15), (0, .ref 4), (2, .int x2)] dX9_judge_61 rfl (by rw [ev15]; rfl) (by decide) rfl ?_
      refine mv_goto 40 dX9_judge_64 (by decide) ?_
      refine mv_sub [1, 2, 0] rfl ?_
      exact h
noncomputable def gX9_judge_7 (x2 : Int32) (M : mv_M) : Option (((Int32) ⊕ Unit) × mv_M) :=
  mv_getp (M.2.2 4 2) fun b2 =>
  if (M.1 b2 0) ≤ x2 then
    some (.inr (()), M)
  else
    if (M.1 1 0) = 0 then
      mv_let (mv_si M 4 3 x2) fun M3 =>
      mv_let (mv_si M3 4 5 0) fun M4 =>
      fX9_judge_40 x2 0 M4
    else
      some (.inr (()), M)
noncomputable def fX9_judge_7 (x2 : Int32) (M : mv_M) : Option (Unit × mv_M) := mv_loop (fun (s : Int32) M => gX9_judge_7 s M) x2 M
set_option maxRecDepth 100000 in
set_option maxHeartbeats 4000000 in
theorem zX9_judge_7 {l : Launch} {d : Nat} {Q : Unit → mv_M → Prop} (hd : 326 ≤ d) (x2 : Int32) (M : mv_M) (h : mv_ok (fX9_judge_7 x2 M) Q) : mv l mX9_judge d 0 7 [(0, .ref 4), (2, .int x2)] [] M (mv_qV Q) := by
  unfold fX9_judge_7 at h
  refine mv_loopE (A := (fun (s : Int32) M => mv l mX9_judge d 0 7 [(0, .ref 4), (2, .int s)] [] M (mv_qV Q))) ?_ x2 M h
  · intro x2 M h
    try dsimp only at h
    show mv l mX9_judge d 0 7 [(0, .ref 4), (2, .int x2)] [] M (mv_qV Q)
    unfold gX9_judge_7 at h
    refine mv_iload_n 1 dX9_judge_7 rfl ?_
    refine mv_aload_n 0 dX9_judge_8 rfl ?_
    obtain ⟨b2, eb2, hb2, h⟩ := mv_getpE h
    refine mv_getP b2 fX9_23 (by decide) rfl rfl eb2 dX9_judge_9 ?_
    refine mv_getI fX9_27 (mv_pN (t := 0) hb2 (by decide)) (by rcases hb2 with rfl | rfl <;> rfl) rfl dX9_judge_12 ?_
    refine mv_icmp_ge 102 dX9_judge_15 (by decide) (fun z => ?_) (fun z => ?_)
    · replace h := mv_ifT z h
      exact mv_vret rfl dX9_judge_102 ⟨rfl, h⟩
    · replace h := mv_ifF z h
      refine mv_aload_n 0 dX9_judge_18 rfl ?_
      refine mv_getR 1 fX9_19 (by decide) rfl rfl rfl dX9_judge_19 ?_
      refine mv_getI fX9_33 (by decide) rfl rfl dX9_judge_22 ?_
      refine mv_if_ne 102 dX9_judge_25 (by decide) (fun z => ?_) (fun z => ?_)
      · replace h := mv_ifF z h
        exact mv_vret rfl dX9_judge_102 ⟨rfl, h⟩
      · replace h := mv_ifT z h
        refine mv_aload_n 0 dX9_judge_28 rfl ?_
        refine mv_iload_n 1 dX9_judge_29 rfl ?_
        refine mv_putI fX9_38 (by decide) rfl rfl dX9_judge_30 (fun M3 eM3 => ?_)
        replace h := mv_letE h M3 eM3
        refine mv_aload_n 0 dX9_judge_33 rfl ?_
        refine mv_iconst 0 dX9_judge_34 (by decide) ?_
        refine mv_putI fX9_41 (by decide) rfl rfl dX9_judge_35 (fun M4 eM4 => ?_)
        replace h := mv_letE h M4 eM4
        refine mv_iconst 0 dX9_judge_38 (by decide) ?_
        refine mv_istore_n [(3, .int 0), (0, .ref 4), (2, .int x2)] dX9_judge_39 (by decide) rfl ?_
        refine mv_sub [1, 2, 0] rfl ?_
        exact zX9_judge_40 hd x2 0 M4 h
noncomputable def fX9_judge (b1 : Nat) (M : mv_M) : Option (Unit × mv_M) :=
  mv_let (mv_sr M 4 2 (some b1)) fun M1 =>
  fX9_judge_7 0 M1
set_option maxRecDepth 100000 in
set_option maxHeartbeats 4000000 in
theorem zX9_judge {l : Launch} {d : Nat} {Q : Unit → mv_M → Prop} (hd : 326 ≤ d) (b1 : Nat) (M : mv_M) (hb1 : b1 = 9 ∨ b1 = 24) (h : mv_ok (fX9_judge b1 M) Q) : mv l mX9_judge d 0 0 (lv_args 0 [.ref 4, .ref b1]) [] M (mv_qV Q) := by
  unfold fX9_judge at h
  show mv l mX9_judge d 0 0 [(0, .ref 4), (1, .ref b1)] [] M (mv_qV Q)
  refine mv_aload_n 0 dX9_judge_0 rfl ?_
  refine mv_aload_n 1 dX9_judge_1 rfl ?_
  refine mv_putR fX9_23 (by decide) rfl rfl dX9_judge_2 (fun M1 eM1 => ?_)
  replace h := mv_letE h M1 eM1
  refine mv_iconst 0 dX9_judge_5 (by decide) ?_
  refine mv_istore_n [(2, .int 0), (0, .ref 4), (1, .ref b1)] dX9_judge_6 (by decide) rfl ?_
  refine mv_sub [1, 0] rfl ?_
  exact zX9_judge_7 hd 0 M1 h
