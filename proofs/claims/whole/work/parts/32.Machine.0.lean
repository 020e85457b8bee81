theorem dX2_forget_0 : decode cX2_forget 0 = .ok (.aload_n 0, 1) := by decide +kernel
theorem dX2_forget_1 : decode cX2_forget 1 = .ok (.getfield 12, 3) := by decide +kernel
theorem dX2_forget_4 : decode cX2_forget 4 = .ok (.invokevirtual 59, 3) := by decide +kernel
theorem dX2_forget_7 : decode cX2_forget 7 = .ok (.aload_n 0, 1) := by decide +kernel
theorem dX2_forget_8 : decode cX2_forget 8 = .ok (.iconst (-1), 1) := by decide +kernel
theorem dX2_forget_9 : decode cX2_forget 9 = .ok (.putfield 18, 3) := by decide +kernel
theorem dX2_forget_12 : decode cX2_forget 12 = .ok (.aload_n 0, 1) := by decide +kernel
theorem dX2_forget_13 : decode cX2_forget 13 = .ok (.iconst 0, 1) := by decide +kernel
theorem dX2_forget_14 : decode cX2_forget 14 = .ok (.putfield 22, 3) := by decide +kernel
theorem dX2_forget_17 : decode cX2_forget 17 = .ok (.aload_n 0, 1) := by decide +kernel
theorem dX2_forget_18 : decode cX2_forget 18 = .ok (.iconst 0, 1) := by decide +kernel
theorem dX2_forget_19 : decode cX2_forget 19 = .ok (.putfield 25, 3) := by decide +kernel
theorem dX2_forget_22 : decode cX2_forget 22 = .ok (.aload_n 0, 1) := by decide +kernel
theorem dX2_forget_23 : decode cX2_forget 23 = .ok (.iconst 0, 1) := by decide +kernel
theorem dX2_forget_24 : decode cX2_forget 24 = .ok (.putfield 28, 3) := by decide +kernel
theorem dX2_forget_27 : decode cX2_forget 27 = .ok (.aload_n 0, 1) := by decide +kernel
theorem dX2_forget_28 : decode cX2_forget 28 = .ok (.iconst 0, 1) := by decide +kernel
theorem dX2_forget_29 : decode cX2_forget 29 = .ok (.putfield 31, 3) := by decide +kernel
theorem dX2_forget_32 : decode cX2_forget 32 = .ok (.aload_n 0, 1) := by decide +kernel
theorem dX2_forget_33 : decode cX2_forget 33 = .ok (.iconst 0, 1) := by decide +kernel
theorem dX2_forget_34 : decode cX2_forget 34 = .ok (.putfield 34, 3) := by decide +kernel
theorem dX2_forget_37 : decode cX2_forget 37 = .ok (.return_, 1) := by decide +kernel
noncomputable def fX2_forget (M : mv_M) : Option (Unit × mv_M) :=
  mv_bind (fX7_clear M) fun _ M1 =>
  mv_let (mv_si M1 7 1 (-1)) fun M2 =>
  mv_let (mv_si M2 7 2 0) fun M3 =>
  mv_let (mv_si M3 7 3 0) fun M4 =>
  mv_let (mv_si M4 7 4 0) fun M5 =>
  mv_let (mv_si M5 7 5 0) fun M6 =>
  mv_let (mv_si M6 7 8 0) fun M7 =>
  some ((), M7)
set_option maxRecDepth 100000 in
set_option maxHeartbeats 4000000 in
theorem zX2_forget {l : Launch} {d : Nat} {Q : Unit → mv_M → Prop} (hd : 1 ≤ d) (M : mv_M) (h : mv_ok (fX2_forget M) Q) : mv l mX2_forget d 0 0 (lv_args 0 [.ref 7]) [] M (mv_qV Q) := by
  unfold fX2_forget at h
  show mv l mX2_forget d 0 0 [(0, .ref 7)] [] M (mv_qV Q)
  refine mv_aload_n 0 dX2_forget_0 rfl ?_
  refine mv_getR 8 fX2_12 (by decide) rfl rfl rfl dX2_forget_1 ?_
  refine mv_cvV (As := []) (st := []) okX7_clear lX2_59 (by decide) rfl rfl rfl (Nat.le_of_ble_eq_true rfl) rfl (Nat.le_of_ble_eq_true rfl) dX2_forget_4 (by omega) rfl (zX7_clear (d := d - 1) (by omega) M (mv_bindE h)) (fun _ M1 h => ?_)
  refine mv_aload_n 0 dX2_forget_7 rfl ?_
  refine mv_iconst (-1) dX2_forget_8 (by decide) ?_
  refine mv_putI fX2_18 (by decide) rfl rfl dX2_forget_9 (fun M2 eM2 => ?_)
  replace h := mv_letE h M2 eM2
  refine mv_aload_n 0 dX2_forget_12 rfl ?_
  refine mv_iconst 0 dX2_forget_13 (by decide) ?_
  refine mv_putI fX2_22 (by decide) rfl rfl dX2_forget_14 (fun M3 eM3 => ?_)
  replace h := mv_letE h M3 eM3
  refine mv_aload_n 0 dX2_forget_17 rfl ?_
  refine mv_iconst 0 dX2_forget_18 (by decide) ?_
  refine mv_putI fX2_25 (by decide) rfl rfl dX2_forget_19 (fun M4 eM4 => ?_)
  replace h := mv_letE h M4 eM4
  refine mv_aload_n 0 dX2_forget_22 rfl ?_
  refine mv_iconst 0 dX2_forget_23 (by decide) ?_
  refine mv_putI fX2_28 (by decide) rfl rfl dX2_forget_24 (fun M5 eM5 => ?_)
  replace h := mv_letE h M5 eM5
  refine mv_aload_n 0 dX2_forget_27 rfl ?_
  refine mv_iconst 0 dX2_forget_28 (by decide) ?_
  refine mv_putI fX2_31 (by decide) rfl rfl dX2_forget_29 (fun M6 eM6 => ?_)
  replace h := mv_letE h M6 eM6
  refine mv_aload_n 0 dX2_forget_32 rfl ?_
  refine mv_iconst 0 dX2_forget_33 (by decide) ?_
  refine mv_putI fX2_34 (by decide) rfl rfl dX2_forget_34 (fun M7 eM7 => ?_)
  replace h := mv_letE h M7 eM7
  exact mv_vret rfl dX2_forget_37 ⟨rfl, h⟩
theorem dX2_isPlace_0 : decode cX2_isPlace 0 = .ok (.iload_n 1, 1) := by decide +kernel
theorem dX2_isPlace_1 : decode cX2_isPlace 1 = .ok (.ifCond .lt 24, 3) := by decide +kernel
theorem dX2_isPlace_4 : decode cX2_isPlace 4 = .ok (.iload_n 1, 1) := by decide +kernel
theorem dX2_isPlace_5 : decode cX2_isPlace 5 = .ok (.sipush 1500, 3) := by decide +kernel
theorem dX2_isPlace_8 : decode cX2_isPlace 8 = .ok (.if_icmp .gt 17, 3) := by decide +kernel
theorem dX2_isPlace_11 : decode cX2_isPlace 11 = .ok (.iload_n 2, 1) := by decide +kernel
theorem dX2_isPlace_12 : decode cX2_isPlace 12 = .ok (.ifCond .lt 13, 3) := by decide +kernel
theorem dX2_isPlace_15 : decode cX2_isPlace 15 = .ok (.iload_n 2, 1) := by decide +kernel
theorem dX2_isPlace_16 : decode cX2_isPlace 16 = .ok (.bipush 16, 2) := by decide +kernel
theorem dX2_isPlace_18 : decode cX2_isPlace 18 = .ok (.if_icmp .ge 7, 3) := by decide +kernel
theorem dX2_isPlace_21 : decode cX2_isPlace 21 = .ok (.iconst 1, 1) := by decide +kernel
theorem dX2_isPlace_22 : decode cX2_isPlace 22 = .ok (.goto 4, 3) := by decide +kernel
theorem dX2_isPlace_25 : decode cX2_isPlace 25 = .ok (.iconst 0, 1) := by decide +kernel
theorem dX2_isPlace_26 : decode cX2_isPlace 26 = .ok (.ireturn, 1) := by decide +kernel
noncomputable def fX2_isPlace (a0 : Int32) (a1 : Int32) (M : mv_M) : Option (Int32 × mv_M) :=
  if a0 < 0 then
    some (0, M)
  else
    if 1500 < a0 then
      some (0, M)
    else
      if a1 < 0 then
        some (0, M)
      else
        if 16 ≤ a1 then
          some (0, M)
        else
          some (1, M)
set_option maxRecDepth 100000 in
set_option maxHeartbeats 4000000 in
theorem zX2_isPlace {l : Launch} {d : Nat} {Q : Int32 → mv_M → Prop} (hd : 0 ≤ d) (a0 : Int32) (a1 : Int32) (M : mv_M) (h : mv_ok (fX2_isPlace a0 a1 M) Q) : mv l mX2_isPlace d 0 0 (lv_args 0 [.ref 7, .int a0, .int a1]) [] M (mv_qI Q) := by
  unfold fX2_isPlace at h
  show mv l mX2_isPlace d 0 0 [(0, .ref 7), (1, .int a0), (2, .int a1)] [] M (mv_qI Q)
  refine mv_iload_n 1 dX2_isPlace_0 rfl ?_
  refine mv_if_lt 25 dX2_isPlace_1 (by decide) (fun z => ?_) (fun z => ?_)
  · replace h := mv_ifT z h
    refine mv_iconst 0 dX2_isPlace_25 (by decide) ?_
    exact mv_zret (by decide) rfl dX2_isPlace_26 ⟨_, rfl, h⟩
  · replace h := mv_ifF z h
    refine mv_iload_n 1 dX2_isPlace_4 rfl ?_
    refine mv_sipush 1500 dX2_isPlace_5 (by decide) ?_
    refine mv_icmp_gt 25 dX2_isPlace_8 (by decide) (fun z => ?_) (fun z => ?_)
    · replace h := mv_ifT z h
      refine mv_iconst 0 dX2_isPlace_25 (by decide) ?_
      exact mv_zret (by decide) rfl dX2_isPlace_26 ⟨_, rfl, h⟩
    · replace h := mv_ifF z h
      refine mv_iload_n 2 dX2_isPlace_11 rfl ?_
      refine mv_if_lt 25 dX2_isPlace_12 (by decide) (fun z => ?_) (fun z => ?_)
      · replace h := mv_ifT z h
        refine mv_iconst 0 dX2_isPlace_25 (by decide) ?_
        exact mv_zret (by decide) rfl dX2_isPlace_26 ⟨_, rfl, h⟩
      · replace h := mv_ifF z h
        refine mv_iload_n 2 dX2_isPlace_15 rfl ?_
        refine mv_bipush 16 dX2_isPlace_16 (by decide) ?_
        refine mv_icmp_ge 25 dX2_isPlace_18 (by decide) (fun z => ?_) (fun z => ?_)
        · replace h := mv_ifT z h
          refine mv_iconst 0 dX2_isPlace_25 (by decide) ?_
          exact mv_zret (by decide) rfl dX2_isPlace_26 ⟨_, rfl, h⟩
        · replace h := mv_ifF z h
          refine mv_iconst 1 dX2_isPlace_21 (by decide) ?_
          refine mv_goto 26 dX2_isPlace_22 (by decide) ?_
          exact mv_zret (by decide) rfl dX2_isPlace_26 ⟨_, rfl, h⟩
theorem dX2_bind_0 : decode cX2_bind 0 = .ok (.aload_n 0, 1) := by decide +kernel
theorem dX2_bind_1 : decode cX2_bind 1 = .ok (.iload_n 1, 1) := by decide +kernel
theorem dX2_bind_2 : decode cX2_bind 2 = .ok (.iload_n 2, 1) := by decide +kernel
theorem dX2_bind_3 : decode cX2_bind 3 = .ok (.invokevirtual 234, 3) := by decide +kernel
theorem dX2_bind_6 : decode cX2_bind 6 = .ok (.ifCond .eq 15, 3) := by decide +kernel
theorem dX2_bind_9 : decode cX2_bind 9 = .ok (.aload_n 0, 1) := by decide +kernel
theorem dX2_bind_10 : decode cX2_bind 10 = .ok (.getfield 43, 3) := by decide +kernel
theorem dX2_bind_13 : decode cX2_bind 13 = .ok (.iload_n 1, 1) := by decide +kernel
theorem dX2_bind_14 : decode cX2_bind 14 = .ok (.bipush 16, 2) := by decide +kernel
theorem dX2_bind_16 : decode cX2_bind 16 = .ok (.imul, 1) := by decide +kernel
theorem dX2_bind_17 : decode cX2_bind 17 = .ok (.iload_n 2, 1) := by decide +kernel
theorem dX2_bind_18 : decode cX2_bind 18 = .ok (.iadd, 1) := by decide +kernel
theorem dX2_bind_19 : decode cX2_bind 19 = .ok (.iload_n 3, 1) := by decide +kernel
theorem dX2_bind_20 : decode cX2_bind 20 = .ok (.iastore, 1) := by decide +kernel
theorem dX2_bind_21 : decode cX2_bind 21 = .ok (.return_, 1) := by decide +kernel
noncomputable def fX2_bind (a0 : Int32) (a1 : Int32) (a2 : Int32) (M : mv_M) : Option (Unit × mv_M) :=
  mv_bind (fX2_isPlace a0 a1 M) fun r1 M2 =>
  if r1 = 0 then
    some ((), M2)
  else
    mv_chk (mv_inb ((a0 * 16) + a1) 24016) <|
    mv_let (mv_si M2 50 ((a0 * 16) + a1).toNatClampNeg a2) fun M4 =>
    some ((), M4)
set_option maxRecDepth 100000 in
set_option maxHeartbeats 4000000 in
theorem zX2_bind {l : Launch} {d : Nat} {Q : Unit → mv_M → Prop} (hd : 1 ≤ d) (a0 : Int32) (a1 : Int32) (a2 : Int32) (M : mv_M) (h : mv_ok (fX2_bind a0 a1 a2 M) Q) : mv l mX2_bind d 0 0 (lv_args 0 [.ref 7, .int a0, .int a1, .int a2]) [] M (mv_qV Q) := by
  unfold fX2_bind at h
  show mv l mX2_bind d 0 0 [(0, .ref 7), (1, .int a0), (2, .int a1), (3, .int a2)] [] M (mv_qV Q)
  refine mv_aload_n 0 dX2_bind_0 rfl ?_
  refine mv_iload_n 1 dX2_bind_1 rfl ?_
  refine mv_iload_n 2 dX2_bind_2 rfl ?_
  refine mv_cvI (As := [.int a0, .int a1]) (st := []) okX2_isPlace lX2_234 (by decide) rfl rfl rfl (Nat.le_of_ble_eq_true rfl) rfl (Nat.le_of_ble_eq_true rfl) dX2_bind_3 (by omega) rfl (zX2_isPlace (d := d - 1) (by omega) a0 a1 M (mv_bindE h)) (fun r1 M2 h => ?_)
  refine mv_if_eq 21 dX2_bind_6 (by decide) (fun z => ?_) (fun z => ?_)
  · replace h := mv_ifT z h
    exact mv_vret rfl dX2_bind_21 ⟨rfl, h⟩
  · replace h := mv_ifF z h
    refine mv_aload_n 0 dX2_bind_9 rfl ?_
    refine mv_getR 50 fX2_43 (by decide) rfl rfl rfl dX2_bind_10 ?_
    refine mv_iload_n 1 dX2_bind_13 rfl ?_
    refine mv_bipush 16 dX2_bind_14 (by decide) ?_
    refine mv_imul dX2_bind_16 ?_
    refine mv_iload_n 2 dX2_bind_17 rfl ?_
    refine mv_iadd dX2_bind_18 ?_
    refine mv_iload_n 3 dX2_bind_19 rfl ?_
    obtain ⟨hi3, h⟩ := mv_chkE h
    refine mv_ist (by decide) rfl (mv_inE hi3) dX2_bind_20 (fun M4 eM4 => ?_)
    replace h := mv_letE h M4 eM4
    exact mv_vret rfl dX2_bind_21 ⟨rfl, h⟩
theorem dX2_start_0 : decode cX2_start 0 = .ok (.aload_n 0, 1) := by decide +kernel
theorem dX2_start_1 : decode cX2_start 1 = .ok (.invokevirtual 62, 3) := by decide +kernel
theorem dX2_start_4 : decode cX2_start 4 = .ok (.aload_n 0, 1) := by decide +kernel
theorem dX2_start_5 : decode cX2_start 5 = .ok (.aload_n 1, 1) := by decide +kernel
theorem dX2_start_6 : decode cX2_start 6 = .ok (.putfield 65, 3) := by decide +kernel
theorem dX2_start_9 : decode cX2_start 9 = .ok (.aload_n 0, 1) := by decide +kernel
theorem dX2_start_10 : decode cX2_start 10 = .ok (.iload_n 2, 1) := by decide +kernel
theorem dX2_start_11 : decode cX2_start 11 = .ok (.putfield 18, 3) := by decide +kernel
theorem dX2_start_14 : decode cX2_start 14 = .ok (.aload_n 0, 1) := by decide +kernel
theorem dX2_start_15 : decode cX2_start 15 = .ok (.iload_n 3, 1) := by decide +kernel
theorem dX2_start_16 : decode cX2_start 16 = .ok (.putfield 69, 3) := by decide +kernel
theorem dX2_start_19 : decode cX2_start 19 = .ok (.iconst 0, 1) := by decide +kernel
theorem dX2_start_20 : decode cX2_start 20 = .ok (.istore 5, 2) := by decide +kernel
theorem dX2_start_22 : decode cX2_start 22 = .ok (.iconst 0, 1) := by decide +kernel
theorem dX2_start_23 : decode cX2_start 23 = .ok (.istore 6, 2) := by decide +kernel
theorem dX2_start_25 : decode cX2_start 25 = .ok (.iload 6, 2) := by decide +kernel
theorem dX2_start_27 : decode cX2_start 27 = .ok (.aload_n 0, 1) := by decide +kernel
theorem dX2_start_28 : decode cX2_start 28 = .ok (.getfield 65, 3) := by decide +kernel
theorem dX2_start_31 : decode cX2_start 31 = .ok (.getfield 72, 3) := by decide +kernel
theorem dX2_start_34 : decode cX2_start 34 = .ok (.iload_n 2, 1) := by decide +kernel
theorem dX2_start_35 : decode cX2_start 35 = .ok (.iaload, 1) := by decide +kernel
theorem dX2_start_36 : decode cX2_start 36 = .ok (.if_icmp .ge 35, 3) := by decide +kernel
theorem dX2_start_39 : decode cX2_start 39 = .ok (.aload_n 0, 1) := by decide +kernel
theorem dX2_start_40 : decode cX2_start 40 = .ok (.iconst 0, 1) := by decide +kernel
theorem dX2_start_41 : decode cX2_start 41 = .ok (.iload 6, 2) := by decide +kernel
theorem dX2_start_43 : decode cX2_start 43 = .ok (.sipush 1500, 3) := by decide +kernel
theorem dX2_start_46 : decode cX2_start 46 = .ok (.iload 5, 2) := by decide +kernel
theorem dX2_start_48 : decode cX2_start 48 = .ok (.iadd, 1) := by decide +kernel
theorem dX2_start_49 : decode cX2_start 49 = .ok (.invokevirtual 77, 3) := by decide +kernel
theorem dX2_start_52 : decode cX2_start 52 = .ok (.aload_n 0, 1) := by decide +kernel
theorem dX2_start_53 : decode cX2_start 53 = .ok (.getfield 12, 3) := by decide +kernel
theorem dX2_start_56 : decode cX2_start 56 = .ok (.aload 4, 2) := by decide +kernel
theorem dX2_start_58 : decode cX2_start 58 = .ok (.iload 5, 2) := by decide +kernel
theorem dX2_start_60 : decode cX2_start 60 = .ok (.invokevirtual 81, 3) := by decide +kernel
theorem dX2_start_63 : decode cX2_start 63 = .ok (.istore 5, 2) := by decide +kernel
theorem dX2_start_65 : decode cX2_start 65 = .ok (.iinc 6 1, 3) := by decide +kernel
theorem dX2_start_68 : decode cX2_start 68 = .ok (.goto (-43), 3) := by decide +kernel
theorem dX2_start_71 : decode cX2_start 71 = .ok (.return_, 1) := by decide +kernel
noncomputable def gX2_start_25 (x2 : Int32) (x5 : Int32) (x6 : Int32) (M : mv_M) : Option (((Int32 × Int32 × Int32) ⊕ Unit) × mv_M) :=
  mv_getp (M.2.2 7 6) fun b5 =>
  mv_chk (mv_inb x2 12) <|
  if (M.1 (b5 + 2) x2.toNatClampNeg) ≤ x6 then
    some (.inr (()), M)
  else
    mv_bind (fX2_bind 0 x6 (1500 + x5) M) fun _ M7 =>
    mv_bind (tX7_lay x5 M7) fun r8 M9 =>
    mv_let (x6 + 1) fun v10 =>
    some (.inl (x2, r8, v10), M9)
noncomputable def fX2_start_25 (x2 : Int32) (x5 : Int32) (x6 : Int32) (M : mv_M) : Option (Unit × mv_M) := mv_loop (fun (s : Int32 × Int32 × Int32) M => gX2_start_25 s.1 s.2.1 s.2.2 M) (x2, x5, x6) M
set_option maxRecDepth 100000 in
set_option maxHeartbeats 4000000 in
theorem zX2_start_25 {l : Launch} {d : Nat} {Q : Unit → mv_M → Prop} (hd : 15 ≤ d) (x2 : Int32) (x5 : Int32) (x6 : Int32) (M : mv_M) (h : mv_ok (fX2_start_25 x2 x5 x6 M) Q) : mv l mX2_start d 0 25 [(0, .ref 7), (2, .int x2), (4, .ref 6), (5, .int x5), (6, .int x6)] [] M (mv_qV Q) := by
  unfold fX2_start_25 at h
  refine mv_loopE (A := (fun (s : Int32 × Int32 × Int32) M => mv l mX2_start d 0 25 [(0, .ref 7), (2, .int s.1), (4, .ref 6), (5, .int s.2.1), (6, .int s.2.2)] [] M (mv_qV Q))) ?_ (x2, x5, x6) M h
  · rintro ⟨x2, x5, x6⟩ M h
    try dsimp only at h
    show mv l mX2_start d 0 25 [(0, .ref 7), (2, .int x2), (4, .ref 6), (5, .int x5), (6, .int x6)] [] M (mv_qV Q)
    unfold gX2_start_25 at h
    refine mv_iload 4 dX2_start_25 rfl ?_
    refine mv_aload_n 0 dX2_start_27 rfl ?_
    obtain ⟨b5, eb5, hb5, h⟩ := mv_getpE h
    refine mv_getP b5 fX2_65 (by decide) rfl rfl eb5 dX2_start_28 ?_
    refine mv_getR (b5 + 2) fX2_72 (mv_pN (t := 0) hb5 (by decide)) (by rcases hb5 with rfl | rfl <;> rfl) rfl (by rcases hb5 with rfl | rfl <;> rfl) dX2_start_31 ?_
    refine mv_iload_n 1 dX2_start_34 rfl ?_
    obtain ⟨hi6, h⟩ := mv_chkE h
    refine mv_ild (mv_pN (t := 2) hb5 (by decide)) (by rcases hb5 with rfl | rfl <;> rfl) (mv_inE hi6) dX2_start_35 ?_
    refine mv_icmp_ge 71 dX2_start_36 (by decide) (fun z => ?_) (fun z => ?_)
    · replace h := mv_ifT z h
      exact mv_vret rfl dX2_start_71 ⟨rfl, h⟩
    · replace h := mv_ifF z h
      refine mv_aload_n 0 dX2_start_39 rfl ?_
      refine mv_iconst 0 dX2_start_40 (by decide) ?_
      refine mv_iload 4 dX2_start_41 rfl ?_
      refine mv_sipush 1500 dX2_start_43 (by decide) ?_
      refine mv_iload 3 dX2_start_46 rfl ?_
      refine mv_iadd dX2_start_48 ?_
      refine mv_cvV (As := [.int 0, .int x6, .int (1500 + x5)]) (st := []) okX2_bind lX2_77 (by decide) rfl rfl rfl (Nat.le_of_ble_eq_true rfl) rfl (Nat.le_of_ble_eq_true rfl) dX2_start_49 (by omega) rfl (zX2_bind (d := d - 1) (by omega) 0 x6 (1500 + x5) M (mv_bindE h)) (fun _ M7 h => ?_)
      refine mv_aload_n 0 dX2_start_52 rfl ?_
      refine mv_getR 8 fX2_12 (by decide) rfl rfl rfl dX2_start_53 ?_
      refine mv_aload 2 dX2_start_56 rfl ?_
      refine mv_iload 3 dX2_start_58 rfl ?_
      refine mv_cvI (As := [.ref 6, .int x5]) (st := []) okX7_lay lX2_81 (by decide) rfl rfl rfl (Nat.le_of_ble_eq_true rfl) rfl (Nat.le_of_ble_eq_true rfl) dX2_start_60 (by omega) rfl (ztX7_lay (d := d - 1) (by omega) x5 M7 (mv_bindE h)) (fun r8 M9 h => ?_)
      refine mv_istore [(5, .int r8), (0, .ref 7), (2, .int x2), (4, .ref 6), (6, .int x6)] dX2_start_63 (by decide) rfl ?_
      obtain ⟨v10, ev10⟩ : ∃ z : Int32, z = x6 + 1 := ⟨_, rfl⟩
      replace h := mv_letE h v10 ev10
      refine mv_iinc v10 4 [(6, .int v10), (5, .int r8), (0, .ref 7), (2, .int x2), (4, .ref 6)] dX2_start_65 rfl (by rw [ev10]; rfl) (by decide) rfl ?_
      refine mv_goto 25 dX2_start_68 (by decide) ?_
      refine mv_sub [2, 3, 4, 1, 0] rfl ?_
      exact h
noncomputable def fX2_start (b1 : Nat) (a1 : Int32) (a2 : Int32) (M : mv_M) : Option (Unit × mv_M) :=
  mv_bind (fX2_forget M) fun _ M1 =>
  mv_let (mv_sr M1 7 6 (some b1)) fun M2 =>
  mv_let (mv_si M2 7 1 a1) fun M3 =>
  mv_let (mv_si M3 7 7 a2) fun M4 =>
  fX2_start_25 a1 0 0 M4
set_option maxRecDepth 100000 in
set_option maxHeartbeats 4000000 in
theorem zX2_start {l : Launch} {d : Nat} {Q : Unit → mv_M → Prop} (hd : 15 ≤ d) (b1 : Nat) (a1 : Int32) (a2 : Int32) (M : mv_M) (hb1 : b1 = 9 ∨ b1 = 24) (h : mv_ok (fX2_start b1 a1 a2 M) Q) : mv l mX2_start d 0 0 (lv_args 0 [.ref 7, .ref b1, .int a1, .int a2, .ref 6]) [] M (mv_qV Q) := by
  unfold fX2_start at h
  show mv l mX2_start d 0 0 [(0, .ref 7), (1, .ref b1), (2, .int a1), (3, .int a2), (4, .ref 6)] [] M (mv_qV Q)
  refine mv_aload_n 0 dX2_start_0 rfl ?_
  refine mv_cvV (As := []) (st := []) okX2_forget lX2_62 (by decide) rfl rfl rfl (Nat.le_of_ble_eq_true rfl) rfl (Nat.le_of_ble_eq_true rfl) dX2_start_1 (by omega) rfl (zX2_forget (d := d - 1) (by omega) M (mv_bindE h)) (fun _ M1 h => ?_)
  refine mv_aload_n 0 dX2_start_4 rfl ?_
  refine mv_aload_n 1 dX2_start_5 rfl ?_
  refine mv_putR fX2_65 (by decide) rfl rfl dX2_start_6 (fun M2 eM2 => ?_)
  replace h := mv_letE h M2 eM2
  refine mv_aload_n 0 dX2_start_9 rfl ?_
  refine mv_iload_n 2 dX2_start_10 rfl ?_
  refine mv_putI fX2_18 (by decide) rfl rfl dX2_start_11 (fun M3 eM3 => ?_)
  replace h := mv_letE h M3 eM3
  refine mv_aload_n 0 dX2_start_14 rfl ?_
  refine mv_iload_n 3 dX2_start_15 rfl ?_
  refine mv_putI fX2_69 (by decide) rfl rfl dX2_start_16 (fun M4 eM4 => ?_)
  replace h := mv_letE h M4 eM4
  refine mv_iconst 0 dX2_start_19 (by decide) ?_
  refine mv_istore [(5, .int 0), (0, .ref 7), (1, .ref b1), (2, .int a1), (3, .int a2), (4, .ref 6)] dX2_start_20 (by decide) rfl ?_
  refine mv_iconst 0 dX2_start_22 (by decide) ?_
  refine mv_istore [(6, .int 0), (5, .int 0), (0, .ref 7), (1, .ref b1), (2, .int a1), (3, .int a2), (4, .ref 6)] dX2_start_23 (by decide) rfl ?_
  refine mv_sub [2, 4, 6, 1, 0] rfl ?_
  exact zX2_start_25 hd a1 0 0 M4 h
theorem dX2_enter_0 : decode cX2_enter 0 = .ok (.aload_n 0, 1) := by decide +kernel
theorem dX2_enter_1 : decode cX2_enter 1 = .ok (.getfield 25, 3) := by decide +kernel
theorem dX2_enter_4 : decode cX2_enter 4 = .ok (.aload_n 0, 1) := by decide +kernel
theorem dX2_enter_5 : decode cX2_enter 5 = .ok (.getfield 69, 3) := by decide +kernel
theorem dX2_enter_8 : decode cX2_enter 8 = .ok (.if_icmp .lt 11, 3) := by decide +kernel
theorem dX2_enter_11 : decode cX2_enter 11 = .ok (.aload_n 0, 1) := by decide +kernel
theorem dX2_enter_12 : decode cX2_enter 12 = .ok (.iconst 3, 1) := by decide +kernel
theorem dX2_enter_13 : decode cX2_enter 13 = .ok (.putfield 22, 3) := by decide +kernel
theorem dX2_enter_16 : decode cX2_enter 16 = .ok (.goto 86, 3) := by decide +kernel
theorem dX2_enter_19 : decode cX2_enter 19 = .ok (.aload_n 0, 1) := by decide +kernel
theorem dX2_enter_20 : decode cX2_enter 20 = .ok (.getfield 34, 3) := by decide +kernel
theorem dX2_enter_23 : decode cX2_enter 23 = .ok (.sipush 150, 3) := by decide +kernel
theorem dX2_enter_26 : decode cX2_enter 26 = .ok (.if_icmp .lt 11, 3) := by decide +kernel
theorem dX2_enter_29 : decode cX2_enter 29 = .ok (.aload_n 0, 1) := by decide +kernel
theorem dX2_enter_30 : decode cX2_enter 30 = .ok (.iconst 4, 1) := by decide +kernel
theorem dX2_enter_31 : decode cX2_enter 31 = .ok (.putfield 22, 3) := by decide +kernel
theorem dX2_enter_34 : decode cX2_enter 34 = .ok (.goto 68, 3) := by decide +kernel
theorem dX2_enter_37 : decode cX2_enter 37 = .ok (.aload_n 0, 1) := by decide +kernel
theorem dX2_enter_38 : decode cX2_enter 38 = .ok (.dup, 1) := by decide +kernel
theorem dX2_enter_39 : decode cX2_enter 39 = .ok (.getfield 25, 3) := by decide +kernel
theorem dX2_enter_42 : decode cX2_enter 42 = .ok (.iconst 1, 1) := by decide +kernel
theorem dX2_enter_43 : decode cX2_enter 43 = .ok (.iadd, 1) := by decide +kernel
theorem dX2_enter_44 : decode cX2_enter 44 = .ok (.putfield 25, 3) := by decide +kernel
theorem dX2_enter_47 : decode cX2_enter 47 = .ok (.aload_n 0, 1) := by decide +kernel
theorem dX2_enter_48 : decode cX2_enter 48 = .ok (.getfield 47, 3) := by decide +kernel
theorem dX2_enter_51 : decode cX2_enter 51 = .ok (.aload_n 0, 1) := by decide +kernel
theorem dX2_enter_52 : decode cX2_enter 52 = .ok (.getfield 34, 3) := by decide +kernel
theorem dX2_enter_55 : decode cX2_enter 55 = .ok (.iload_n 1, 1) := by decide +kernel
theorem dX2_enter_56 : decode cX2_enter 56 = .ok (.iastore, 1) := by decide +kernel
theorem dX2_enter_57 : decode cX2_enter 57 = .ok (.aload_n 0, 1) := by decide +kernel
theorem dX2_enter_58 : decode cX2_enter 58 = .ok (.getfield 50, 3) := by decide +kernel
theorem dX2_enter_61 : decode cX2_enter 61 = .ok (.aload_n 0, 1) := by decide +kernel
theorem dX2_enter_62 : decode cX2_enter 62 = .ok (.getfield 34, 3) := by decide +kernel
theorem dX2_enter_65 : decode cX2_enter 65 = .ok (.iload_n 2, 1) := by decide +kernel
theorem dX2_enter_66 : decode cX2_enter 66 = .ok (.iastore, 1) := by decide +kernel
theorem dX2_enter_67 : decode cX2_enter 67 = .ok (.aload_n 0, 1) := by decide +kernel
theorem dX2_enter_68 : decode cX2_enter 68 = .ok (.getfield 53, 3) := by decide +kernel
theorem dX2_enter_71 : decode cX2_enter 71 = .ok (.aload_n 0, 1) := by decide +kernel
theorem dX2_enter_72 : decode cX2_enter 72 = .ok (.getfield 34, 3) := by decide +kernel
theorem dX2_enter_75 : decode cX2_enter 75 = .ok (.iconst 0, 1) := by decide +kernel
theorem dX2_enter_76 : decode cX2_enter 76 = .ok (.iastore, 1) := by decide +kernel
theorem dX2_enter_77 : decode cX2_enter 77 = .ok (.aload_n 0, 1) := by decide +kernel
theorem dX2_enter_78 : decode cX2_enter 78 = .ok (.dup, 1) := by decide +kernel
theorem dX2_enter_79 : decode cX2_enter 79 = .ok (.getfield 34, 3) := by decide +kernel
theorem dX2_enter_82 : decode cX2_enter 82 = .ok (.iconst 1, 1) := by decide +kernel
theorem dX2_enter_83 : decode cX2_enter 83 = .ok (.iadd, 1) := by decide +kernel
theorem dX2_enter_84 : decode cX2_enter 84 = .ok (.putfield 34, 3) := by decide +kernel
theorem dX2_enter_87 : decode cX2_enter 87 = .ok (.aload_n 0, 1) := by decide +kernel
theorem dX2_enter_88 : decode cX2_enter 88 = .ok (.aload_n 0, 1) := by decide +kernel
theorem dX2_enter_89 : decode cX2_enter 89 = .ok (.getfield 31, 3) := by decide +kernel
theorem dX2_enter_92 : decode cX2_enter 92 = .ok (.aload_n 0, 1) := by decide +kernel
theorem dX2_enter_93 : decode cX2_enter 93 = .ok (.getfield 34, 3) := by decide +kernel
theorem dX2_enter_96 : decode cX2_enter 96 = .ok (.invokestatic 164, 3) := by decide +kernel
theorem dX2_enter_99 : decode cX2_enter 99 = .ok (.putfield 31, 3) := by decide +kernel
theorem dX2_enter_102 : decode cX2_enter 102 = .ok (.return_, 1) := by decide +kernel
noncomputable def fX2_enter (a0 : Int32) (a1 : Int32) (M : mv_M) : Option (Unit × mv_M) :=
  if (M.1 7 3) < (M.1 7 7) then
    if (M.1 7 8) < 150 then
      mv_let (mv_si M 7 3 ((M.1 7 3) + 1)) fun M1 =>
      mv_chk (mv_inb (M1.1 7 8) 150) <|
      mv_let (mv_si M1 51 (M1.1 7 8).toNatClampNeg a0) fun M3 =>
      mv_chk (mv_inb (M3.1 7 8) 150) <|
      mv_let (mv_si M3 52 (M3.1 7 8).toNatClampNeg a1) fun M5 =>
      mv_chk (mv_inb (M5.1 7 8) 150) <|
      mv_let (mv_si M5 53 (M5.1 7 8).toNatClampNeg 0) fun M7 =>
      mv_let (mv_si M7 7 8 ((M7.1 7 8) + 1)) fun M8 =>
      mv_let (mv_si M8 7 5 (if (M8.1 7 5) < (M8.1 7 8) then (M8.1 7 8) else (M8.1 7 5))) fun M9 =>
      some ((), M9)
    else
      mv_let (mv_si M 7 2 4) fun M10 =>
      some ((), M10)
  else
    mv_let (mv_si M 7 2 3) fun M11 =>
    some ((), M11)
set_option maxRecDepth 100000 in
set_option maxHeartbeats 4000000 in
theorem zX2_enter {l : Launch} {d : Nat} {Q : Unit → mv_M → Prop} (hd : 1 ≤ d) (a0 : Int32) (a1 : Int32) (M : mv_M) (h : mv_ok (fX2_enter a0 a1 M) Q) : mv l mX2_enter d 0 0 (lv_args 0 [.ref 7, .int a0, .int a1]) [] M (mv_qV Q) := by
  unfold fX2_enter at h
  show mv l mX2_enter d 0 0 [(0, .ref 7), (1, .int a0), (2, .int a1)] [] M (mv_qV Q)
  refine mv_aload_n 0 dX2_enter_0 rfl ?_
  refine mv_getI fX2_25 (by decide) rfl rfl dX2_enter_1 ?_
  refine mv_aload_n 0 dX2_enter_4 rfl ?_
  refine mv_getI fX2_69 (by decide) rfl rfl dX2_enter_5 ?_
  refine mv_icmp_lt 19 dX2_enter_8 (by decide) (fun z => ?_) (fun z => ?_)
  · replace h := mv_ifT z h
    refine mv_aload_n 0 dX2_enter_19 rfl ?_
    refine mv_getI fX2_34 (by decide) rfl rfl dX2_enter_20 ?_
    refine mv_sipush 150 dX2_enter_23 (by decide) ?_
    refine mv_icmp_lt 37 dX2_enter_26 (by decide) (fun z => ?_) (fun z => ?_)
    · replace h := mv_ifT z h
      refine mv_aload_n 0 dX2_enter_37 rfl ?_
      refine mv_dup dX2_enter_38 rfl ?_
      refine mv_getI fX2_25 (by decide) rfl rfl dX2_enter_39 ?_
      refine mv_iconst 1 dX2_enter_42 (by decide) ?_
      refine mv_iadd dX2_enter_43 ?_
      refine mv_putI fX2_25 (by decide) rfl rfl dX2_enter_44 (fun M1 eM1 => ?_)
      replace h := mv_letE h M1 eM1
      refine mv_aload_n 0 dX2_enter_47 rfl ?_
      refine mv_getR 51 fX2_47 (by decide) rfl rfl rfl dX2_enter_48 ?_
      refine mv_aload_n 0 dX2_enter_51 rfl ?_
      refine mv_getI fX2_34 (by decide) rfl rfl dX2_enter_52 ?_
      refine mv_iload_n 1 dX2_enter_55 rfl ?_
      obtain ⟨hi2, h⟩ := mv_chkE h
      refine mv_ist (by decide) rfl (mv_inE hi2) dX2_enter_56 (fun M3 eM3 => ?_)
      replace h := mv_letE h M3 eM3
      refine mv_aload_n 0 dX2_enter_57 rfl ?_
      refine mv_getR 52 fX2_50 (by decide) rfl rfl rfl dX2_enter_58 ?_
      refine mv_aload_n 0 dX2_enter_61 rfl ?_
      refine mv_getI fX2_34 (by decide) rfl rfl dX2_enter_62 ?_
      refine mv_iload_n 2 dX2_enter_65 rfl ?_
      obtain ⟨hi4, h⟩ := mv_chkE h
      refine mv_ist (by decide) rfl (mv_inE hi4) dX2_enter_66 (fun M5 eM5 => ?_)
      replace h := mv_letE h M5 eM5
      refine mv_aload_n 0 dX2_enter_67 rfl ?_
      refine mv_getR 53 fX2_53 (by decide) rfl rfl rfl dX2_enter_68 ?_
      refine mv_aload_n 0 dX2_enter_71 rfl ?_
      refine mv_getI fX2_34 (by decide) rfl rfl dX2_enter_72 ?_
      refine mv_iconst 0 dX2_enter_75 (by decide) ?_
      obtain ⟨hi6, h⟩ := mv_chkE h
      refine mv_ist (by decide) rfl (mv_inE hi6) dX2_enter_76 (fun M7 eM7 => ?_)
      replace h := mv_letE h M7 eM7
      refine mv_aload_n 0 dX2_enter_77 rfl ?_
      refine mv_dup dX2_enter_78 rfl ?_
      refine mv_getI fX2_34 (by decide) rfl rfl dX2_enter_79 ?_
      refine mv_iconst 1 dX2_enter_82 (by decide) ?_
      refine mv_iadd dX2_enter_83 ?_
      refine mv_putI fX2_34 (by decide) rfl rfl dX2_enter_84 (fun M8 eM8 => ?_)
      replace h := mv_letE h M8 eM8
      refine mv_aload_n 0 dX2_enter_87 rfl ?_
      refine mv_aload_n 0 dX2_enter_88 rfl ?_
      refine mv_getI fX2_31 (by decide) rfl rfl dX2_enter_89 ?_
      refine mv_aload_n 0 dX2_enter_92 rfl ?_
      refine mv_getI fX2_34 (by decide) rfl rfl dX2_enter_93 ?_
      refine mv_mmax lX2_164 (by omega) (Nat.le_of_ble_eq_true rfl) dX2_enter_96 ?_
      refine mv_putI fX2_31 (by decide) rfl rfl dX2_enter_99 (fun M9 eM9 => ?_)
      replace h := mv_letE h M9 eM9
      exact mv_vret rfl dX2_enter_102 ⟨rfl, h⟩
    · replace h := mv_ifF z h
      refine mv_aload_n 0 dX2_enter_29 rfl ?_
      refine mv_iconst 4 dX2_enter_30 (by decide) ?_
      refine mv_putI fX2_22 (by decide) rfl rfl dX2_enter_31 (fun M10 eM10 => ?_)
      replace h := mv_letE h M10 eM10
      refine mv_goto 102 dX2_enter_34 (by decide) ?_
      exact mv_vret rfl dX2_enter_102 ⟨rfl, h⟩
  · replace h := mv_ifF z h
    refine mv_aload_n 0 dX2_enter_11 rfl ?_
    refine mv_iconst 3 dX2_enter_12 (by decide) ?_
    refine mv_putI fX2_22 (by decide) rfl rfl dX2_enter_13 (fun M11 eM11 => ?_)
    replace h := mv_letE h M11 eM11
    refine mv_goto 102 dX2_enter_16 (by decide) ?_
    exact mv_vret rfl dX2_enter_102 ⟨rfl, h⟩
theorem dX2_leave_0 : decode cX2_leave 0 = .ok (.aload_n 0, 1) := by decide +kernel
theorem dX2_leave_1 : decode cX2_leave 1 = .ok (.iload_n 1, 1) := by decide +kernel
theorem dX2_leave_2 : decode cX2_leave 2 = .ok (.putfield 37, 3) := by decide +kernel
theorem dX2_leave_5 : decode cX2_leave 5 = .ok (.aload_n 0, 1) := by decide +kernel
theorem dX2_leave_6 : decode cX2_leave 6 = .ok (.dup, 1) := by decide +kernel
theorem dX2_leave_7 : decode cX2_leave 7 = .ok (.getfield 34, 3) := by decide +kernel
theorem dX2_leave_10 : decode cX2_leave 10 = .ok (.iconst 1, 1) := by decide +kernel
theorem dX2_leave_11 : decode cX2_leave 11 = .ok (.isub, 1) := by decide +kernel
theorem dX2_leave_12 : decode cX2_leave 12 = .ok (.putfield 34, 3) := by decide +kernel
theorem dX2_leave_15 : decode cX2_leave 15 = .ok (.return_, 1) := by decide +kernel
noncomputable def fX2_leave (a0 : Int32) (M : mv_M) : Option (Unit × mv_M) :=
  mv_let (mv_si M 7 9 a0) fun M1 =>
  mv_let (mv_si M1 7 8 ((M1.1 7 8) - 1)) fun M2 =>
  some ((), M2)
set_option maxRecDepth 100000 in
set_option maxHeartbeats 4000000 in
theorem zX2_leave {l : Launch} {d : Nat} {Q : Unit → mv_M → Prop} (hd : 0 ≤ d) (a0 : Int32) (M : mv_M) (h : mv_ok (fX2_leave a0 M) Q) : mv l mX2_leave d 0 0 (lv_args 0 [.ref 7, .int a0]) [] M (mv_qV Q) := by
  unfold fX2_leave at h
  show mv l mX2_leave d 0 0 [(0, .ref 7), (1, .int a0)] [] M (mv_qV Q)
  refine mv_aload_n 0 dX2_leave_0 rfl ?_
  refine mv_iload_n 1 dX2_leave_1 rfl ?_
  refine mv_putI fX2_37 (by decide) rfl rfl dX2_leave_2 (fun M1 eM1 => ?_)
  replace h := mv_letE h M1 eM1
  refine mv_aload_n 0 dX2_leave_5 rfl ?_
  refine mv_dup dX2_leave_6 rfl ?_
  refine mv_getI fX2_34 (by decide) rfl rfl dX2_leave_7 ?_
  refine mv_iconst 1 dX2_leave_10 (by decide) ?_
  refine mv_isub dX2_leave_11 ?_
  refine mv_putI fX2_34 (by decide) rfl rfl dX2_leave_12 (fun M2 eM2 => ?_)
  replace h := mv_letE h M2 eM2
  exact mv_vret rfl dX2_leave_15 ⟨rfl, h⟩
theorem dX2_thingOf_0 : decode cX2_thingOf 0 = .ok (.aload_n 0, 1) := by decide +kernel
theorem dX2_thingOf_1 : decode cX2_thingOf 1 = .ok (.iload_n 1, 1) := by decide +kernel
theorem dX2_thingOf_2 : decode cX2_thingOf 2 = .ok (.iload_n 2, 1) := by decide +kernel
theorem dX2_thingOf_3 : decode cX2_thingOf 3 = .ok (.invokevirtual 234, 3) := by decide +kernel
theorem dX2_thingOf_6 : decode cX2_thingOf 6 = .ok (.ifCond .eq 17, 3) := by decide +kernel
theorem dX2_thingOf_9 : decode cX2_thingOf 9 = .ok (.aload_n 0, 1) := by decide +kernel
theorem dX2_thingOf_10 : decode cX2_thingOf 10 = .ok (.getfield 43, 3) := by decide +kernel
theorem dX2_thingOf_13 : decode cX2_thingOf 13 = .ok (.iload_n 1, 1) := by decide +kernel
theorem dX2_thingOf_14 : decode cX2_thingOf 14 = .ok (.bipush 16, 2) := by decide +kernel
theorem dX2_thingOf_16 : decode cX2_thingOf 16 = .ok (.imul, 1) := by decide +kernel
theorem dX2_thingOf_17 : decode cX2_thingOf 17 = .ok (.iload_n 2, 1) := by decide +kernel
theorem dX2_thingOf_18 : decode cX2_thingOf 18 = .ok (.iadd, 1) := by decide +kernel
theorem dX2_thingOf_19 : decode cX2_thingOf 19 = .ok (.iaload, 1) := by decide +kernel
theorem dX2_thingOf_20 : decode cX2_thingOf 20 = .ok (.goto 4, 3) := by decide +kernel
theorem dX2_thingOf_23 : decode cX2_thingOf 23 = .ok (.iconst (-1), 1) := by decide +kernel
theorem dX2_thingOf_24 : decode cX2_thingOf 24 = .ok (.ireturn, 1) := by decide +kernel
noncomputable def fX2_thingOf (a0 : Int32) (a1 : Int32) (M : mv_M) : Option (Int32 × mv_M) :=
  mv_bind (fX2_isPlace a0 a1 M) fun r1 M2 =>
  if r1 = 0 then
    some ((-1), M2)
  else
    mv_chk (mv_inb ((a0 * 16) + a1) 24016) <|
    some (M2.1 50 ((a0 * 16) + a1).toNatClampNeg, M2)
set_option maxRecDepth 100000 in
set_option maxHeartbeats 4000000 in
theorem zX2_thingOf {l : Launch} {d : Nat} {Q : Int32 → mv_M → Prop} (hd : 1 ≤ d) (a0 : Int32) (a1 : Int32) (M : mv_M) (h : mv_ok (fX2_thingOf a0 a1 M) Q) : mv l mX2_thingOf d 0 0 (lv_args 0 [.ref 7, .int a0, .int a1]) [] M (mv_qI Q) := by
  unfold fX2_thingOf at h
  show mv l mX2_thingOf d 0 0 [(0, .ref 7), (1, .int a0), (2, .int a1)] [] M (mv_qI Q)
  refine mv_aload_n 0 dX2_thingOf_0 rfl ?_
  refine mv_iload_n 1 dX2_thingOf_1 rfl ?_
  refine mv_iload_n 2 dX2_thingOf_2 rfl ?_
  refine mv_cvI (As := [.int a0, .int a1]) (st := []) okX2_isPlace lX2_234 (by decide) rfl rfl rfl (Nat.le_of_ble_eq_true rfl) rfl (Nat.le_of_ble_eq_true rfl) dX2_thingOf_3 (by omega) rfl (zX2_isPlace (d := d - 1) (by omega) a0 a1 M (mv_bindE h)) (fun r1 M2 h => ?_)
  refine mv_if_eq 23 dX2_thingOf_6 (by decide) (fun z => ?_) (fun z => ?_)
  · replace h := mv_ifT z h
    refine mv_iconst (-1) dX2_thingOf_23 (by decide) ?_
    exact mv_iret rfl dX2_thingOf_24 ⟨_, rfl, h⟩
  · replace h := mv_ifF z h
    refine mv_aload_n 0 dX2_thingOf_9 rfl ?_
    refine mv_getR 50 fX2_43 (by decide) rfl rfl rfl dX2_thingOf_10 ?_
    refine mv_iload_n 1 dX2_thingOf_13 rfl ?_
    refine mv_bipush 16 dX2_thingOf_14 (by decide) ?_
    refine mv_imul dX2_thingOf_16 ?_
    refine mv_iload_n 2 dX2_thingOf_17 rfl ?_
    refine mv_iadd dX2_thingOf_18 ?_
    obtain ⟨hi3, h⟩ := mv_chkE h
    refine mv_ild (by decide) rfl (mv_inE hi3) dX2_thingOf_19 ?_
    refine mv_goto 24 dX2_thingOf_20 (by decide) ?_
    exact mv_iret rfl dX2_thingOf_24 ⟨_, rfl, h⟩
theorem dX2_nextPhase_0 : decode cX2_nextPhase 0 = .ok (.aload_n 0, 1) := by decide +kernel
theorem dX2_nextPhase_1 : decode cX2_nextPhase 1 = .ok (.getfield 53, 3) := by decide +kernel
theorem dX2_nextPhase_4 : decode cX2_nextPhase 4 = .ok (.iload_n 1, 1) := by decide +kernel
theorem dX2_nextPhase_5 : decode cX2_nextPhase 5 = .ok (.iaload, 1) := by decide +kernel
theorem dX2_nextPhase_6 : decode cX2_nextPhase 6 = .ok (.istore_n 2, 1) := by decide +kernel
theorem dX2_nextPhase_7 : decode cX2_nextPhase 7 = .ok (.aload_n 0, 1) := by decide +kernel
theorem dX2_nextPhase_8 : decode cX2_nextPhase 8 = .ok (.getfield 53, 3) := by decide +kernel
theorem dX2_nextPhase_11 : decode cX2_nextPhase 11 = .ok (.iload_n 1, 1) := by decide +kernel
theorem dX2_nextPhase_12 : decode cX2_nextPhase 12 = .ok (.dup2, 1) := by decide +kernel
theorem dX2_nextPhase_13 : decode cX2_nextPhase 13 = .ok (.iaload, 1) := by decide +kernel
theorem dX2_nextPhase_14 : decode cX2_nextPhase 14 = .ok (.iconst 1, 1) := by decide +kernel
theorem dX2_nextPhase_15 : decode cX2_nextPhase 15 = .ok (.iadd, 1) := by decide +kernel
theorem dX2_nextPhase_16 : decode cX2_nextPhase 16 = .ok (.iastore, 1) := by decide +kernel
theorem dX2_nextPhase_17 : decode cX2_nextPhase 17 = .ok (.iload_n 2, 1) := by decide +kernel
theorem dX2_nextPhase_18 : decode cX2_nextPhase 18 = .ok (.ireturn, 1) := by decide +kernel
noncomputable def fX2_nextPhase (a0 : Int32) (M : mv_M) : Option (Int32 × mv_M) :=
  mv_chk (mv_inb a0 150) <|
  mv_let (M.1 53 a0.toNatClampNeg) fun v2 =>
  mv_chk (mv_inb a0 150) <|
  mv_chk (mv_inb a0 150) <|
  mv_let (mv_si M 53 a0.toNatClampNeg ((M.1 53 a0.toNatClampNeg) + 1)) fun M5 =>
  some (v2, M5)
set_option maxRecDepth 100000 in
set_option maxHeartbeats 4000000 in
theorem zX2_nextPhase {l : Launch} {d : Nat} {Q : Int32 → mv_M → Prop} (hd : 0 ≤ d) (a0 : Int32) (M : mv_M) (h : mv_ok (fX2_nextPhase a0 M) Q) : mv l mX2_nextPhase d 0 0 (lv_args 0 [.ref 7, .int a0]) [] M (mv_qI Q) := by
  unfold fX2_nextPhase at h
  show mv l mX2_nextPhase d 0 0 [(0, .ref 7), (1, .int a0)] [] M (mv_qI Q)
  refine mv_aload_n 0 dX2_nextPhase_0 rfl ?_
  refine mv_getR 53 fX2_53 (by decide) rfl rfl rfl dX2_nextPhase_1 ?_
  refine mv_iload_n 1 dX2_nextPhase_4 rfl ?_
  obtain ⟨hi1, h⟩ := mv_chkE h
  refine mv_ild (by decide) rfl (mv_inE hi1) dX2_nextPhase_5 ?_
  refine mv_topi (fun v2 ev2 => ?_)
  replace h := mv_letE h v2 ev2
  refine mv_istore_n [(2, .int v2), (0, .ref 7), (1, .int a0)] dX2_nextPhase_6 (by decide) rfl ?_
  refine mv_aload_n 1 dX2_nextPhase_7 rfl ?_
  refine mv_getR 53 fX2_53 (by decide) rfl rfl rfl dX2_nextPhase_8 ?_
  refine mv_iload_n 2 dX2_nextPhase_11 rfl ?_
  refine mv_dup2 dX2_nextPhase_12 rfl rfl ?_
  obtain ⟨hi3, h⟩ := mv_chkE h
  refine mv_ild (by decide) rfl (mv_inE hi3) dX2_nextPhase_13 ?_
  refine mv_iconst 1 dX2_nextPhase_14 (by decide) ?_
  refine mv_iadd dX2_nextPhase_15 ?_
  obtain ⟨hi4, h⟩ := mv_chkE h
  refine mv_ist (by decide) rfl (mv_inE hi4) dX2_nextPhase_16 (fun M5 eM5 => ?_)
  replace h := mv_letE h M5 eM5
  refine mv_iload_n 0 dX2_nextPhase_17 rfl ?_
  exact mv_iret rfl dX2_nextPhase_18 ⟨_, rfl, h⟩
theorem dX2_settle_0 : decode cX2_settle 0 = .ok (.aload_n 0, 1) := by decide +kernel
theorem dX2_settle_1 : decode cX2_settle 1 = .ok (.getfield 12, 3) := by decide +kernel
theorem dX2_settle_4 : decode cX2_settle 4 = .ok (.iload_n 1, 1) := by decide +kernel
theorem dX2_settle_5 : decode cX2_settle 5 = .ok (.invokevirtual 102, 3) := by decide +kernel
theorem dX2_settle_8 : decode cX2_settle 8 = .ok (.ifCond .eq 33, 3) := by decide +kernel
theorem dX2_settle_11 : decode cX2_settle 11 = .ok (.aload_n 0, 1) := by decide +kernel
theorem dX2_settle_12 : decode cX2_settle 12 = .ok (.getfield 22, 3) := by decide +kernel
theorem dX2_settle_15 : decode cX2_settle 15 = .ok (.ifCond .ne 26, 3) := by decide +kernel
theorem dX2_settle_18 : decode cX2_settle 18 = .ok (.aload_n 0, 1) := by decide +kernel
theorem dX2_settle_19 : decode cX2_settle 19 = .ok (.getfield 12, 3) := by decide +kernel
theorem dX2_settle_22 : decode cX2_settle 22 = .ok (.getfield 205, 3) := by decide +kernel
theorem dX2_settle_25 : decode cX2_settle 25 = .ok (.iload_n 1, 1) := by decide +kernel
theorem dX2_settle_26 : decode cX2_settle 26 = .ok (.iconst 2, 1) := by decide +kernel
theorem dX2_settle_27 : decode cX2_settle 27 = .ok (.iastore, 1) := by decide +kernel
theorem dX2_settle_28 : decode cX2_settle 28 = .ok (.aload_n 0, 1) := by decide +kernel
theorem dX2_settle_29 : decode cX2_settle 29 = .ok (.getfield 12, 3) := by decide +kernel
theorem dX2_settle_32 : decode cX2_settle 32 = .ok (.getfield 120, 3) := by decide +kernel
theorem dX2_settle_35 : decode cX2_settle 35 = .ok (.iload_n 1, 1) := by decide +kernel
theorem dX2_settle_36 : decode cX2_settle 36 = .ok (.aload_n 0, 1) := by decide +kernel
theorem dX2_settle_37 : decode cX2_settle 37 = .ok (.getfield 37, 3) := by decide +kernel
theorem dX2_settle_40 : decode cX2_settle 40 = .ok (.iastore, 1) := by decide +kernel
theorem dX2_settle_41 : decode cX2_settle 41 = .ok (.return_, 1) := by decide +kernel
noncomputable def fX2_settle (a0 : Int32) (M : mv_M) : Option (Unit × mv_M) :=
  mv_bind (fX7_has a0 M) fun r1 M2 =>
  if r1 = 0 then
    some ((), M2)
  else
    if (M2.1 7 2) = 0 then
      mv_chk (mv_inb a0 1540) <|
      mv_let (mv_si M2 57 a0.toNatClampNeg 2) fun M4 =>
      mv_chk (mv_inb a0 1540) <|
      mv_let (mv_si M4 58 a0.toNatClampNeg (M4.1 7 9)) fun M6 =>
      some ((), M6)
    else
      some ((), M2)
set_option maxRecDepth 100000 in
set_option maxHeartbeats 4000000 in
theorem zX2_settle {l : Launch} {d : Nat} {Q : Unit → mv_M → Prop} (hd : 1 ≤ d) (a0 : Int32) (M : mv_M) (h : mv_ok (fX2_settle a0 M) Q) : mv l mX2_settle d 0 0 (lv_args 0 [.ref 7, .int a0]) [] M (mv_qV Q) := by
  unfold fX2_settle at h
  show mv l mX2_settle d 0 0 [(0, .ref 7), (1, .int a0)] [] M (mv_qV Q)
  refine mv_aload_n 0 dX2_settle_0 rfl ?_
  refine mv_getR 8 fX2_12 (by decide) rfl rfl rfl dX2_settle_1 ?_
  refine mv_iload_n 1 dX2_settle_4 rfl ?_
  refine mv_cvI (As := [.int a0]) (st := []) okX7_has lX2_102 (by decide) rfl rfl rfl (Nat.le_of_ble_eq_true rfl) rfl (Nat.le_of_ble_eq_true rfl) dX2_settle_5 (by omega) rfl (zX7_has (d := d - 1) (by omega) a0 M (mv_bindE h)) (fun r1 M2 h => ?_)
  refine mv_if_eq 41 dX2_settle_8 (by decide) (fun z => ?_) (fun z => ?_)
  · replace h := mv_ifT z h
    exact mv_vret rfl dX2_settle_41 ⟨rfl, h⟩
  · replace h := mv_ifF z h
    refine mv_aload_n 0 dX2_settle_11 rfl ?_
    refine mv_getI fX2_22 (by decide) rfl rfl dX2_settle_12 ?_
    refine mv_if_ne 41 dX2_settle_15 (by decide) (fun z => ?_) (fun z => ?_)
    · replace h := mv_ifF z h
      exact mv_vret rfl dX2_settle_41 ⟨rfl, h⟩
    · replace h := mv_ifT z h
      refine mv_aload_n 0 dX2_settle_18 rfl ?_
      refine mv_getR 8 fX2_12 (by decide) rfl rfl rfl dX2_settle_19 ?_
      refine mv_getR 57 fX2_205 (by decide) rfl rfl rfl dX2_settle_22 ?_
      refine mv_iload_n 1 dX2_settle_25 rfl ?_
      refine mv_iconst 2 dX2_settle_26 (by decide) ?_
      obtain ⟨hi3, h⟩ := mv_chkE h
      refine mv_ist (by decide) rfl (mv_inE hi3) dX2_settle_27 (fun M4 eM4 => ?_)
      replace h := mv_letE h M4 eM4
      refine mv_aload_n 0 dX2_settle_28 rfl ?_
      refine mv_getR 8 fX2_12 (by decide) rfl rfl rfl dX2_settle_29 ?_
      refine mv_getR 58 fX2_120 (by decide) rfl rfl rfl dX2_settle_32 ?_
      refine mv_iload_n 1 dX2_settle_35 rfl ?_
      refine mv_aload_n 0 dX2_settle_36 rfl ?_
      refine mv_getI fX2_37 (by decide) rfl rfl dX2_settle_37 ?_
      obtain ⟨hi5, h⟩ := mv_chkE h
      refine mv_ist (by decide) rfl (mv_inE hi5) dX2_settle_40 (fun M6 eM6 => ?_)
      replace h := mv_letE h M6 eM6
      exact mv_vret rfl dX2_settle_41 ⟨rfl, h⟩
theorem dX2_isToBeWorked_0 : decode cX2_isToBeWorked 0 = .ok (.aload_n 0, 1) := by decide +kernel
theorem dX2_isToBeWorked_1 : decode cX2_isToBeWorked 1 = .ok (.getfield 12, 3) := by decide +kernel
theorem dX2_isToBeWorked_4 : decode cX2_isToBeWorked 4 = .ok (.iload_n 1, 1) := by decide +kernel
theorem dX2_isToBeWorked_5 : decode cX2_isToBeWorked 5 = .ok (.invokevirtual 102, 3) := by decide +kernel
theorem dX2_isToBeWorked_8 : decode cX2_isToBeWorked 8 = .ok (.ifCond .ne 10, 3) := by decide +kernel
theorem dX2_isToBeWorked_11 : decode cX2_isToBeWorked 11 = .ok (.aload_n 0, 1) := by decide +kernel
theorem dX2_isToBeWorked_12 : decode cX2_isToBeWorked 12 = .ok (.iconst 2, 1) := by decide +kernel
theorem dX2_isToBeWorked_13 : decode cX2_isToBeWorked 13 = .ok (.putfield 22, 3) := by decide +kernel
theorem dX2_isToBeWorked_16 : decode cX2_isToBeWorked 16 = .ok (.iconst 0, 1) := by decide +kernel
theorem dX2_isToBeWorked_17 : decode cX2_isToBeWorked 17 = .ok (.ireturn, 1) := by decide +kernel
theorem dX2_isToBeWorked_18 : decode cX2_isToBeWorked 18 = .ok (.aload_n 0, 1) := by decide +kernel
theorem dX2_isToBeWorked_19 : decode cX2_isToBeWorked 19 = .ok (.getfield 12, 3) := by decide +kernel
theorem dX2_isToBeWorked_22 : decode cX2_isToBeWorked 22 = .ok (.getfield 106, 3) := by decide +kernel
theorem dX2_isToBeWorked_25 : decode cX2_isToBeWorked 25 = .ok (.iload_n 1, 1) := by decide +kernel
theorem dX2_isToBeWorked_26 : decode cX2_isToBeWorked 26 = .ok (.iconst 1, 1) := by decide +kernel
theorem dX2_isToBeWorked_27 : decode cX2_isToBeWorked 27 = .ok (.bastore, 1) := by decide +kernel
theorem dX2_isToBeWorked_28 : decode cX2_isToBeWorked 28 = .ok (.aload_n 0, 1) := by decide +kernel
theorem dX2_isToBeWorked_29 : decode cX2_isToBeWorked 29 = .ok (.getfield 12, 3) := by decide +kernel
theorem dX2_isToBeWorked_32 : decode cX2_isToBeWorked 32 = .ok (.getfield 205, 3) := by decide +kernel
theorem dX2_isToBeWorked_35 : decode cX2_isToBeWorked 35 = .ok (.iload_n 1, 1) := by decide +kernel
theorem dX2_isToBeWorked_36 : decode cX2_isToBeWorked 36 = .ok (.iaload, 1) := by decide +kernel
theorem dX2_isToBeWorked_37 : decode cX2_isToBeWorked 37 = .ok (.iconst 2, 1) := by decide +kernel
theorem dX2_isToBeWorked_38 : decode cX2_isToBeWorked 38 = .ok (.if_icmp .ne 18, 3) := by decide +kernel
theorem dX2_isToBeWorked_41 : decode cX2_isToBeWorked 41 = .ok (.aload_n 0, 1) := by decide +kernel
theorem dX2_isToBeWorked_42 : decode cX2_isToBeWorked 42 = .ok (.aload_n 0, 1) := by decide +kernel
theorem dX2_isToBeWorked_43 : decode cX2_isToBeWorked 43 = .ok (.getfield 12, 3) := by decide +kernel
theorem dX2_isToBeWorked_46 : decode cX2_isToBeWorked 46 = .ok (.getfield 120, 3) := by decide +kernel
theorem dX2_isToBeWorked_49 : decode cX2_isToBeWorked 49 = .ok (.iload_n 1, 1) := by decide +kernel
theorem dX2_isToBeWorked_50 : decode cX2_isToBeWorked 50 = .ok (.iaload, 1) := by decide +kernel
theorem dX2_isToBeWorked_51 : decode cX2_isToBeWorked 51 = .ok (.putfield 37, 3) := by decide +kernel
theorem dX2_isToBeWorked_54 : decode cX2_isToBeWorked 54 = .ok (.iconst 0, 1) := by decide +kernel
theorem dX2_isToBeWorked_55 : decode cX2_isToBeWorked 55 = .ok (.ireturn, 1) := by decide +kernel
theorem dX2_isToBeWorked_56 : decode cX2_isToBeWorked 56 = .ok (.aload_n 0, 1) := by decide +kernel
theorem dX2_isToBeWorked_57 : decode cX2_isToBeWorked 57 = .ok (.getfield 12, 3) := by decide +kernel
theorem dX2_isToBeWorked_60 : decode cX2_isToBeWorked 60 = .ok (.getfield 205, 3) := by decide +kernel
theorem dX2_isToBeWorked_63 : decode cX2_isToBeWorked 63 = .ok (.iload_n 1, 1) := by decide +kernel
theorem dX2_isToBeWorked_64 : decode cX2_isToBeWorked 64 = .ok (.iaload, 1) := by decide +kernel
theorem dX2_isToBeWorked_65 : decode cX2_isToBeWorked 65 = .ok (.ifCond .ne 10, 3) := by decide +kernel
theorem dX2_isToBeWorked_68 : decode cX2_isToBeWorked 68 = .ok (.iload_n 1, 1) := by decide +kernel
theorem dX2_isToBeWorked_69 : decode cX2_isToBeWorked 69 = .ok (.sipush 1500, 3) := by decide +kernel
theorem dX2_isToBeWorked_72 : decode cX2_isToBeWorked 72 = .ok (.if_icmp .lt 10, 3) := by decide +kernel
theorem dX2_isToBeWorked_75 : decode cX2_isToBeWorked 75 = .ok (.aload_n 0, 1) := by decide +kernel
theorem dX2_isToBeWorked_76 : decode cX2_isToBeWorked 76 = .ok (.iconst 2, 1) := by decide +kernel
theorem dX2_isToBeWorked_77 : decode cX2_isToBeWorked 77 = .ok (.putfield 22, 3) := by decide +kernel
theorem dX2_isToBeWorked_80 : decode cX2_isToBeWorked 80 = .ok (.iconst 0, 1) := by decide +kernel
theorem dX2_isToBeWorked_81 : decode cX2_isToBeWorked 81 = .ok (.ireturn, 1) := by decide +kernel
theorem dX2_isToBeWorked_82 : decode cX2_isToBeWorked 82 = .ok (.aload_n 0, 1) := by decide +kernel
theorem dX2_isToBeWorked_83 : decode cX2_isToBeWorked 83 = .ok (.getfield 12, 3) := by decide +kernel
theorem dX2_isToBeWorked_86 : decode cX2_isToBeWorked 86 = .ok (.getfield 205, 3) := by decide +kernel
theorem dX2_isToBeWorked_89 : decode cX2_isToBeWorked 89 = .ok (.iload_n 1, 1) := by decide +kernel
theorem dX2_isToBeWorked_90 : decode cX2_isToBeWorked 90 = .ok (.iconst 1, 1) := by decide +kernel
theorem dX2_isToBeWorked_91 : decode cX2_isToBeWorked 91 = .ok (.iastore, 1) := by decide +kernel
theorem dX2_isToBeWorked_92 : decode cX2_isToBeWorked 92 = .ok (.iconst 1, 1) := by decide +kernel
theorem dX2_isToBeWorked_93 : decode cX2_isToBeWorked 93 = .ok (.ireturn, 1) := by decide +kernel
noncomputable def fX2_isToBeWorked_75 (M : mv_M) : Option (Int32 × mv_M) :=
  mv_let (mv_si M 7 2 2) fun M12 =>
  some (0, M12)
set_option maxRecDepth 100000 in
set_option maxHeartbeats 4000000 in
theorem zX2_isToBeWorked_75 {l : Launch} {d : Nat} {Q : Int32 → mv_M → Prop} (hd : 1 ≤ d) (M : mv_M) (h : mv_ok (fX2_isToBeWorked_75 M) Q) : mv l mX2_isToBeWorked d 0 75 [(0, .ref 7)] [] M (mv_qI Q) := by
  unfold fX2_isToBeWorked_75 at h
  refine mv_aload_n 0 dX2_isToBeWorked_75 rfl ?_
  refine mv_iconst 2 dX2_isToBeWorked_76 (by decide) ?_
  refine mv_putI fX2_22 (by decide) rfl rfl dX2_isToBeWorked_77 (fun M12 eM12 => ?_)
  replace h := mv_letE h M12 eM12
  refine mv_iconst 0 dX2_isToBeWorked_80 (by decide) ?_
  exact mv_zret (by decide) rfl dX2_isToBeWorked_81 ⟨_, rfl, h⟩
noncomputable def fX2_isToBeWorked (a0 : Int32) (M : mv_M) : Option (Int32 × mv_M) :=
  mv_bind (fX7_has a0 M) fun r1 M2 =>
  if r1 = 0 then
    mv_let (mv_si M2 7 2 2) fun M11 =>
    some (0, M11)
  else
    mv_chk (mv_inb a0 1540) <|
    mv_let (mv_si M2 59 a0.toNatClampNeg (vp_nar .boolean 1)) fun M4 =>
    mv_chk (mv_inb a0 1540) <|
    if (M4.1 57 a0.toNatClampNeg) = 2 then
      mv_chk (mv_inb a0 1540) <|
      mv_let (mv_si M4 7 9 (M4.1 58 a0.toNatClampNeg)) fun M10 =>
      some (0, M10)
    else
      mv_chk (mv_inb a0 1540) <|
      if (M4.1 57 a0.toNatClampNeg) = 0 then
        if a0 < 1500 then
          mv_chk (mv_inb a0 1540) <|
          mv_let (mv_si M4 57 a0.toNatClampNeg 1) fun M8 =>
          some (1, M8)
        else
          fX2_isToBeWorked_75 M4
      else
        fX2_isToBeWorked_75 M4
set_option maxRecDepth 100000 in
set_option maxHeartbeats 4000000 in
theorem zX2_isToBeWorked {l : Launch} {d : Nat} {Q : Int32 → mv_M → Prop} (hd : 1 ≤ d) (a0 : Int32) (M : mv_M) (h : mv_ok (fX2_isToBeWorked a0 M) Q) : mv l mX2_isToBeWorked d 0 0 (lv_args 0 [.ref 7, .int a0]) [] M (mv_qI Q) := by
  unfold fX2_isToBeWorked at h
  show mv l mX2_isToBeWorked d 0 0 [(0, .ref 7), (1, .int a0)] [] M (mv_qI Q)
  refine mv_aload_n 0 dX2_isToBeWorked_0 rfl ?_
  refine mv_getR 8 fX2_12 (by decide) rfl rfl rfl dX2_isToBeWorked_1 ?_
  refine mv_iload_n 1 dX2_isToBeWorked_4 rfl ?_
  refine mv_cvI (As := [.int a0]) (st := []) okX7_has lX2_102 (by decide) rfl rfl rfl (Nat.le_of_ble_eq_true rfl) rfl (Nat.le_of_ble_eq_true rfl) dX2_isToBeWorked_5 (by omega) rfl (zX7_has (d := d - 1) (by omega) a0 M (mv_bindE h)) (fun r1 M2 h => ?_)
  refine mv_if_ne 18 dX2_isToBeWorked_8 (by decide) (fun z => ?_) (fun z => ?_)
  · replace h := mv_ifF z h
    refine mv_aload_n 0 dX2_isToBeWorked_18 rfl ?_
    refine mv_getR 8 fX2_12 (by decide) rfl rfl rfl dX2_isToBeWorked_19 ?_
    refine mv_getR 59 fX2_106 (by decide) rfl rfl rfl dX2_isToBeWorked_22 ?_
    refine mv_iload_n 1 dX2_isToBeWorked_25 rfl ?_
    refine mv_iconst 1 dX2_isToBeWorked_26 (by decide) ?_
    obtain ⟨hi3, h⟩ := mv_chkE h
    refine mv_zst (by decide) rfl (mv_inE hi3) dX2_isToBeWorked_27 (fun M4 eM4 => ?_)
    replace h := mv_letE h M4 eM4
    refine mv_aload_n 0 dX2_isToBeWorked_28 rfl ?_
    refine mv_getR 8 fX2_12 (by decide) rfl rfl rfl dX2_isToBeWorked_29 ?_
    refine mv_getR 57 fX2_205 (by decide) rfl rfl rfl dX2_isToBeWorked_32 ?_
    refine mv_iload_n 1 dX2_isToBeWorked_35 rfl ?_
    obtain ⟨hi5, h⟩ := mv_chkE h
    refine mv_ild (by decide) rfl (mv_inE hi5) dX2_isToBeWorked_36 ?_
    refine mv_iconst 2 dX2_isToBeWorked_37 (by decide) ?_
    refine mv_icmp_ne 56 dX2_isToBeWorked_38 (by decide) (fun z => ?_) (fun z => ?_)
    · replace h := mv_ifF z h
      refine mv_aload_n 0 dX2_isToBeWorked_56 rfl ?_
      refine mv_getR 8 fX2_12 (by decide) rfl rfl rfl dX2_isToBeWorked_57 ?_
      refine mv_getR 57 fX2_205 (by decide) rfl rfl rfl dX2_isToBeWorked_60 ?_
      refine mv_iload_n 1 dX2_isToBeWorked_63 rfl ?_
      obtain ⟨hi6, h⟩ := mv_chkE h
      refine mv_ild (by decide) rfl (mv_inE hi6) dX2_isToBeWorked_64 ?_
      refine mv_if_ne 75 dX2_isToBeWorked_65 (by decide) (fun z => ?_) (fun z => ?_)
      · replace h := mv_ifF z h
        refine mv_sub [0] rfl ?_
        exact zX2_isToBeWorked_75 hd M4 h
      · replace h := mv_ifT z h
        refine mv_iload_n 1 dX2_isToBeWorked_68 rfl ?_
        refine mv_sipush 1500 dX2_isToBeWorked_69 (by decide) ?_
        refine mv_icmp_lt 82 dX2_isToBeWorked_72 (by decide) (fun z => ?_) (fun z => ?_)
        · replace h := mv_ifT z h
          refine mv_aload_n 0 dX2_isToBeWorked_82 rfl ?_
          refine mv_getR 8 fX2_12 (by decide) rfl rfl rfl dX2_isToBeWorked_83 ?_
          refine mv_getR 57 fX2_205 (by decide) rfl rfl rfl dX2_isToBeWorked_86 ?_
          refine mv_iload_n 1 dX2_isToBeWorked_89 rfl ?_
          refine mv_iconst 1 dX2_isToBeWorked_90 (by decide) ?_
          obtain ⟨hi7, h⟩ := mv_chkE h
          refine mv_ist (by decide) rfl (mv_inE hi7) dX2_isToBeWorked_91 (fun M8 eM8 => ?_)
          replace h := mv_letE h M8 eM8
          refine mv_iconst 1 dX2_isToBeWorked_92 (by decide) ?_
          exact mv_zret (by decide) rfl dX2_isToBeWorked_93 ⟨_, rfl, h⟩
        · replace h := mv_ifF z h
          refine mv_sub [0] rfl ?_
          exact zX2_isToBeWorked_75 hd M4 h
    · replace h := mv_ifT z h
      refine mv_aload_n 0 dX2_isToBeWorked_41 rfl ?_
      refine mv_aload_n 0 dX2_isToBeWorked_42 rfl ?_
      refine mv_getR 8 fX2_12 (by decide) rfl rfl rfl dX2_isToBeWorked_43 ?_
      refine mv_getR 58 fX2_120 (by decide) rfl rfl rfl dX2_isToBeWorked_46 ?_
      refine mv_iload_n 1 dX2_isToBeWorked_49 rfl ?_
      obtain ⟨hi9, h⟩ := mv_chkE h
      refine mv_ild (by decide) rfl (mv_inE hi9) dX2_isToBeWorked_50 ?_
      refine mv_putI fX2_37 (by decide) rfl rfl dX2_isToBeWorked_51 (fun M10 eM10 => ?_)
      replace h := mv_letE h M10 eM10
      refine mv_iconst 0 dX2_isToBeWorked_54 (by decide) ?_
      exact mv_zret (by decide) rfl dX2_isToBeWorked_55 ⟨_, rfl, h⟩
  · replace h := mv_ifT z h
    refine mv_aload_n 0 dX2_isToBeWorked_11 rfl ?_
    refine mv_iconst 2 dX2_isToBeWorked_12 (by decide) ?_
    refine mv_putI fX2_22 (by decide) rfl rfl dX2_isToBeWorked_13 (fun M11 eM11 => ?_)
    replace h := mv_letE h M11 eM11
    refine mv_iconst 0 dX2_isToBeWorked_16 (by decide) ?_
    exact mv_zret (by decide) rfl dX2_isToBeWorked_17 ⟨_, rfl, h⟩
theorem dX2_goOnName_0 : decode cX2_goOnName 0 = .ok (.aload_n 0, 1) := by decide +kernel
theorem dX2_goOnName_1 : decode cX2_goOnName 1 = .ok (.aload_n 0, 1) := by decide +kernel
theorem dX2_goOnName_2 : decode cX2_goOnName 2 = .ok (.getfield 50, 3) := by decide +kernel
theorem dX2_goOnName_5 : decode cX2_goOnName 5 = .ok (.iload_n 2, 1) := by decide +kernel
theorem dX2_goOnName_6 : decode cX2_goOnName 6 = .ok (.iaload, 1) := by decide +kernel
theorem dX2_goOnName_7 : decode cX2_goOnName 7 = .ok (.aload_n 0, 1) := by decide +kernel
theorem dX2_goOnName_8 : decode cX2_goOnName 8 = .ok (.getfield 65, 3) := by decide +kernel
theorem dX2_goOnName_11 : decode cX2_goOnName 11 = .ok (.getfield 175, 3) := by decide +kernel
theorem dX2_goOnName_14 : decode cX2_goOnName 14 = .ok (.iload_n 1, 1) := by decide +kernel
theorem dX2_goOnName_15 : decode cX2_goOnName 15 = .ok (.iaload, 1) := by decide +kernel
theorem dX2_goOnName_16 : decode cX2_goOnName 16 = .ok (.invokevirtual 98, 3) := by decide +kernel
theorem dX2_goOnName_19 : decode cX2_goOnName 19 = .ok (.istore_n 3, 1) := by decide +kernel
theorem dX2_goOnName_20 : decode cX2_goOnName 20 = .ok (.aload_n 0, 1) := by decide +kernel
theorem dX2_goOnName_21 : decode cX2_goOnName 21 = .ok (.iload_n 2, 1) := by decide +kernel
theorem dX2_goOnName_22 : decode cX2_goOnName 22 = .ok (.invokevirtual 202, 3) := by decide +kernel
theorem dX2_goOnName_25 : decode cX2_goOnName 25 = .ok (.ifCond .le 19, 3) := by decide +kernel
theorem dX2_goOnName_28 : decode cX2_goOnName 28 = .ok (.aload_n 0, 1) := by decide +kernel
theorem dX2_goOnName_29 : decode cX2_goOnName 29 = .ok (.iload_n 3, 1) := by decide +kernel
theorem dX2_goOnName_30 : decode cX2_goOnName 30 = .ok (.invokevirtual 153, 3) := by decide +kernel
theorem dX2_goOnName_33 : decode cX2_goOnName 33 = .ok (.aload_n 0, 1) := by decide +kernel
theorem dX2_goOnName_34 : decode cX2_goOnName 34 = .ok (.aload_n 0, 1) := by decide +kernel
theorem dX2_goOnName_35 : decode cX2_goOnName 35 = .ok (.getfield 37, 3) := by decide +kernel
theorem dX2_goOnName_38 : decode cX2_goOnName 38 = .ok (.invokevirtual 178, 3) := by decide +kernel
theorem dX2_goOnName_41 : decode cX2_goOnName 41 = .ok (.goto 51, 3) := by decide +kernel
theorem dX2_goOnName_44 : decode cX2_goOnName 44 = .ok (.aload_n 0, 1) := by decide +kernel
theorem dX2_goOnName_45 : decode cX2_goOnName 45 = .ok (.iload_n 3, 1) := by decide +kernel
theorem dX2_goOnName_46 : decode cX2_goOnName 46 = .ok (.invokevirtual 146, 3) := by decide +kernel
theorem dX2_goOnName_49 : decode cX2_goOnName 49 = .ok (.ifCond .eq 28, 3) := by decide +kernel
theorem dX2_goOnName_52 : decode cX2_goOnName 52 = .ok (.aload_n 0, 1) := by decide +kernel
theorem dX2_goOnName_53 : decode cX2_goOnName 53 = .ok (.aload_n 0, 1) := by decide +kernel
theorem dX2_goOnName_54 : decode cX2_goOnName 54 = .ok (.getfield 12, 3) := by decide +kernel
theorem dX2_goOnName_57 : decode cX2_goOnName 57 = .ok (.getfield 149, 3) := by decide +kernel
theorem dX2_goOnName_60 : decode cX2_goOnName 60 = .ok (.iload_n 3, 1) := by decide +kernel
theorem dX2_goOnName_61 : decode cX2_goOnName 61 = .ok (.iaload, 1) := by decide +kernel
theorem dX2_goOnName_62 : decode cX2_goOnName 62 = .ok (.aload_n 0, 1) := by decide +kernel
theorem dX2_goOnName_63 : decode cX2_goOnName 63 = .ok (.getfield 12, 3) := by decide +kernel
theorem dX2_goOnName_66 : decode cX2_goOnName 66 = .ok (.getfield 152, 3) := by decide +kernel
theorem dX2_goOnName_69 : decode cX2_goOnName 69 = .ok (.iload_n 3, 1) := by decide +kernel
theorem dX2_goOnName_70 : decode cX2_goOnName 70 = .ok (.iaload, 1) := by decide +kernel
theorem dX2_goOnName_71 : decode cX2_goOnName 71 = .ok (.invokevirtual 157, 3) := by decide +kernel
theorem dX2_goOnName_74 : decode cX2_goOnName 74 = .ok (.goto 18, 3) := by decide +kernel
theorem dX2_goOnName_77 : decode cX2_goOnName 77 = .ok (.aload_n 0, 1) := by decide +kernel
theorem dX2_goOnName_78 : decode cX2_goOnName 78 = .ok (.getfield 22, 3) := by decide +kernel
theorem dX2_goOnName_81 : decode cX2_goOnName 81 = .ok (.ifCond .ne 11, 3) := by decide +kernel
theorem dX2_goOnName_84 : decode cX2_goOnName 84 = .ok (.aload_n 0, 1) := by decide +kernel
theorem dX2_goOnName_85 : decode cX2_goOnName 85 = .ok (.aload_n 0, 1) := by decide +kernel
theorem dX2_goOnName_86 : decode cX2_goOnName 86 = .ok (.getfield 37, 3) := by decide +kernel
theorem dX2_goOnName_89 : decode cX2_goOnName 89 = .ok (.invokevirtual 178, 3) := by decide +kernel
theorem dX2_goOnName_92 : decode cX2_goOnName 92 = .ok (.return_, 1) := by decide +kernel
noncomputable def fX2_goOnName (a0 : Int32) (a1 : Int32) (M : mv_M) : Option (Unit × mv_M) :=
  mv_chk (mv_inb a1 150) <|
  mv_getp (M.2.2 7 6) fun b2 =>
  mv_chk (mv_inb a0 1000) <|
  mv_bind (fX2_thingOf (M.1 52 a1.toNatClampNeg) (M.1 (b2 + 9) a0.toNatClampNeg) M) fun r4 M5 =>
  mv_bind (fX2_nextPhase a1 M5) fun r6 M7 =>
  if r6 ≤ 0 then
    mv_bind (fX2_isToBeWorked r4 M7) fun r8 M9 =>
    if r8 = 0 then
      if (M9.1 7 2) = 0 then
        mv_bind (fX2_leave (M9.1 7 9) M9) fun _ M10 =>
        some ((), M10)
      else
        some ((), M9)
    else
      mv_chk (mv_inb r4 1500) <|
      mv_chk (mv_inb r4 1500) <|
      mv_bind (fX2_enter (M9.1 55 r4.toNatClampNeg) (M9.1 56 r4.toNatClampNeg) M9) fun _ M13 =>
      some ((), M13)
  else
    mv_bind (fX2_settle r4 M7) fun _ M14 =>
    mv_bind (fX2_leave (M14.1 7 9) M14) fun _ M15 =>
    some ((), M15)
set_option maxRecDepth 100000 in
set_option maxHeartbeats 4000000 in
theorem zX2_goOnName {l : Launch} {d : Nat} {Q : Unit → mv_M → Prop} (hd : 2 ≤ d) (a0 : Int32) (a1 : Int32) (M : mv_M) (h : mv_ok (fX2_goOnName a0 a1 M) Q) : mv l mX2_goOnName d 0 0 (lv_args 0 [.ref 7, .int a0, .int a1]) [] M (mv_qV Q) := by
  unfold fX2_goOnName at h
  show mv l mX2_goOnName d 0 0 [(0, .ref 7), (1, .int a0), (2, .int a1)] [] M (mv_qV Q)
  refine mv_aload_n 0 dX2_goOnName_0 rfl ?_
  refine mv_aload_n 0 dX2_goOnName_1 rfl ?_
  refine mv_getR 52 fX2_50 (by decide) rfl rfl rfl dX2_goOnName_2 ?_
  refine mv_iload_n 2 dX2_goOnName_5 rfl ?_
  obtain ⟨hi1, h⟩ := mv_chkE h
  refine mv_ild (by decide) rfl (mv_inE hi1) dX2_goOnName_6 ?_
  refine mv_aload_n 0 dX2_goOnName_7 rfl ?_
  obtain ⟨b2, eb2, hb2, h⟩ := mv_getpE h
  refine mv_getP b2 fX2_65 (by decide) rfl rfl eb2 dX2_goOnName_8 ?_
  refine mv_getR (b2 + 9) fX2_175 (mv_pN (t := 0) hb2 (by decide)) (by rcases hb2 with rfl | rfl <;> rfl) rfl (by rcases hb2 with rfl | rfl <;> rfl) dX2_goOnName_11 ?_
  refine mv_iload_n 1 dX2_goOnName_14 rfl ?_
  obtain ⟨hi3, h⟩ := mv_chkE h
  refine mv_ild (mv_pN (t := 9) hb2 (by decide)) (by rcases hb2 with rfl | rfl <;> rfl) (mv_inE hi3) dX2_goOnName_15 ?_
  refine mv_cvI (As := [.int (M.1 52 a1.toNatClampNeg), .int (M.1 (b2 + 9) a0.toNatClampNeg)]) (st := []) okX2_thingOf lX2_98 (by decide) rfl rfl rfl (Nat.le_of_ble_eq_true rfl) rfl (Nat.le_of_ble_eq_true rfl) dX2_goOnName_16 (by omega) rfl (zX2_thingOf (d := d - 1) (by omega) (M.1 52 a1.toNatClampNeg) (M.1 (b2 + 9) a0.toNatClampNeg) M (mv_bindE h)) (fun r4 M5 h => ?_)
  refine mv_istore_n [(3, .int r4), (0, .ref 7), (1, .int a0), (2, .int a1)] dX2_goOnName_19 (by decide) rfl ?_
  refine mv_aload_n 1 dX2_goOnName_20 rfl ?_
  refine mv_iload_n 3 dX2_goOnName_21 rfl ?_
  refine mv_cvI (As := [.int a1]) (st := []) okX2_nextPhase lX2_202 (by decide) rfl rfl rfl (Nat.le_of_ble_eq_true rfl) rfl (Nat.le_of_ble_eq_true rfl) dX2_goOnName_22 (by omega) rfl (zX2_nextPhase (d := d - 1) (by omega) a1 M5 (mv_bindE h)) (fun r6 M7 h => ?_)
  refine mv_if_le 44 dX2_goOnName_25 (by decide) (fun z => ?_) (fun z => ?_)
  · replace h := mv_ifT z h
    refine mv_aload_n 1 dX2_goOnName_44 rfl ?_
    refine mv_iload_n 0 dX2_goOnName_45 rfl ?_
    refine mv_cvI (As := [.int r4]) (st := []) okX2_isToBeWorked lX2_146 (by decide) rfl rfl rfl (Nat.le_of_ble_eq_true rfl) rfl (Nat.le_of_ble_eq_true rfl) dX2_goOnName_46 (by omega) rfl (zX2_isToBeWorked (d := d - 1) (by omega) r4 M7 (mv_bindE h)) (fun r8 M9 h => ?_)
    refine mv_if_eq 77 dX2_goOnName_49 (by decide) (fun z => ?_) (fun z => ?_)
    · replace h := mv_ifT z h
      refine mv_aload_n 1 dX2_goOnName_77 rfl ?_
      refine mv_getI fX2_22 (by decide) rfl rfl dX2_goOnName_78 ?_
      refine mv_if_ne 92 dX2_goOnName_81 (by decide) (fun z => ?_) (fun z => ?_)
      · replace h := mv_ifF z h
        exact mv_vret rfl dX2_goOnName_92 ⟨rfl, h⟩
      · replace h := mv_ifT z h
        refine mv_aload_n 1 dX2_goOnName_84 rfl ?_
        refine mv_aload_n 1 dX2_goOnName_85 rfl ?_
        refine mv_getI fX2_37 (by decide) rfl rfl dX2_goOnName_86 ?_
        refine mv_cvV (As := [.int (M9.1 7 9)]) (st := []) okX2_leave lX2_178 (by decide) rfl rfl rfl (Nat.le_of_ble_eq_true rfl) rfl (Nat.le_of_ble_eq_true rfl) dX2_goOnName_89 (by omega) rfl (zX2_leave (d := d - 1) (by omega) (M9.1 7 9) M9 (mv_bindE h)) (fun _ M10 h => ?_)
        exact mv_vret rfl dX2_goOnName_92 ⟨rfl, h⟩
    · replace h := mv_ifF z h
      refine mv_aload_n 1 dX2_goOnName_52 rfl ?_
      refine mv_aload_n 1 dX2_goOnName_53 rfl ?_
      refine mv_getR 8 fX2_12 (by decide) rfl rfl rfl dX2_goOnName_54 ?_
      refine mv_getR 55 fX2_149 (by decide) rfl rfl rfl dX2_goOnName_57 ?_
      refine mv_iload_n 0 dX2_goOnName_60 rfl ?_
      obtain ⟨hi11, h⟩ := mv_chkE h
      refine mv_ild (by decide) rfl (mv_inE hi11) dX2_goOnName_61 ?_
      refine mv_aload_n 1 dX2_goOnName_62 rfl ?_
      refine mv_getR 8 fX2_12 (by decide) rfl rfl rfl dX2_goOnName_63 ?_
      refine mv_getR 56 fX2_152 (by decide) rfl rfl rfl dX2_goOnName_66 ?_
      refine mv_iload_n 0 dX2_goOnName_69 rfl ?_
      obtain ⟨hi12, h⟩ := mv_chkE h
      refine mv_ild (by decide) rfl (mv_inE hi12) dX2_goOnName_70 ?_
      refine mv_cvV (As := [.int (M9.1 55 r4.toNatClampNeg), .int (M9.1 56 r4.toNatClampNeg)]) (st := []) okX2_enter lX2_157 (by decide) rfl rfl rfl (Nat.le_of_ble_eq_true rfl) rfl (Nat.le_of_ble_eq_true rfl) dX2_goOnName_71 (by omega) rfl (zX2_enter (d := d - 1) (by omega) (M9.1 55 r4.toNatClampNeg) (M9.1 56 r4.toNatClampNeg) M9 (mv_bindE h)) (fun _ M13 h => ?_)
      refine mv_goto 92 dX2_goOnName_74 (by decide) ?_
      exact mv_vret rfl dX2_goOnName_92 ⟨rfl, h⟩
  · replace h := mv_ifF z h
    refine mv_aload_n 1 dX2_goOnName_28 rfl ?_
    refine mv_iload_n 0 dX2_goOnName_29 rfl ?_
    refine mv_cvV (As := [.int r4]) (st := []) okX2_settle lX2_153 (by decide) rfl rfl rfl (Nat.le_of_ble_eq_true rfl) rfl (Nat.le_of_ble_eq_true rfl) dX2_goOnName_30 (by omega) rfl (zX2_settle (d := d - 1) (by omega) r4 M7 (mv_bindE h)) (fun _ M14 h => ?_)
    refine mv_aload_n 1 dX2_goOnName_33 rfl ?_
    refine mv_aload_n 1 dX2_goOnName_34 rfl ?_
    refine mv_getI fX2_37 (by decide) rfl rfl dX2_goOnName_35 ?_
    refine mv_cvV (As := [.int (M14.1 7 9)]) (st := []) okX2_leave lX2_178 (by decide) rfl rfl rfl (Nat.le_of_ble_eq_true rfl) rfl (Nat.le_of_ble_eq_true rfl) dX2_goOnName_38 (by omega) rfl (zX2_leave (d := d - 1) (by omega) (M14.1 7 9) M14 (mv_bindE h)) (fun _ M15 h => ?_)
    refine mv_goto 92 dX2_goOnName_41 (by decide) ?_
    exact mv_vret rfl dX2_goOnName_92 ⟨rfl, h⟩
theorem dX2_goOnIf_0 : decode cX2_goOnIf 0 = .ok (.aload_n 0, 1) := by decide +kernel
theorem dX2_goOnIf_1 : decode cX2_goOnIf 1 = .ok (.getfield 50, 3) := by decide +kernel
theorem dX2_goOnIf_4 : decode cX2_goOnIf 4 = .ok (.iload_n 2, 1) := by decide +kernel
theorem dX2_goOnIf_5 : decode cX2_goOnIf 5 = .ok (.iaload, 1) := by decide +kernel
theorem dX2_goOnIf_6 : decode cX2_goOnIf 6 = .ok (.istore_n 3, 1) := by decide +kernel
theorem dX2_goOnIf_7 : decode cX2_goOnIf 7 = .ok (.aload_n 0, 1) := by decide +kernel
theorem dX2_goOnIf_8 : decode cX2_goOnIf 8 = .ok (.iload_n 2, 1) := by decide +kernel
theorem dX2_goOnIf_9 : decode cX2_goOnIf 9 = .ok (.invokevirtual 202, 3) := by decide +kernel
theorem dX2_goOnIf_12 : decode cX2_goOnIf 12 = .ok (.lookupswitch 81 #[(0, 28), (1, 45)], 28) := by decide +kernel
theorem dX2_goOnIf_40 : decode cX2_goOnIf 40 = .ok (.aload_n 0, 1) := by decide +kernel
theorem dX2_goOnIf_41 : decode cX2_goOnIf 41 = .ok (.aload_n 0, 1) := by decide +kernel
theorem dX2_goOnIf_42 : decode cX2_goOnIf 42 = .ok (.getfield 65, 3) := by decide +kernel
theorem dX2_goOnIf_45 : decode cX2_goOnIf 45 = .ok (.getfield 175, 3) := by decide +kernel
theorem dX2_goOnIf_48 : decode cX2_goOnIf 48 = .ok (.iload_n 1, 1) := by decide +kernel
theorem dX2_goOnIf_49 : decode cX2_goOnIf 49 = .ok (.iaload, 1) := by decide +kernel
theorem dX2_goOnIf_50 : decode cX2_goOnIf 50 = .ok (.iload_n 3, 1) := by decide +kernel
theorem dX2_goOnIf_51 : decode cX2_goOnIf 51 = .ok (.invokevirtual 157, 3) := by decide +kernel
theorem dX2_goOnIf_54 : decode cX2_goOnIf 54 = .ok (.goto 47, 3) := by decide +kernel
theorem dX2_goOnIf_57 : decode cX2_goOnIf 57 = .ok (.aload_n 0, 1) := by decide +kernel
theorem dX2_goOnIf_58 : decode cX2_goOnIf 58 = .ok (.aload_n 0, 1) := by decide +kernel
theorem dX2_goOnIf_59 : decode cX2_goOnIf 59 = .ok (.getfield 37, 3) := by decide +kernel
theorem dX2_goOnIf_62 : decode cX2_goOnIf 62 = .ok (.ifCond .ne 15, 3) := by decide +kernel
theorem dX2_goOnIf_65 : decode cX2_goOnIf 65 = .ok (.aload_n 0, 1) := by decide +kernel
theorem dX2_goOnIf_66 : decode cX2_goOnIf 66 = .ok (.getfield 65, 3) := by decide +kernel
theorem dX2_goOnIf_69 : decode cX2_goOnIf 69 = .ok (.getfield 215, 3) := by decide +kernel
theorem dX2_goOnIf_72 : decode cX2_goOnIf 72 = .ok (.iload_n 1, 1) := by decide +kernel
theorem dX2_goOnIf_73 : decode cX2_goOnIf 73 = .ok (.iaload, 1) := by decide +kernel
theorem dX2_goOnIf_74 : decode cX2_goOnIf 74 = .ok (.goto 12, 3) := by decide +kernel
theorem dX2_goOnIf_77 : decode cX2_goOnIf 77 = .ok (.aload_n 0, 1) := by decide +kernel
theorem dX2_goOnIf_78 : decode cX2_goOnIf 78 = .ok (.getfield 65, 3) := by decide +kernel
theorem dX2_goOnIf_81 : decode cX2_goOnIf 81 = .ok (.getfield 208, 3) := by decide +kernel
theorem dX2_goOnIf_84 : decode cX2_goOnIf 84 = .ok (.iload_n 1, 1) := by decide +kernel
theorem dX2_goOnIf_85 : decode cX2_goOnIf 85 = .ok (.iaload, 1) := by decide +kernel
theorem dX2_goOnIf_86 : decode cX2_goOnIf 86 = .ok (.iload_n 3, 1) := by decide +kernel
theorem dX2_goOnIf_87 : decode cX2_goOnIf 87 = .ok (.invokevirtual 157, 3) := by decide +kernel
theorem dX2_goOnIf_90 : decode cX2_goOnIf 90 = .ok (.goto 11, 3) := by decide +kernel
theorem dX2_goOnIf_93 : decode cX2_goOnIf 93 = .ok (.aload_n 0, 1) := by decide +kernel
theorem dX2_goOnIf_94 : decode cX2_goOnIf 94 = .ok (.aload_n 0, 1) := by decide +kernel
theorem dX2_goOnIf_95 : decode cX2_goOnIf 95 = .ok (.getfield 37, 3) := by decide +kernel
theorem dX2_goOnIf_98 : decode cX2_goOnIf 98 = .ok (.invokevirtual 178, 3) := by decide +kernel
theorem dX2_goOnIf_101 : decode cX2_goOnIf 101 = .ok (.return_, 1) := by decide +kernel
noncomputable def fX2_goOnIf_86 (x3 : Int32) (s0 : Int32) (M : mv_M) : Option (Unit × mv_M) :=
  mv_bind (fX2_enter s0 x3 M) fun _ M15 =>
  some ((), M15)
set_option maxRecDepth 100000 in
set_option maxHeartbeats 4000000 in
theorem zX2_goOnIf_86 {l : Launch} {d : Nat} {Q : Unit → mv_M → Prop} (hd : 2 ≤ d) (x3 : Int32) (s0 : Int32) (M : mv_M) (h : mv_ok (fX2_goOnIf_86 x3 s0 M) Q) : mv l mX2_goOnIf d 0 86 [(3, .int x3)] [.int s0, .ref 7] M (mv_qV Q) := by
  unfold fX2_goOnIf_86 at h
  refine mv_iload_n 0 dX2_goOnIf_86 rfl ?_
  refine mv_cvV (As := [.int s0, .int x3]) (st := []) okX2_enter lX2_157 (by decide) rfl rfl rfl (Nat.le_of_ble_eq_true rfl) rfl (Nat.le_of_ble_eq_true rfl) dX2_goOnIf_87 (by omega) rfl (zX2_enter (d := d - 1) (by omega) s0 x3 M (mv_bindE h)) (fun _ M15 h => ?_)
  refine mv_goto 101 dX2_goOnIf_90 (by decide) ?_
  exact mv_vret rfl dX2_goOnIf_101 ⟨rfl, h⟩
noncomputable def fX2_goOnIf (a0 : Int32) (a1 : Int32) (M : mv_M) : Option (Unit × mv_M) :=
  mv_chk (mv_inb a1 150) <|
  mv_let (M.1 52 a1.toNatClampNeg) fun v2 =>
  mv_bind (fX2_nextPhase a1 M) fun r3 M4 =>
  if r3 = 0 then
    mv_getp (M4.2.2 7 6) fun b6 =>
    mv_chk (mv_inb a0 1000) <|
    mv_bind (fX2_enter (M4.1 (b6 + 9) a0.toNatClampNeg) v2 M4) fun _ M8 =>
    some ((), M8)
  else
    if r3 = 1 then
      if (M4.1 7 9) = 0 then
        mv_getp (M4.2.2 7 6) fun b12 =>
        mv_chk (mv_inb a0 1000) <|
        fX2_goOnIf_86 v2 (M4.1 (b12 + 11) a0.toNatClampNeg) M4
      else
        mv_getp (M4.2.2 7 6) fun b10 =>
        mv_chk (mv_inb a0 1000) <|
        fX2_goOnIf_86 v2 (M4.1 (b10 + 10) a0.toNatClampNeg) M4
    else
      mv_bind (fX2_leave (M4.1 7 9) M4) fun _ M14 =>
      some ((), M14)
set_option maxRecDepth 100000 in
set_option maxHeartbeats 4000000 in
theorem zX2_goOnIf {l : Launch} {d : Nat} {Q : Unit → mv_M → Prop} (hd : 2 ≤ d) (a0 : Int32) (a1 : Int32) (M : mv_M) (h : mv_ok (fX2_goOnIf a0 a1 M) Q) : mv l mX2_goOnIf d 0 0 (lv_args 0 [.ref 7, .int a0, .int a1]) [] M (mv_qV Q) := by
  unfold fX2_goOnIf at h
  show mv l mX2_goOnIf d 0 0 [(0, .ref 7), (1, .int a0), (2, .int a1)] [] M (mv_qV Q)
  refine mv_aload_n 0 dX2_goOnIf_0 rfl ?_
  refine mv_getR 52 fX2_50 (by decide) rfl rfl rfl dX2_goOnIf_1 ?_
  refine mv_iload_n 2 dX2_goOnIf_4 rfl ?_
  obtain ⟨hi1, h⟩ := mv_chkE h
  refine mv_ild (by decide) rfl (mv_inE hi1) dX2_goOnIf_5 ?_
  refine mv_topi (fun v2 ev2 => ?_)
  replace h := mv_letE h v2 ev2
  refine mv_istore_n [(3, .int v2), (0, .ref 7), (1, .int a0), (2, .int a1)] dX2_goOnIf_6 (by decide) rfl ?_
  refine mv_aload_n 1 dX2_goOnIf_7 rfl ?_
  refine mv_iload_n 3 dX2_goOnIf_8 rfl ?_
  refine mv_cvI (As := [.int a1]) (st := []) okX2_nextPhase lX2_202 (by decide) rfl rfl rfl (Nat.le_of_ble_eq_true rfl) rfl (Nat.le_of_ble_eq_true rfl) dX2_goOnIf_9 (by omega) rfl (zX2_nextPhase (d := d - 1) (by omega) a1 M (mv_bindE h)) (fun r3 M4 h => ?_)
  by_cases z5 : r3 = 0
  · replace h := mv_ifT z5 h
    refine mv_lookup (off := 28) 40 dX2_goOnIf_12 (by decide) (mv_swc (mv_eqv z5 (by decide))) (by decide) ?_
    refine mv_aload_n 1 dX2_goOnIf_40 rfl ?_
    refine mv_aload_n 1 dX2_goOnIf_41 rfl ?_
    obtain ⟨b6, eb6, hb6, h⟩ := mv_getpE h
    refine mv_getP b6 fX2_65 (by decide) rfl rfl eb6 dX2_goOnIf_42 ?_
    refine mv_getR (b6 + 9) fX2_175 (mv_pN (t := 0) hb6 (by decide)) (by rcases hb6 with rfl | rfl <;> rfl) rfl (by rcases hb6 with rfl | rfl <;> rfl) dX2_goOnIf_45 ?_
    refine mv_iload_n 2 dX2_goOnIf_48 rfl ?_
    obtain ⟨hi7, h⟩ := mv_chkE h
    refine mv_ild (mv_pN (t := 9) hb6 (by decide)) (by rcases hb6 with rfl | rfl <;> rfl) (mv_inE hi7) dX2_goOnIf_49 ?_
    refine mv_iload_n 0 dX2_goOnIf_50 rfl ?_
    refine mv_cvV (As := [.int (M4.1 (b6 + 9) a0.toNatClampNeg), .int v2]) (st := []) okX2_enter lX2_157 (by decide) rfl rfl rfl (Nat.le_of_ble_eq_true rfl) rfl (Nat.le_of_ble_eq_true rfl) dX2_goOnIf_51 (by omega) rfl (zX2_enter (d := d - 1) (by omega) (M4.1 (b6 + 9) a0.toNatClampNeg) v2 M4 (mv_bindE h)) (fun _ M8 h => ?_)
    refine mv_goto 101 dX2_goOnIf_54 (by decide) ?_
    exact mv_vret rfl dX2_goOnIf_101 ⟨rfl, h⟩
  · replace h := mv_ifF z5 h
    by_cases z9 : r3 = 1
    · replace h := mv_ifT z9 h
      refine mv_lookup (off := 45) 57 dX2_goOnIf_12 (by decide) (mv_swn (mv_ne 0 (by decide) z5) (mv_swc (mv_eqv z9 (by decide)))) (by decide) ?_
      refine mv_aload_n 1 dX2_goOnIf_57 rfl ?_
      refine mv_aload_n 1 dX2_goOnIf_58 rfl ?_
      refine mv_getI fX2_37 (by decide) rfl rfl dX2_goOnIf_59 ?_
      refine mv_if_ne 77 dX2_goOnIf_62 (by decide) (fun z => ?_) (fun z => ?_)
      · replace h := mv_ifF z h
        refine mv_aload_n 1 dX2_goOnIf_77 rfl ?_
        obtain ⟨b10, eb10, hb10, h⟩ := mv_getpE h
        refine mv_getP b10 fX2_65 (by decide) rfl rfl eb10 dX2_goOnIf_78 ?_
        refine mv_getR (b10 + 10) fX2_208 (mv_pN (t := 0) hb10 (by decide)) (by rcases hb10 with rfl | rfl <;> rfl) rfl (by rcases hb10 with rfl | rfl <;> rfl) dX2_goOnIf_81 ?_
        refine mv_iload_n 2 dX2_goOnIf_84 rfl ?_
        obtain ⟨hi11, h⟩ := mv_chkE h
        refine mv_ild (mv_pN (t := 10) hb10 (by decide)) (by rcases hb10 with rfl | rfl <;> rfl) (mv_inE hi11) dX2_goOnIf_85 ?_
        refine mv_sub [0] rfl ?_
        exact zX2_goOnIf_86 hd v2 (M4.1 (b10 + 10) a0.toNatClampNeg) M4 h
      · replace h := mv_ifT z h
        refine mv_aload_n 1 dX2_goOnIf_65 rfl ?_
        obtain ⟨b12, eb12, hb12, h⟩ := mv_getpE h
        refine mv_getP b12 fX2_65 (by decide) rfl rfl eb12 dX2_goOnIf_66 ?_
        refine mv_getR (b12 + 11) fX2_215 (mv_pN (t := 0) hb12 (by decide)) (by rcases hb12 with rfl | rfl <;> rfl) rfl (by rcases hb12 with rfl | rfl <;> rfl) dX2_goOnIf_69 ?_
        refine mv_iload_n 2 dX2_goOnIf_72 rfl ?_
        obtain ⟨hi13, h⟩ := mv_chkE h
        refine mv_ild (mv_pN (t := 11) hb12 (by decide)) (by rcases hb12 with rfl | rfl <;> rfl) (mv_inE hi13) dX2_goOnIf_73 ?_
        refine mv_goto 86 dX2_goOnIf_74 (by decide) ?_
        refine mv_sub [0] rfl ?_
        exact zX2_goOnIf_86 hd v2 (M4.1 (b12 + 11) a0.toNatClampNeg) M4 h
    · replace h := mv_ifF z9 h
      refine mv_lookup (off := 81) 93 dX2_goOnIf_12 (by decide) (mv_swn (mv_ne 0 (by decide) z5) (mv_swn (mv_ne 1 (by decide) z9) rfl)) (by decide) ?_
      refine mv_aload_n 1 dX2_goOnIf_93 rfl ?_
      refine mv_aload_n 1 dX2_goOnIf_94 rfl ?_
      refine mv_getI fX2_37 (by decide) rfl rfl dX2_goOnIf_95 ?_
      refine mv_cvV (As := [.int (M4.1 7 9)]) (st := []) okX2_leave lX2_178 (by decide) rfl rfl rfl (Nat.le_of_ble_eq_true rfl) rfl (Nat.le_of_ble_eq_true rfl) dX2_goOnIf_98 (by omega) rfl (zX2_leave (d := d - 1) (by omega) (M4.1 7 9) M4 (mv_bindE h)) (fun _ M14 h => ?_)
      exact mv_vret rfl dX2_goOnIf_101 ⟨rfl, h⟩
theorem dX2_thingFor_0 : decode cX2_thingFor 0 = .ok (.aload_n 0, 1) := by decide +kernel
theorem dX2_thingFor_1 : decode cX2_thingFor 1 = .ok (.getfield 65, 3) := by decide +kernel
theorem dX2_thingFor_4 : decode cX2_thingFor 4 = .ok (.iload_n 1, 1) := by decide +kernel
theorem dX2_thingFor_5 : decode cX2_thingFor 5 = .ok (.invokevirtual 169, 3) := by decide +kernel
theorem dX2_thingFor_8 : decode cX2_thingFor 8 = .ok (.ifCond .eq 31, 3) := by decide +kernel
theorem dX2_thingFor_11 : decode cX2_thingFor 11 = .ok (.aload_n 0, 1) := by decide +kernel
theorem dX2_thingFor_12 : decode cX2_thingFor 12 = .ok (.getfield 65, 3) := by decide +kernel
theorem dX2_thingFor_15 : decode cX2_thingFor 15 = .ok (.getfield 172, 3) := by decide +kernel
theorem dX2_thingFor_18 : decode cX2_thingFor 18 = .ok (.iload_n 1, 1) := by decide +kernel
theorem dX2_thingFor_19 : decode cX2_thingFor 19 = .ok (.iaload, 1) := by decide +kernel
theorem dX2_thingFor_20 : decode cX2_thingFor 20 = .ok (.iconst 2, 1) := by decide +kernel
theorem dX2_thingFor_21 : decode cX2_thingFor 21 = .ok (.if_icmp .ne 18, 3) := by decide +kernel
theorem dX2_thingFor_24 : decode cX2_thingFor 24 = .ok (.aload_n 0, 1) := by decide +kernel
theorem dX2_thingFor_25 : decode cX2_thingFor 25 = .ok (.iload_n 2, 1) := by decide +kernel
theorem dX2_thingFor_26 : decode cX2_thingFor 26 = .ok (.aload_n 0, 1) := by decide +kernel
theorem dX2_thingFor_27 : decode cX2_thingFor 27 = .ok (.getfield 65, 3) := by decide +kernel
theorem dX2_thingFor_30 : decode cX2_thingFor 30 = .ok (.getfield 175, 3) := by decide +kernel
theorem dX2_thingFor_33 : decode cX2_thingFor 33 = .ok (.iload_n 1, 1) := by decide +kernel
theorem dX2_thingFor_34 : decode cX2_thingFor 34 = .ok (.iaload, 1) := by decide +kernel
theorem dX2_thingFor_35 : decode cX2_thingFor 35 = .ok (.invokevirtual 98, 3) := by decide +kernel
theorem dX2_thingFor_38 : decode cX2_thingFor 38 = .ok (.ireturn, 1) := by decide +kernel
theorem dX2_thingFor_39 : decode cX2_thingFor 39 = .ok (.aload_n 0, 1) := by decide +kernel
theorem dX2_thingFor_40 : decode cX2_thingFor 40 = .ok (.getfield 12, 3) := by decide +kernel
theorem dX2_thingFor_43 : decode cX2_thingFor 43 = .ok (.iload_n 1, 1) := by decide +kernel
theorem dX2_thingFor_44 : decode cX2_thingFor 44 = .ok (.iload_n 2, 1) := by decide +kernel
theorem dX2_thingFor_45 : decode cX2_thingFor 45 = .ok (.invokevirtual 231, 3) := by decide +kernel
theorem dX2_thingFor_48 : decode cX2_thingFor 48 = .ok (.istore_n 3, 1) := by decide +kernel
theorem dX2_thingFor_49 : decode cX2_thingFor 49 = .ok (.iload_n 3, 1) := by decide +kernel
theorem dX2_thingFor_50 : decode cX2_thingFor 50 = .ok (.iconst (-1), 1) := by decide +kernel
theorem dX2_thingFor_51 : decode cX2_thingFor 51 = .ok (.if_icmp .ne 8, 3) := by decide +kernel
theorem dX2_thingFor_54 : decode cX2_thingFor 54 = .ok (.aload_n 0, 1) := by decide +kernel
theorem dX2_thingFor_55 : decode cX2_thingFor 55 = .ok (.iconst 5, 1) := by decide +kernel
theorem dX2_thingFor_56 : decode cX2_thingFor 56 = .ok (.putfield 22, 3) := by decide +kernel
theorem dX2_thingFor_59 : decode cX2_thingFor 59 = .ok (.iload_n 3, 1) := by decide +kernel
theorem dX2_thingFor_60 : decode cX2_thingFor 60 = .ok (.ireturn, 1) := by decide +kernel
noncomputable def fX2_thingFor_39 (x1 : Int32) (x2 : Int32) (M : mv_M) : Option (Int32 × mv_M) :=
  mv_bind (fX7_add x1 x2 M) fun r10 M11 =>
  if r10 = (-1) then
    mv_let (mv_si M11 7 2 5) fun M12 =>
    some (r10, M12)
  else
    some (r10, M11)
set_option maxRecDepth 100000 in
set_option maxHeartbeats 4000000 in
theorem zX2_thingFor_39 {l : Launch} {d : Nat} {Q : Int32 → mv_M → Prop} (hd : 2 ≤ d) (x1 : Int32) (x2 : Int32) (M : mv_M) (h : mv_ok (fX2_thingFor_39 x1 x2 M) Q) : mv l mX2_thingFor d 0 39 [(0, .ref 7), (1, .int x1), (2, .int x2)] [] M (mv_qI Q) := by
  unfold fX2_thingFor_39 at h
  refine mv_aload_n 0 dX2_thingFor_39 rfl ?_
  refine mv_getR 8 fX2_12 (by decide) rfl rfl rfl dX2_thingFor_40 ?_
  refine mv_iload_n 1 dX2_thingFor_43 rfl ?_
  refine mv_iload_n 2 dX2_thingFor_44 rfl ?_
  refine mv_cvI (As := [.int x1, .int x2]) (st := []) okX7_add lX2_231 (by decide) rfl rfl rfl (Nat.le_of_ble_eq_true rfl) rfl (Nat.le_of_ble_eq_true rfl) dX2_thingFor_45 (by omega) rfl (zX7_add (d := d - 1) (by omega) x1 x2 M (mv_bindE h)) (fun r10 M11 h => ?_)
  refine mv_istore_n [(3, .int r10), (0, .ref 7), (1, .int x1), (2, .int x2)] dX2_thingFor_48 (by decide) rfl ?_
  refine mv_iload_n 0 dX2_thingFor_49 rfl ?_
  refine mv_iconst (-1) dX2_thingFor_50 (by decide) ?_
  refine mv_icmp_ne 59 dX2_thingFor_51 (by decide) (fun z => ?_) (fun z => ?_)
  · replace h := mv_ifF z h
    refine mv_iload_n 0 dX2_thingFor_59 rfl ?_
    exact mv_iret rfl dX2_thingFor_60 ⟨_, rfl, h⟩
  · replace h := mv_ifT z h
    refine mv_aload_n 1 dX2_thingFor_54 rfl ?_
    refine mv_iconst 5 dX2_thingFor_55 (by decide) ?_
    refine mv_putI fX2_22 (by decide) rfl rfl dX2_thingFor_56 (fun M12 eM12 => ?_)
    replace h := mv_letE h M12 eM12
    refine mv_iload_n 0 dX2_thingFor_59 rfl ?_
    exact mv_iret rfl dX2_thingFor_60 ⟨_, rfl, h⟩
noncomputable def fX2_thingFor (a0 : Int32) (a1 : Int32) (M : mv_M) : Option (Int32 × mv_M) :=
  mv_getp (M.2.2 7 6) fun b1 =>
  mv_bind (fX4_hasNode b1 a0 M) fun r2 M3 =>
  if r2 = 0 then
    fX2_thingFor_39 a0 a1 M3
  else
    mv_getp (M3.2.2 7 6) fun b4 =>
    mv_chk (mv_inb a0 1000) <|
    if (M3.1 (b4 + 8) a0.toNatClampNeg) = 2 then
      mv_getp (M3.2.2 7 6) fun b6 =>
      mv_chk (mv_inb a0 1000) <|
      mv_bind (fX2_thingOf a1 (M3.1 (b6 + 9) a0.toNatClampNeg) M3) fun r8 M9 =>
      some (r8, M9)
    else
      fX2_thingFor_39 a0 a1 M3
set_option maxRecDepth 100000 in
set_option maxHeartbeats 4000000 in
theorem zX2_thingFor {l : Launch} {d : Nat} {Q : Int32 → mv_M → Prop} (hd : 2 ≤ d) (a0 : Int32) (a1 : Int32) (M : mv_M) (h : mv_ok (fX2_thingFor a0 a1 M) Q) : mv l mX2_thingFor d 0 0 (lv_args 0 [.ref 7, .int a0, .int a1]) [] M (mv_qI Q) := by
  unfold fX2_thingFor at h
  show mv l mX2_thingFor d 0 0 [(0, .ref 7), (1, .int a0), (2, .int a1)] [] M (mv_qI Q)
  refine mv_aload_n 0 dX2_thingFor_0 rfl ?_
  obtain ⟨b1, eb1, hb1, h⟩ := mv_getpE h
  refine mv_getP b1 fX2_65 (by decide) rfl rfl eb1 dX2_thingFor_1 ?_
  refine mv_iload_n 1 dX2_thingFor_4 rfl ?_
  refine mv_cvI (As := [.int a0]) (st := []) okX4_hasNode lX2_169 (mv_pN (t := 0) hb1 (by decide)) (by rcases hb1 with rfl | rfl <;> rfl) rfl rfl (Nat.le_of_ble_eq_true rfl) rfl (Nat.le_of_ble_eq_true rfl) dX2_thingFor_5 (by omega) rfl (zX4_hasNode (d := d - 1) (by omega) b1 a0 M hb1 (mv_bindE h)) (fun r2 M3 h => ?_)
  refine mv_if_eq 39 dX2_thingFor_8 (by decide) (fun z => ?_) (fun z => ?_)
  · replace h := mv_ifT z h
    refine mv_sub [0, 1, 2] rfl ?_
    exact zX2_thingFor_39 hd a0 a1 M3 h
  · replace h := mv_ifF z h
    refine mv_aload_n 0 dX2_thingFor_11 rfl ?_
    obtain ⟨b4, eb4, hb4, h⟩ := mv_getpE h
    refine mv_getP b4 fX2_65 (by decide) rfl rfl eb4 dX2_thingFor_12 ?_
    refine mv_getR (b4 + 8) fX2_172 (mv_pN (t := 0) hb4 (by decide)) (by rcases hb4 with rfl | rfl <;> rfl) rfl (by rcases hb4 with rfl | rfl <;> rfl) dX2_thingFor_15 ?_
    refine mv_iload_n 1 dX2_thingFor_18 rfl ?_
    obtain ⟨hi5, h⟩ := mv_chkE h
    refine mv_ild (mv_pN (t := 8) hb4 (by decide)) (by rcases hb4 with rfl | rfl <;> rfl) (mv_inE hi5) dX2_thingFor_19 ?_
    refine mv_iconst 2 dX2_thingFor_20 (by decide) ?_
    refine mv_icmp_ne 39 dX2_thingFor_21 (by decide) (fun z => ?_) (fun z => ?_)
    · replace h := mv_ifF z h
      refine mv_sub [0, 1, 2] rfl ?_
      exact zX2_thingFor_39 hd a0 a1 M3 h
    · replace h := mv_ifT z h
      refine mv_aload_n 0 dX2_thingFor_24 rfl ?_
      refine mv_iload_n 2 dX2_thingFor_25 rfl ?_
      refine mv_aload_n 0 dX2_thingFor_26 rfl ?_
      obtain ⟨b6, eb6, hb6, h⟩ := mv_getpE h
      refine mv_getP b6 fX2_65 (by decide) rfl rfl eb6 dX2_thingFor_27 ?_
      refine mv_getR (b6 + 9) fX2_175 (mv_pN (t := 0) hb6 (by decide)) (by rcases hb6 with rfl | rfl <;> rfl) rfl (by rcases hb6 with rfl | rfl <;> rfl) dX2_thingFor_30 ?_
      refine mv_iload_n 1 dX2_thingFor_33 rfl ?_
      obtain ⟨hi7, h⟩ := mv_chkE h
      refine mv_ild (mv_pN (t := 9) hb6 (by decide)) (by rcases hb6 with rfl | rfl <;> rfl) (mv_inE hi7) dX2_thingFor_34 ?_
      refine mv_cvI (As := [.int a1, .int (M3.1 (b6 + 9) a0.toNatClampNeg)]) (st := []) okX2_thingOf lX2_98 (by decide) rfl rfl rfl (Nat.le_of_ble_eq_true rfl) rfl (Nat.le_of_ble_eq_true rfl) dX2_thingFor_35 (by omega) rfl (zX2_thingOf (d := d - 1) (by omega) a1 (M3.1 (b6 + 9) a0.toNatClampNeg) M3 (mv_bindE h)) (fun r8 M9 h => ?_)
      exact mv_iret rfl dX2_thingFor_38 ⟨_, rfl, h⟩
theorem dX2_goOnLet_0 : decode cX2_goOnLet 0 = .ok (.aload_n 0, 1) := by decide +kernel
theorem dX2_goOnLet_1 : decode cX2_goOnLet 1 = .ok (.getfield 50, 3) := by decide +kernel
theorem dX2_goOnLet_4 : decode cX2_goOnLet 4 = .ok (.iload_n 2, 1) := by decide +kernel
theorem dX2_goOnLet_5 : decode cX2_goOnLet 5 = .ok (.iaload, 1) := by decide +kernel
theorem dX2_goOnLet_6 : decode cX2_goOnLet 6 = .ok (.istore_n 3, 1) := by decide +kernel
theorem dX2_goOnLet_7 : decode cX2_goOnLet 7 = .ok (.aload_n 0, 1) := by decide +kernel
theorem dX2_goOnLet_8 : decode cX2_goOnLet 8 = .ok (.iload_n 2, 1) := by decide +kernel
theorem dX2_goOnLet_9 : decode cX2_goOnLet 9 = .ok (.invokevirtual 202, 3) := by decide +kernel
theorem dX2_goOnLet_12 : decode cX2_goOnLet 12 = .ok (.ifCond .le 12, 3) := by decide +kernel
theorem dX2_goOnLet_15 : decode cX2_goOnLet 15 = .ok (.aload_n 0, 1) := by decide +kernel
theorem dX2_goOnLet_16 : decode cX2_goOnLet 16 = .ok (.aload_n 0, 1) := by decide +kernel
theorem dX2_goOnLet_17 : decode cX2_goOnLet 17 = .ok (.getfield 37, 3) := by decide +kernel
theorem dX2_goOnLet_20 : decode cX2_goOnLet 20 = .ok (.invokevirtual 178, 3) := by decide +kernel
theorem dX2_goOnLet_23 : decode cX2_goOnLet 23 = .ok (.return_, 1) := by decide +kernel
theorem dX2_goOnLet_24 : decode cX2_goOnLet 24 = .ok (.aload_n 0, 1) := by decide +kernel
theorem dX2_goOnLet_25 : decode cX2_goOnLet 25 = .ok (.iload_n 3, 1) := by decide +kernel
theorem dX2_goOnLet_26 : decode cX2_goOnLet 26 = .ok (.aload_n 0, 1) := by decide +kernel
theorem dX2_goOnLet_27 : decode cX2_goOnLet 27 = .ok (.getfield 65, 3) := by decide +kernel
theorem dX2_goOnLet_30 : decode cX2_goOnLet 30 = .ok (.getfield 215, 3) := by decide +kernel
theorem dX2_goOnLet_33 : decode cX2_goOnLet 33 = .ok (.iload_n 1, 1) := by decide +kernel
theorem dX2_goOnLet_34 : decode cX2_goOnLet 34 = .ok (.iaload, 1) := by decide +kernel
theorem dX2_goOnLet_35 : decode cX2_goOnLet 35 = .ok (.aload_n 0, 1) := by decide +kernel
theorem dX2_goOnLet_36 : decode cX2_goOnLet 36 = .ok (.aload_n 0, 1) := by decide +kernel
theorem dX2_goOnLet_37 : decode cX2_goOnLet 37 = .ok (.getfield 65, 3) := by decide +kernel
theorem dX2_goOnLet_40 : decode cX2_goOnLet 40 = .ok (.getfield 175, 3) := by decide +kernel
theorem dX2_goOnLet_43 : decode cX2_goOnLet 43 = .ok (.iload_n 1, 1) := by decide +kernel
theorem dX2_goOnLet_44 : decode cX2_goOnLet 44 = .ok (.iaload, 1) := by decide +kernel
theorem dX2_goOnLet_45 : decode cX2_goOnLet 45 = .ok (.iload_n 3, 1) := by decide +kernel
theorem dX2_goOnLet_46 : decode cX2_goOnLet 46 = .ok (.invokevirtual 218, 3) := by decide +kernel
theorem dX2_goOnLet_49 : decode cX2_goOnLet 49 = .ok (.invokevirtual 77, 3) := by decide +kernel
theorem dX2_goOnLet_52 : decode cX2_goOnLet 52 = .ok (.aload_n 0, 1) := by decide +kernel
theorem dX2_goOnLet_53 : decode cX2_goOnLet 53 = .ok (.getfield 22, 3) := by decide +kernel
theorem dX2_goOnLet_56 : decode cX2_goOnLet 56 = .ok (.ifCond .ne 17, 3) := by decide +kernel
theorem dX2_goOnLet_59 : decode cX2_goOnLet 59 = .ok (.aload_n 0, 1) := by decide +kernel
theorem dX2_goOnLet_60 : decode cX2_goOnLet 60 = .ok (.aload_n 0, 1) := by decide +kernel
theorem dX2_goOnLet_61 : decode cX2_goOnLet 61 = .ok (.getfield 65, 3) := by decide +kernel
theorem dX2_goOnLet_64 : decode cX2_goOnLet 64 = .ok (.getfield 208, 3) := by decide +kernel
theorem dX2_goOnLet_67 : decode cX2_goOnLet 67 = .ok (.iload_n 1, 1) := by decide +kernel
theorem dX2_goOnLet_68 : decode cX2_goOnLet 68 = .ok (.iaload, 1) := by decide +kernel
theorem dX2_goOnLet_69 : decode cX2_goOnLet 69 = .ok (.iload_n 3, 1) := by decide +kernel
theorem dX2_goOnLet_70 : decode cX2_goOnLet 70 = .ok (.invokevirtual 157, 3) := by decide +kernel
theorem dX2_goOnLet_73 : decode cX2_goOnLet 73 = .ok (.return_, 1) := by decide +kernel
noncomputable def fX2_goOnLet (a0 : Int32) (a1 : Int32) (M : mv_M) : Option (Unit × mv_M) :=
  mv_chk (mv_inb a1 150) <|
  mv_let (M.1 52 a1.toNatClampNeg) fun v2 =>
  mv_bind (fX2_nextPhase a1 M) fun r3 M4 =>
  if r3 ≤ 0 then
    mv_getp (M4.2.2 7 6) fun b5 =>
    mv_chk (mv_inb a0 1000) <|
    mv_getp (M4.2.2 7 6) fun b7 =>
    mv_chk (mv_inb a0 1000) <|
    mv_bind (fX2_thingFor (M4.1 (b7 + 9) a0.toNatClampNeg) v2 M4) fun r9 M10 =>
    mv_bind (fX2_bind v2 (M4.1 (b5 + 11) a0.toNatClampNeg) r9 M10) fun _ M11 =>
    if (M11.1 7 2) = 0 then
      mv_getp (M11.2.2 7 6) fun b12 =>
      mv_chk (mv_inb a0 1000) <|
      mv_bind (fX2_enter (M11.1 (b12 + 10) a0.toNatClampNeg) v2 M11) fun _ M14 =>
      some ((), M14)
    else
      some ((), M11)
  else
    mv_bind (fX2_leave (M4.1 7 9) M4) fun _ M15 =>
    some ((), M15)
set_option maxRecDepth 100000 in
set_option maxHeartbeats 4000000 in
theorem zX2_goOnLet {l : Launch} {d : Nat} {Q : Unit → mv_M → Prop} (hd : 3 ≤ d) (a0 : Int32) (a1 : Int32) (M : mv_M) (h : mv_ok (fX2_goOnLet a0 a1 M) Q) : mv l mX2_goOnLet d 0 0 (lv_args 0 [.ref 7, .int a0, .int a1]) [] M (mv_qV Q) := by
  unfold fX2_goOnLet at h
  show mv l mX2_goOnLet d 0 0 [(0, .ref 7), (1, .int a0), (2, .int a1)] [] M (mv_qV Q)
  refine mv_aload_n 0 dX2_goOnLet_0 rfl ?_
  refine mv_getR 52 fX2_50 (by decide) rfl rfl rfl dX2_goOnLet_1 ?_
  refine mv_iload_n 2 dX2_goOnLet_4 rfl ?_
  obtain ⟨hi1, h⟩ := mv_chkE h
  refine mv_ild (by decide) rfl (mv_inE hi1) dX2_goOnLet_5 ?_
  refine mv_topi (fun v2 ev2 => ?_)
  replace h := mv_letE h v2 ev2
  refine mv_istore_n [(3, .int v2), (0, .ref 7), (1, .int a0), (2, .int a1)] dX2_goOnLet_6 (by decide) rfl ?_
  refine mv_aload_n 1 dX2_goOnLet_7 rfl ?_
  refine mv_iload_n 3 dX2_goOnLet_8 rfl ?_
  refine mv_cvI (As := [.int a1]) (st := []) okX2_nextPhase lX2_202 (by decide) rfl rfl rfl (Nat.le_of_ble_eq_true rfl) rfl (Nat.le_of_ble_eq_true rfl) dX2_goOnLet_9 (by omega) rfl (zX2_nextPhase (d := d - 1) (by omega) a1 M (mv_bindE h)) (fun r3 M4 h => ?_)
  refine mv_if_le 24 dX2_goOnLet_12 (by decide) (fun z => ?_) (fun z => ?_)
  · replace h := mv_ifT z h
    refine mv_aload_n 1 dX2_goOnLet_24 rfl ?_
    refine mv_iload_n 0 dX2_goOnLet_25 rfl ?_
    refine mv_aload_n 1 dX2_goOnLet_26 rfl ?_
    obtain ⟨b5, eb5, hb5, h⟩ := mv_getpE h
    refine mv_getP b5 fX2_65 (by decide) rfl rfl eb5 dX2_goOnLet_27 ?_
    refine mv_getR (b5 + 11) fX2_215 (mv_pN (t := 0) hb5 (by decide)) (by rcases hb5 with rfl | rfl <;> rfl) rfl (by rcases hb5 with rfl | rfl <;> rfl) dX2_goOnLet_30 ?_
    refine mv_iload_n 2 dX2_goOnLet_33 rfl ?_
    obtain ⟨hi6, h⟩ := mv_chkE h
    refine mv_ild (mv_pN (t := 11) hb5 (by decide)) (by rcases hb5 with rfl | rfl <;> rfl) (mv_inE hi6) dX2_goOnLet_34 ?_
    refine mv_aload_n 1 dX2_goOnLet_35 rfl ?_
    refine mv_aload_n 1 dX2_goOnLet_36 rfl ?_
    obtain ⟨b7, eb7, hb7, h⟩ := mv_getpE h
    refine mv_getP b7 fX2_65 (by decide) rfl rfl eb7 dX2_goOnLet_37 ?_
    refine mv_getR (b7 + 9) fX2_175 (mv_pN (t := 0) hb7 (by decide)) (by rcases hb7 with rfl | rfl <;> rfl) rfl (by rcases hb7 with rfl | rfl <;> rfl) dX2_goOnLet_40 ?_
    refine mv_iload_n 2 dX2_goOnLet_43 rfl ?_
    obtain ⟨hi8, h⟩ := mv_chkE h
    refine mv_ild (mv_pN (t := 9) hb7 (by decide)) (by rcases hb7 with rfl | rfl <;> rfl) (mv_inE hi8) dX2_goOnLet_44 ?_
    refine mv_iload_n 0 dX2_goOnLet_45 rfl ?_
    refine mv_cvI (As := [.int (M4.1 (b7 + 9) a0.toNatClampNeg), .int v2]) (st := [.int (M4.1 (b5 + 11) a0.toNatClampNeg), .int v2, .ref 7]) okX2_thingFor lX2_218 (by decide) rfl rfl rfl (Nat.le_of_ble_eq_true rfl) rfl (Nat.le_of_ble_eq_true rfl) dX2_goOnLet_46 (by omega) rfl (zX2_thingFor (d := d - 1) (by omega) (M4.1 (b7 + 9) a0.toNatClampNeg) v2 M4 (mv_bindE h)) (fun r9 M10 h => ?_)
    refine mv_cvV (As := [.int v2, .int (M4.1 (b5 + 11) a0.toNatClampNeg), .int r9]) (st := []) okX2_bind lX2_77 (by decide) rfl rfl rfl (Nat.le_of_ble_eq_true rfl) rfl (Nat.le_of_ble_eq_true rfl) dX2_goOnLet_49 (by omega) rfl (zX2_bind (d := d - 1) (by omega) v2 (M4.1 (b5 + 11) a0.toNatClampNeg) r9 M10 (mv_bindE h)) (fun _ M11 h => ?_)
    refine mv_aload_n 1 dX2_goOnLet_52 rfl ?_
    refine mv_getI fX2_22 (by decide) rfl rfl dX2_goOnLet_53 ?_
    refine mv_if_ne 73 dX2_goOnLet_56 (by decide) (fun z => ?_) (fun z => ?_)
    · replace h := mv_ifF z h
      exact mv_vret rfl dX2_goOnLet_73 ⟨rfl, h⟩
    · replace h := mv_ifT z h
      refine mv_aload_n 1 dX2_goOnLet_59 rfl ?_
      refine mv_aload_n 1 dX2_goOnLet_60 rfl ?_
      obtain ⟨b12, eb12, hb12, h⟩ := mv_getpE h
      refine mv_getP b12 fX2_65 (by decide) rfl rfl eb12 dX2_goOnLet_61 ?_
      refine mv_getR (b12 + 10) fX2_208 (mv_pN (t := 0) hb12 (by decide)) (by rcases hb12 with rfl | rfl <;> rfl) rfl (by rcases hb12 with rfl | rfl <;> rfl) dX2_goOnLet_64 ?_
      refine mv_iload_n 2 dX2_goOnLet_67 rfl ?_
      obtain ⟨hi13, h⟩ := mv_chkE h
      refine mv_ild (mv_pN (t := 10) hb12 (by decide)) (by rcases hb12 with rfl | rfl <;> rfl) (mv_inE hi13) dX2_goOnLet_68 ?_
      refine mv_iload_n 0 dX2_goOnLet_69 rfl ?_
      refine mv_cvV (As := [.int (M11.1 (b12 + 10) a0.toNatClampNeg), .int v2]) (st := []) okX2_enter lX2_157 (by decide) rfl rfl rfl (Nat.le_of_ble_eq_true rfl) rfl (Nat.le_of_ble_eq_true rfl) dX2_goOnLet_70 (by omega) rfl (zX2_enter (d := d - 1) (by omega) (M11.1 (b12 + 10) a0.toNatClampNeg) v2 M11 (mv_bindE h)) (fun _ M14 h => ?_)
      exact mv_vret rfl dX2_goOnLet_73 ⟨rfl, h⟩
  · replace h := mv_ifF z h
    refine mv_aload_n 1 dX2_goOnLet_15 rfl ?_
    refine mv_aload_n 1 dX2_goOnLet_16 rfl ?_
    refine mv_getI fX2_37 (by decide) rfl rfl dX2_goOnLet_17 ?_
    refine mv_cvV (As := [.int (M4.1 7 9)]) (st := []) okX2_leave lX2_178 (by decide) rfl rfl rfl (Nat.le_of_ble_eq_true rfl) rfl (Nat.le_of_ble_eq_true rfl) dX2_goOnLet_20 (by omega) rfl (zX2_leave (d := d - 1) (by omega) (M4.1 7 9) M4 (mv_bindE h)) (fun _ M15 h => ?_)
    exact mv_vret rfl dX2_goOnLet_23 ⟨rfl, h⟩
theorem dX2_goOnCase_0 : decode cX2_goOnCase 0 = .ok (.aload_n 0, 1) := by decide +kernel
theorem dX2_goOnCase_1 : decode cX2_goOnCase 1 = .ok (.getfield 50, 3) := by decide +kernel
theorem dX2_goOnCase_4 : decode cX2_goOnCase 4 = .ok (.iload_n 2, 1) := by decide +kernel
theorem dX2_goOnCase_5 : decode cX2_goOnCase 5 = .ok (.iaload, 1) := by decide +kernel
theorem dX2_goOnCase_6 : decode cX2_goOnCase 6 = .ok (.istore_n 3, 1) := by decide +kernel
theorem dX2_goOnCase_7 : decode cX2_goOnCase 7 = .ok (.aload_n 0, 1) := by decide +kernel
theorem dX2_goOnCase_8 : decode cX2_goOnCase 8 = .ok (.iload_n 2, 1) := by decide +kernel
theorem dX2_goOnCase_9 : decode cX2_goOnCase 9 = .ok (.invokevirtual 202, 3) := by decide +kernel
theorem dX2_goOnCase_12 : decode cX2_goOnCase 12 = .ok (.lookupswitch 130 #[(0, 28), (1, 45)], 28) := by decide +kernel
theorem dX2_goOnCase_40 : decode cX2_goOnCase 40 = .ok (.aload_n 0, 1) := by decide +kernel
theorem dX2_goOnCase_41 : decode cX2_goOnCase 41 = .ok (.aload_n 0, 1) := by decide +kernel
theorem dX2_goOnCase_42 : decode cX2_goOnCase 42 = .ok (.getfield 65, 3) := by decide +kernel
theorem dX2_goOnCase_45 : decode cX2_goOnCase 45 = .ok (.getfield 175, 3) := by decide +kernel
theorem dX2_goOnCase_48 : decode cX2_goOnCase 48 = .ok (.iload_n 1, 1) := by decide +kernel
theorem dX2_goOnCase_49 : decode cX2_goOnCase 49 = .ok (.iaload, 1) := by decide +kernel
theorem dX2_goOnCase_50 : decode cX2_goOnCase 50 = .ok (.iload_n 3, 1) := by decide +kernel
theorem dX2_goOnCase_51 : decode cX2_goOnCase 51 = .ok (.invokevirtual 157, 3) := by decide +kernel
theorem dX2_goOnCase_54 : decode cX2_goOnCase 54 = .ok (.goto 96, 3) := by decide +kernel
theorem dX2_goOnCase_57 : decode cX2_goOnCase 57 = .ok (.aload_n 0, 1) := by decide +kernel
theorem dX2_goOnCase_58 : decode cX2_goOnCase 58 = .ok (.getfield 12, 3) := by decide +kernel
theorem dX2_goOnCase_61 : decode cX2_goOnCase 61 = .ok (.aload_n 0, 1) := by decide +kernel
theorem dX2_goOnCase_62 : decode cX2_goOnCase 62 = .ok (.getfield 37, 3) := by decide +kernel
theorem dX2_goOnCase_65 : decode cX2_goOnCase 65 = .ok (.invokevirtual 102, 3) := by decide +kernel
theorem dX2_goOnCase_68 : decode cX2_goOnCase 68 = .ok (.ifCond .eq 57, 3) := by decide +kernel
theorem dX2_goOnCase_71 : decode cX2_goOnCase 71 = .ok (.aload_n 0, 1) := by decide +kernel
theorem dX2_goOnCase_72 : decode cX2_goOnCase 72 = .ok (.iload_n 3, 1) := by decide +kernel
theorem dX2_goOnCase_73 : decode cX2_goOnCase 73 = .ok (.aload_n 0, 1) := by decide +kernel
theorem dX2_goOnCase_74 : decode cX2_goOnCase 74 = .ok (.getfield 65, 3) := by decide +kernel
theorem dX2_goOnCase_77 : decode cX2_goOnCase 77 = .ok (.getfield 215, 3) := by decide +kernel
theorem dX2_goOnCase_80 : decode cX2_goOnCase 80 = .ok (.iload_n 1, 1) := by decide +kernel
theorem dX2_goOnCase_81 : decode cX2_goOnCase 81 = .ok (.iaload, 1) := by decide +kernel
theorem dX2_goOnCase_82 : decode cX2_goOnCase 82 = .ok (.aload_n 0, 1) := by decide +kernel
theorem dX2_goOnCase_83 : decode cX2_goOnCase 83 = .ok (.getfield 12, 3) := by decide +kernel
theorem dX2_goOnCase_86 : decode cX2_goOnCase 86 = .ok (.getfield 131, 3) := by decide +kernel
theorem dX2_goOnCase_89 : decode cX2_goOnCase 89 = .ok (.aload_n 0, 1) := by decide +kernel
theorem dX2_goOnCase_90 : decode cX2_goOnCase 90 = .ok (.getfield 37, 3) := by decide +kernel
theorem dX2_goOnCase_93 : decode cX2_goOnCase 93 = .ok (.iaload, 1) := by decide +kernel
theorem dX2_goOnCase_94 : decode cX2_goOnCase 94 = .ok (.invokevirtual 77, 3) := by decide +kernel
theorem dX2_goOnCase_97 : decode cX2_goOnCase 97 = .ok (.aload_n 0, 1) := by decide +kernel
theorem dX2_goOnCase_98 : decode cX2_goOnCase 98 = .ok (.iload_n 3, 1) := by decide +kernel
theorem dX2_goOnCase_99 : decode cX2_goOnCase 99 = .ok (.aload_n 0, 1) := by decide +kernel
theorem dX2_goOnCase_100 : decode cX2_goOnCase 100 = .ok (.getfield 65, 3) := by decide +kernel
theorem dX2_goOnCase_103 : decode cX2_goOnCase 103 = .ok (.getfield 215, 3) := by decide +kernel
theorem dX2_goOnCase_106 : decode cX2_goOnCase 106 = .ok (.iload_n 1, 1) := by decide +kernel
theorem dX2_goOnCase_107 : decode cX2_goOnCase 107 = .ok (.iaload, 1) := by decide +kernel
theorem dX2_goOnCase_108 : decode cX2_goOnCase 108 = .ok (.iconst 1, 1) := by decide +kernel
theorem dX2_goOnCase_109 : decode cX2_goOnCase 109 = .ok (.iadd, 1) := by decide +kernel
theorem dX2_goOnCase_110 : decode cX2_goOnCase 110 = .ok (.aload_n 0, 1) := by decide +kernel
theorem dX2_goOnCase_111 : decode cX2_goOnCase 111 = .ok (.getfield 12, 3) := by decide +kernel
theorem dX2_goOnCase_114 : decode cX2_goOnCase 114 = .ok (.getfield 134, 3) := by decide +kernel
theorem dX2_goOnCase_117 : decode cX2_goOnCase 117 = .ok (.aload_n 0, 1) := by decide +kernel
theorem dX2_goOnCase_118 : decode cX2_goOnCase 118 = .ok (.getfield 37, 3) := by decide +kernel
theorem dX2_goOnCase_121 : decode cX2_goOnCase 121 = .ok (.iaload, 1) := by decide +kernel
theorem dX2_goOnCase_122 : decode cX2_goOnCase 122 = .ok (.invokevirtual 77, 3) := by decide +kernel
theorem dX2_goOnCase_125 : decode cX2_goOnCase 125 = .ok (.aload_n 0, 1) := by decide +kernel
theorem dX2_goOnCase_126 : decode cX2_goOnCase 126 = .ok (.aload_n 0, 1) := by decide +kernel
theorem dX2_goOnCase_127 : decode cX2_goOnCase 127 = .ok (.getfield 65, 3) := by decide +kernel
theorem dX2_goOnCase_130 : decode cX2_goOnCase 130 = .ok (.getfield 208, 3) := by decide +kernel
theorem dX2_goOnCase_133 : decode cX2_goOnCase 133 = .ok (.iload_n 1, 1) := by decide +kernel
theorem dX2_goOnCase_134 : decode cX2_goOnCase 134 = .ok (.iaload, 1) := by decide +kernel
theorem dX2_goOnCase_135 : decode cX2_goOnCase 135 = .ok (.iload_n 3, 1) := by decide +kernel
theorem dX2_goOnCase_136 : decode cX2_goOnCase 136 = .ok (.invokevirtual 157, 3) := by decide +kernel
theorem dX2_goOnCase_139 : decode cX2_goOnCase 139 = .ok (.goto 11, 3) := by decide +kernel
theorem dX2_goOnCase_142 : decode cX2_goOnCase 142 = .ok (.aload_n 0, 1) := by decide +kernel
theorem dX2_goOnCase_143 : decode cX2_goOnCase 143 = .ok (.aload_n 0, 1) := by decide +kernel
theorem dX2_goOnCase_144 : decode cX2_goOnCase 144 = .ok (.getfield 37, 3) := by decide +kernel
theorem dX2_goOnCase_147 : decode cX2_goOnCase 147 = .ok (.invokevirtual 178, 3) := by decide +kernel
theorem dX2_goOnCase_150 : decode cX2_goOnCase 150 = .ok (.return_, 1) := by decide +kernel
noncomputable def fX2_goOnCase_125 (x1 : Int32) (x3 : Int32) (M : mv_M) : Option (Unit × mv_M) :=
  mv_getp (M.2.2 7 6) fun b21 =>
  mv_chk (mv_inb x1 1000) <|
  mv_bind (fX2_enter (M.1 (b21 + 10) x1.toNatClampNeg) x3 M) fun _ M23 =>
  some ((), M23)
set_option maxRecDepth 100000 in
set_option maxHeartbeats 4000000 in
theorem zX2_goOnCase_125 {l : Launch} {d : Nat} {Q : Unit → mv_M → Prop} (hd : 2 ≤ d) (x1 : Int32) (x3 : Int32) (M : mv_M) (h : mv_ok (fX2_goOnCase_125 x1 x3 M) Q) : mv l mX2_goOnCase d 0 125 [(0, .ref 7), (1, .int x1), (3, .int x3)] [] M (mv_qV Q) := by
  unfold fX2_goOnCase_125 at h
  refine mv_aload_n 0 dX2_goOnCase_125 rfl ?_
  refine mv_aload_n 0 dX2_goOnCase_126 rfl ?_
  obtain ⟨b21, eb21, hb21, h⟩ := mv_getpE h
  refine mv_getP b21 fX2_65 (by decide) rfl rfl eb21 dX2_goOnCase_127 ?_
  refine mv_getR (b21 + 10) fX2_208 (mv_pN (t := 0) hb21 (by decide)) (by rcases hb21 with rfl | rfl <;> rfl) rfl (by rcases hb21 with rfl | rfl <;> rfl) dX2_goOnCase_130 ?_
  refine mv_iload_n 1 dX2_goOnCase_133 rfl ?_
  obtain ⟨hi22, h⟩ := mv_chkE h
  refine mv_ild (mv_pN (t := 10) hb21 (by decide)) (by rcases hb21 with rfl | rfl <;> rfl) (mv_inE hi22) dX2_goOnCase_134 ?_
  refine mv_iload_n 2 dX2_goOnCase_135 rfl ?_
  refine mv_cvV (As := [.int (M.1 (b21 + 10) x1.toNatClampNeg), .int x3]) (st := []) okX2_enter lX2_157 (by decide) rfl rfl rfl (Nat.le_of_ble_eq_true rfl) rfl (Nat.le_of_ble_eq_true rfl) dX2_goOnCase_136 (by omega) rfl (zX2_enter (d := d - 1) (by omega) (M.1 (b21 + 10) x1.toNatClampNeg) x3 M (mv_bindE h)) (fun _ M23 h => ?_)
  refine mv_goto 150 dX2_goOnCase_139 (by decide) ?_
  exact mv_vret rfl dX2_goOnCase_150 ⟨rfl, h⟩
noncomputable def fX2_goOnCase (a0 : Int32) (a1 : Int32) (M : mv_M) : Option (Unit × mv_M) :=
  mv_chk (mv_inb a1 150) <|
  mv_let (M.1 52 a1.toNatClampNeg) fun v2 =>
  mv_bind (fX2_nextPhase a1 M) fun r3 M4 =>
  if r3 = 0 then
    mv_getp (M4.2.2 7 6) fun b6 =>
    mv_chk (mv_inb a0 1000) <|
    mv_bind (fX2_enter (M4.1 (b6 + 9) a0.toNatClampNeg) v2 M4) fun _ M8 =>
    some ((), M8)
  else
    if r3 = 1 then
      mv_bind (fX7_has (M4.1 7 9) M4) fun r10 M11 =>
      if r10 = 0 then
        fX2_goOnCase_125 a0 v2 M11
      else
        mv_getp (M11.2.2 7 6) fun b12 =>
        mv_chk (mv_inb a0 1000) <|
        mv_chk (mv_inb (M11.1 7 9) 1540) <|
        mv_bind (fX2_bind v2 (M11.1 (b12 + 11) a0.toNatClampNeg) (M11.1 60 (M11.1 7 9).toNatClampNeg) M11) fun _ M15 =>
        mv_getp (M15.2.2 7 6) fun b16 =>
        mv_chk (mv_inb a0 1000) <|
        mv_chk (mv_inb (M15.1 7 9) 1540) <|
        mv_bind (fX2_bind v2 ((M15.1 (b16 + 11) a0.toNatClampNeg) + 1) (M15.1 61 (M15.1 7 9).toNatClampNeg) M15) fun _ M19 =>
        fX2_goOnCase_125 a0 v2 M19
    else
      mv_bind (fX2_leave (M4.1 7 9) M4) fun _ M20 =>
      some ((), M20)
set_option maxRecDepth 100000 in
set_option maxHeartbeats 4000000 in
theorem zX2_goOnCase {l : Launch} {d : Nat} {Q : Unit → mv_M → Prop} (hd : 2 ≤ d) (a0 : Int32) (a1 : Int32) (M : mv_M) (h : mv_ok (fX2_goOnCase a0 a1 M) Q) : mv l mX2_goOnCase d 0 0 (lv_args 0 [.ref 7, .int a0, .int a1]) [] M (mv_qV Q) := by
  unfold fX2_goOnCase at h
  show mv l mX2_goOnCase d 0 0 [(0, .ref 7), (1, .int a0), (2, .int a1)] [] M (mv_qV Q)
  refine mv_aload_n 0 dX2_goOnCase_0 rfl ?_
  refine mv_getR 52 fX2_50 (by decide) rfl rfl rfl dX2_goOnCase_1 ?_
  refine mv_iload_n 2 dX2_goOnCase_4 rfl ?_
  obtain ⟨hi1, h⟩ := mv_chkE h
  refine mv_ild (by decide) rfl (mv_inE hi1) dX2_goOnCase_5 ?_
  refine mv_topi (fun v2 ev2 => ?_)
  replace h := mv_letE h v2 ev2
  refine mv_istore_n [(3, .int v2), (0, .ref 7), (1, .int a0), (2, .int a1)] dX2_goOnCase_6 (by decide) rfl ?_
  refine mv_aload_n 1 dX2_goOnCase_7 rfl ?_
  refine mv_iload_n 3 dX2_goOnCase_8 rfl ?_
  refine mv_cvI (As := [.int a1]) (st := []) okX2_nextPhase lX2_202 (by decide) rfl rfl rfl (Nat.le_of_ble_eq_true rfl) rfl (Nat.le_of_ble_eq_true rfl) dX2_goOnCase_9 (by omega) rfl (zX2_nextPhase (d := d - 1) (by omega) a1 M (mv_bindE h)) (fun r3 M4 h => ?_)
  by_cases z5 : r3 = 0
  · replace h := mv_ifT z5 h
    refine mv_lookup (off := 28) 40 dX2_goOnCase_12 (by decide) (mv_swc (mv_eqv z5 (by decide))) (by decide) ?_
    refine mv_aload_n 1 dX2_goOnCase_40 rfl ?_
    refine mv_aload_n 1 dX2_goOnCase_41 rfl ?_
    obtain ⟨b6, eb6, hb6, h⟩ := mv_getpE h
    refine mv_getP b6 fX2_65 (by decide) rfl rfl eb6 dX2_goOnCase_42 ?_
    refine mv_getR (b6 + 9) fX2_175 (mv_pN (t := 0) hb6 (by decide)) (by rcases hb6 with rfl | rfl <;> rfl) rfl (by rcases hb6 with rfl | rfl <;> rfl) dX2_goOnCase_45 ?_
    refine mv_iload_n 2 dX2_goOnCase_48 rfl ?_
    obtain ⟨hi7, h⟩ := mv_chkE h
    refine mv_ild (mv_pN (t := 9) hb6 (by decide)) (by rcases hb6 with rfl | rfl <;> rfl) (mv_inE hi7) dX2_goOnCase_49 ?_
    refine mv_iload_n 0 dX2_goOnCase_50 rfl ?_
    refine mv_cvV (As := [.int (M4.1 (b6 + 9) a0.toNatClampNeg), .int v2]) (st := []) okX2_enter lX2_157 (by decide) rfl rfl rfl (Nat.le_of_ble_eq_true rfl) rfl (Nat.le_of_ble_eq_true rfl) dX2_goOnCase_51 (by omega) rfl (zX2_enter (d := d - 1) (by omega) (M4.1 (b6 + 9) a0.toNatClampNeg) v2 M4 (mv_bindE h)) (fun _ M8 h => ?_)
    refine mv_goto 150 dX2_goOnCase_54 (by decide) ?_
    exact mv_vret rfl dX2_goOnCase_150 ⟨rfl, h⟩
  · replace h := mv_ifF z5 h
    by_cases z9 : r3 = 1
    · replace h := mv_ifT z9 h
      refine mv_lookup (off := 45) 57 dX2_goOnCase_12 (by decide) (mv_swn (mv_ne 0 (by decide) z5) (mv_swc (mv_eqv z9 (by decide)))) (by decide) ?_
      refine mv_aload_n 1 dX2_goOnCase_57 rfl ?_
      refine mv_getR 8 fX2_12 (by decide) rfl rfl rfl dX2_goOnCase_58 ?_
      refine mv_aload_n 1 dX2_goOnCase_61 rfl ?_
      refine mv_getI fX2_37 (by decide) rfl rfl dX2_goOnCase_62 ?_
      refine mv_cvI (As := [.int (M4.1 7 9)]) (st := []) okX7_has lX2_102 (by decide) rfl rfl rfl (Nat.le_of_ble_eq_true rfl) rfl (Nat.le_of_ble_eq_true rfl) dX2_goOnCase_65 (by omega) rfl (zX7_has (d := d - 1) (by omega) (M4.1 7 9) M4 (mv_bindE h)) (fun r10 M11 h => ?_)
      refine mv_if_eq 125 dX2_goOnCase_68 (by decide) (fun z => ?_) (fun z => ?_)
      · replace h := mv_ifT z h
        refine mv_sub [1, 2, 0] rfl ?_
        exact zX2_goOnCase_125 hd a0 v2 M11 h
      · replace h := mv_ifF z h
        refine mv_aload_n 1 dX2_goOnCase_71 rfl ?_
        refine mv_iload_n 0 dX2_goOnCase_72 rfl ?_
        refine mv_aload_n 1 dX2_goOnCase_73 rfl ?_
        obtain ⟨b12, eb12, hb12, h⟩ := mv_getpE h
        refine mv_getP b12 fX2_65 (by decide) rfl rfl eb12 dX2_goOnCase_74 ?_
        refine mv_getR (b12 + 11) fX2_215 (mv_pN (t := 0) hb12 (by decide)) (by rcases hb12 with rfl | rfl <;> rfl) rfl (by rcases hb12 with rfl | rfl <;> rfl) dX2_goOnCase_77 ?_
        refine mv_iload_n 2 dX2_goOnCase_80 rfl ?_
        obtain ⟨hi13, h⟩ := mv_chkE h
        refine mv_ild (mv_pN (t := 11) hb12 (by decide)) (by rcases hb12 with rfl | rfl <;> rfl) (mv_inE hi13) dX2_goOnCase_81 ?_
        refine mv_aload_n 1 dX2_goOnCase_82 rfl ?_
        refine mv_getR 8 fX2_12 (by decide) rfl rfl rfl dX2_goOnCase_83 ?_
        refine mv_getR 60 fX2_131 (by decide) rfl rfl rfl dX2_goOnCase_86 ?_
        refine mv_aload_n 1 dX2_goOnCase_89 rfl ?_
        refine mv_getI fX2_37 (by decide) rfl rfl dX2_goOnCase_90 ?_
        obtain ⟨hi14, h⟩ := mv_chkE h
        refine mv_ild (by decide) rfl (mv_inE hi14) dX2_goOnCase_93 ?_
        refine mv_cvV (As := [.int v2, .int (M11.1 (b12 + 11) a0.toNatClampNeg), .int (M11.1 60 (M11.1 7 9).toNatClampNeg)]) (st := []) okX2_bind lX2_77 (by decide) rfl rfl rfl (Nat.le_of_ble_eq_true rfl) rfl (Nat.le_of_ble_eq_true rfl) dX2_goOnCase_94 (by omega) rfl (zX2_bind (d := d - 1) (by omega) v2 (M11.1 (b12 + 11) a0.toNatClampNeg) (M11.1 60 (M11.1 7 9).toNatClampNeg) M11 (mv_bindE h)) (fun _ M15 h => ?_)
        refine mv_aload_n 1 dX2_goOnCase_97 rfl ?_
        refine mv_iload_n 0 dX2_goOnCase_98 rfl ?_
        refine mv_aload_n 1 dX2_goOnCase_99 rfl ?_
        obtain ⟨b16, eb16, hb16, h⟩ := mv_getpE h
        refine mv_getP b16 fX2_65 (by decide) rfl rfl eb16 dX2_goOnCase_100 ?_
        refine mv_getR (b16 + 11) fX2_215 (mv_pN (t := 0) hb16 (by decide)) (by rcases hb16 with rfl | rfl <;> rfl) rfl (by rcases hb16 with rfl | rfl <;> rfl) dX2_goOnCase_103 ?_
        refine mv_iload_n 2 dX2_goOnCase_106 rfl ?_
        obtain ⟨hi17, h⟩ := mv_chkE h
        refine mv_ild (mv_pN (t := 11) hb16 (by decide)) (by rcases hb16 with rfl | rfl <;> rfl) (mv_inE hi17) dX2_goOnCase_107 ?_
        refine mv_iconst 1 dX2_goOnCase_108 (by decide) ?_
        refine mv_iadd dX2_goOnCase_109 ?_
        refine mv_aload_n 1 dX2_goOnCase_110 rfl ?_
        refine mv_getR 8 fX2_12 (by decide) rfl rfl rfl dX2_goOnCase_111 ?_
        refine mv_getR 61 fX2_134 (by decide) rfl rfl rfl dX2_goOnCase_114 ?_
        refine mv_aload_n 1 dX2_goOnCase_117 rfl ?_
        refine mv_getI fX2_37 (by decide) rfl rfl dX2_goOnCase_118 ?_
        obtain ⟨hi18, h⟩ := mv_chkE h
        refine mv_ild (by decide) rfl (mv_inE hi18) dX2_goOnCase_121 ?_
        refine mv_cvV (As := [.int v2, .int ((M15.1 (b16 + 11) a0.toNatClampNeg) + 1), .int (M15.1 61 (M15.1 7 9).toNatClampNeg)]) (st := []) okX2_bind lX2_77 (by decide) rfl rfl rfl (Nat.le_of_ble_eq_true rfl) rfl (Nat.le_of_ble_eq_true rfl) dX2_goOnCase_122 (by omega) rfl (zX2_bind (d := d - 1) (by omega) v2 ((M15.1 (b16 + 11) a0.toNatClampNeg) + 1) (M15.1 61 (M15.1 7 9).toNatClampNeg) M15 (mv_bindE h)) (fun _ M19 h => ?_)
        refine mv_sub [1, 2, 0] rfl ?_
        exact zX2_goOnCase_125 hd a0 v2 M19 h
    · replace h := mv_ifF z9 h
      refine mv_lookup (off := 130) 142 dX2_goOnCase_12 (by decide) (mv_swn (mv_ne 0 (by decide) z5) (mv_swn (mv_ne 1 (by decide) z9) rfl)) (by decide) ?_
      refine mv_aload_n 1 dX2_goOnCase_142 rfl ?_
      refine mv_aload_n 1 dX2_goOnCase_143 rfl ?_
      refine mv_getI fX2_37 (by decide) rfl rfl dX2_goOnCase_144 ?_
      refine mv_cvV (As := [.int (M4.1 7 9)]) (st := []) okX2_leave lX2_178 (by decide) rfl rfl rfl (Nat.le_of_ble_eq_true rfl) rfl (Nat.le_of_ble_eq_true rfl) dX2_goOnCase_147 (by omega) rfl (zX2_leave (d := d - 1) (by omega) (M4.1 7 9) M4 (mv_bindE h)) (fun _ M20 h => ?_)
      exact mv_vret rfl dX2_goOnCase_150 ⟨rfl, h⟩
theorem dX2_makePair_0 : decode cX2_makePair 0 = .ok (.aload_n 0, 1) := by decide +kernel
theorem dX2_makePair_1 : decode cX2_makePair 1 = .ok (.getfield 12, 3) := by decide +kernel
theorem dX2_makePair_4 : decode cX2_makePair 4 = .ok (.invokevirtual 221, 3) := by decide +kernel
theorem dX2_makePair_7 : decode cX2_makePair 7 = .ok (.istore_n 3, 1) := by decide +kernel
theorem dX2_makePair_8 : decode cX2_makePair 8 = .ok (.iload_n 3, 1) := by decide +kernel
theorem dX2_makePair_9 : decode cX2_makePair 9 = .ok (.iconst (-1), 1) := by decide +kernel
theorem dX2_makePair_10 : decode cX2_makePair 10 = .ok (.if_icmp .ne 9, 3) := by decide +kernel
theorem dX2_makePair_13 : decode cX2_makePair 13 = .ok (.aload_n 0, 1) := by decide +kernel
theorem dX2_makePair_14 : decode cX2_makePair 14 = .ok (.iconst 5, 1) := by decide +kernel
theorem dX2_makePair_15 : decode cX2_makePair 15 = .ok (.putfield 22, 3) := by decide +kernel
theorem dX2_makePair_18 : decode cX2_makePair 18 = .ok (.return_, 1) := by decide +kernel
theorem dX2_makePair_19 : decode cX2_makePair 19 = .ok (.aload_n 0, 1) := by decide +kernel
theorem dX2_makePair_20 : decode cX2_makePair 20 = .ok (.getfield 12, 3) := by decide +kernel
theorem dX2_makePair_23 : decode cX2_makePair 23 = .ok (.getfield 131, 3) := by decide +kernel
theorem dX2_makePair_26 : decode cX2_makePair 26 = .ok (.iload_n 3, 1) := by decide +kernel
theorem dX2_makePair_27 : decode cX2_makePair 27 = .ok (.aload_n 0, 1) := by decide +kernel
theorem dX2_makePair_28 : decode cX2_makePair 28 = .ok (.aload_n 0, 1) := by decide +kernel
theorem dX2_makePair_29 : decode cX2_makePair 29 = .ok (.getfield 65, 3) := by decide +kernel
theorem dX2_makePair_32 : decode cX2_makePair 32 = .ok (.getfield 175, 3) := by decide +kernel
theorem dX2_makePair_35 : decode cX2_makePair 35 = .ok (.iload_n 1, 1) := by decide +kernel
theorem dX2_makePair_36 : decode cX2_makePair 36 = .ok (.iaload, 1) := by decide +kernel
theorem dX2_makePair_37 : decode cX2_makePair 37 = .ok (.iload_n 2, 1) := by decide +kernel
theorem dX2_makePair_38 : decode cX2_makePair 38 = .ok (.invokevirtual 218, 3) := by decide +kernel
theorem dX2_makePair_41 : decode cX2_makePair 41 = .ok (.iastore, 1) := by decide +kernel
theorem dX2_makePair_42 : decode cX2_makePair 42 = .ok (.aload_n 0, 1) := by decide +kernel
theorem dX2_makePair_43 : decode cX2_makePair 43 = .ok (.getfield 12, 3) := by decide +kernel
theorem dX2_makePair_46 : decode cX2_makePair 46 = .ok (.getfield 134, 3) := by decide +kernel
theorem dX2_makePair_49 : decode cX2_makePair 49 = .ok (.iload_n 3, 1) := by decide +kernel
theorem dX2_makePair_50 : decode cX2_makePair 50 = .ok (.aload_n 0, 1) := by decide +kernel
theorem dX2_makePair_51 : decode cX2_makePair 51 = .ok (.aload_n 0, 1) := by decide +kernel
theorem dX2_makePair_52 : decode cX2_makePair 52 = .ok (.getfield 65, 3) := by decide +kernel
theorem dX2_makePair_55 : decode cX2_makePair 55 = .ok (.getfield 208, 3) := by decide +kernel
theorem dX2_makePair_58 : decode cX2_makePair 58 = .ok (.iload_n 1, 1) := by decide +kernel
theorem dX2_makePair_59 : decode cX2_makePair 59 = .ok (.iaload, 1) := by decide +kernel
theorem dX2_makePair_60 : decode cX2_makePair 60 = .ok (.iload_n 2, 1) := by decide +kernel
theorem dX2_makePair_61 : decode cX2_makePair 61 = .ok (.invokevirtual 218, 3) := by decide +kernel
theorem dX2_makePair_64 : decode cX2_makePair 64 = .ok (.iastore, 1) := by decide +kernel
theorem dX2_makePair_65 : decode cX2_makePair 65 = .ok (.aload_n 0, 1) := by decide +kernel
theorem dX2_makePair_66 : decode cX2_makePair 66 = .ok (.iload_n 3, 1) := by decide +kernel
theorem dX2_makePair_67 : decode cX2_makePair 67 = .ok (.invokevirtual 178, 3) := by decide +kernel
theorem dX2_makePair_70 : decode cX2_makePair 70 = .ok (.return_, 1) := by decide +kernel
noncomputable def fX2_makePair (a0 : Int32) (a1 : Int32) (M : mv_M) : Option (Unit × mv_M) :=
  mv_bind (fX7_addPair M) fun r1 M2 =>
  if r1 = (-1) then
    mv_let (mv_si M2 7 2 5) fun M16 =>
    some ((), M16)
  else
    mv_getp (M2.2.2 7 6) fun b3 =>
    mv_chk (mv_inb a0 1000) <|
    mv_bind (fX2_thingFor (M2.1 (b3 + 9) a0.toNatClampNeg) a1 M2) fun r5 M6 =>
    mv_chk (mv_inb r1 1540) <|
    mv_let (mv_si M6 60 r1.toNatClampNeg r5) fun M8 =>
    mv_getp (M8.2.2 7 6) fun b9 =>
    mv_chk (mv_inb a0 1000) <|
    mv_bind (fX2_thingFor (M8.1 (b9 + 10) a0.toNatClampNeg) a1 M8) fun r11 M12 =>
    mv_chk (mv_inb r1 1540) <|
    mv_let (mv_si M12 61 r1.toNatClampNeg r11) fun M14 =>
    mv_bind (fX2_leave r1 M14) fun _ M15 =>
    some ((), M15)
set_option maxRecDepth 100000 in
set_option maxHeartbeats 4000000 in
theorem zX2_makePair {l : Launch} {d : Nat} {Q : Unit → mv_M → Prop} (hd : 3 ≤ d) (a0 : Int32) (a1 : Int32) (M : mv_M) (h : mv_ok (fX2_makePair a0 a1 M) Q) : mv l mX2_makePair d 0 0 (lv_args 0 [.ref 7, .int a0, .int a1]) [] M (mv_qV Q) := by
  unfold fX2_makePair at h
  show mv l mX2_makePair d 0 0 [(0, .ref 7), (1, .int a0), (2, .int a1)] [] M (mv_qV Q)
  refine mv_aload_n 0 dX2_makePair_0 rfl ?_
  refine mv_getR 8 fX2_12 (by decide) rfl rfl rfl dX2_makePair_1 ?_
  refine mv_cvI (As := []) (st := []) okX7_addPair lX2_221 (by decide) rfl rfl rfl (Nat.le_of_ble_eq_true rfl) rfl (Nat.le_of_ble_eq_true rfl) dX2_makePair_4 (by omega) rfl (zX7_addPair (d := d - 1) (by omega) M (mv_bindE h)) (fun r1 M2 h => ?_)
  refine mv_istore_n [(3, .int r1), (0, .ref 7), (1, .int a0), (2, .int a1)] dX2_makePair_7 (by decide) rfl ?_
  refine mv_iload_n 0 dX2_makePair_8 rfl ?_
  refine mv_iconst (-1) dX2_makePair_9 (by decide) ?_
  refine mv_icmp_ne 19 dX2_makePair_10 (by decide) (fun z => ?_) (fun z => ?_)
  · replace h := mv_ifF z h
    refine mv_aload_n 1 dX2_makePair_19 rfl ?_
    refine mv_getR 8 fX2_12 (by decide) rfl rfl rfl dX2_makePair_20 ?_
    refine mv_getR 60 fX2_131 (by decide) rfl rfl rfl dX2_makePair_23 ?_
    refine mv_iload_n 0 dX2_makePair_26 rfl ?_
    refine mv_aload_n 1 dX2_makePair_27 rfl ?_
    refine mv_aload_n 1 dX2_makePair_28 rfl ?_
    obtain ⟨b3, eb3, hb3, h⟩ := mv_getpE h
    refine mv_getP b3 fX2_65 (by decide) rfl rfl eb3 dX2_makePair_29 ?_
    refine mv_getR (b3 + 9) fX2_175 (mv_pN (t := 0) hb3 (by decide)) (by rcases hb3 with rfl | rfl <;> rfl) rfl (by rcases hb3 with rfl | rfl <;> rfl) dX2_makePair_32 ?_
    refine mv_iload_n 2 dX2_makePair_35 rfl ?_
    obtain ⟨hi4, h⟩ := mv_chkE h
    refine mv_ild (mv_pN (t := 9) hb3 (by decide)) (by rcases hb3 with rfl | rfl <;> rfl) (mv_inE hi4) dX2_makePair_36 ?_
    refine mv_iload_n 3 dX2_makePair_37 rfl ?_
    refine mv_cvI (As := [.int (M2.1 (b3 + 9) a0.toNatClampNeg), .int a1]) (st := [.int r1, .ref 60]) okX2_thingFor lX2_218 (by decide) rfl rfl rfl (Nat.le_of_ble_eq_true rfl) rfl (Nat.le_of_ble_eq_true rfl) dX2_makePair_38 (by omega) rfl (zX2_thingFor (d := d - 1) (by omega) (M2.1 (b3 + 9) a0.toNatClampNeg) a1 M2 (mv_bindE h)) (fun r5 M6 h => ?_)
    obtain ⟨hi7, h⟩ := mv_chkE h
    refine mv_ist (by decide) rfl (mv_inE hi7) dX2_makePair_41 (fun M8 eM8 => ?_)
    replace h := mv_letE h M8 eM8
    refine mv_aload_n 1 dX2_makePair_42 rfl ?_
    refine mv_getR 8 fX2_12 (by decide) rfl rfl rfl dX2_makePair_43 ?_
    refine mv_getR 61 fX2_134 (by decide) rfl rfl rfl dX2_makePair_46 ?_
    refine mv_iload_n 0 dX2_makePair_49 rfl ?_
    refine mv_aload_n 1 dX2_makePair_50 rfl ?_
    refine mv_aload_n 1 dX2_makePair_51 rfl ?_
    obtain ⟨b9, eb9, hb9, h⟩ := mv_getpE h
    refine mv_getP b9 fX2_65 (by decide) rfl rfl eb9 dX2_makePair_52 ?_
    refine mv_getR (b9 + 10) fX2_208 (mv_pN (t := 0) hb9 (by decide)) (by rcases hb9 with rfl | rfl <;> rfl) rfl (by rcases hb9 with rfl | rfl <;> rfl) dX2_makePair_55 ?_
    refine mv_iload_n 2 dX2_makePair_58 rfl ?_
    obtain ⟨hi10, h⟩ := mv_chkE h
    refine mv_ild (mv_pN (t := 10) hb9 (by decide)) (by rcases hb9 with rfl | rfl <;> rfl) (mv_inE hi10) dX2_makePair_59 ?_
    refine mv_iload_n 3 dX2_makePair_60 rfl ?_
    refine mv_cvI (As := [.int (M8.1 (b9 + 10) a0.toNatClampNeg), .int a1]) (st := [.int r1, .ref 61]) okX2_thingFor lX2_218 (by decide) rfl rfl rfl (Nat.le_of_ble_eq_true rfl) rfl (Nat.le_of_ble_eq_true rfl) dX2_makePair_61 (by omega) rfl (zX2_thingFor (d := d - 1) (by omega) (M8.1 (b9 + 10) a0.toNatClampNeg) a1 M8 (mv_bindE h)) (fun r11 M12 h => ?_)
    obtain ⟨hi13, h⟩ := mv_chkE h
    refine mv_ist (by decide) rfl (mv_inE hi13) dX2_makePair_64 (fun M14 eM14 => ?_)
    replace h := mv_letE h M14 eM14
    refine mv_aload_n 1 dX2_makePair_65 rfl ?_
    refine mv_iload_n 0 dX2_makePair_66 rfl ?_
    refine mv_cvV (As := [.int r1]) (st := []) okX2_leave lX2_178 (by decide) rfl rfl rfl (Nat.le_of_ble_eq_true rfl) rfl (Nat.le_of_ble_eq_true rfl) dX2_makePair_67 (by omega) rfl (zX2_leave (d := d - 1) (by omega) r1 M14 (mv_bindE h)) (fun _ M15 h => ?_)
    exact mv_vret rfl dX2_makePair_70 ⟨rfl, h⟩
  · replace h := mv_ifT z h
    refine mv_aload_n 1 dX2_makePair_13 rfl ?_
    refine mv_iconst 5 dX2_makePair_14 (by decide) ?_
    refine mv_putI fX2_22 (by decide) rfl rfl dX2_makePair_15 (fun M16 eM16 => ?_)
    replace h := mv_letE h M16 eM16
    exact mv_vret rfl dX2_makePair_18 ⟨rfl, h⟩
theorem dX2_goOnCall_0 : decode cX2_goOnCall 0 = .ok (.aload_n 0, 1) := by decide +kernel
theorem dX2_goOnCall_1 : decode cX2_goOnCall 1 = .ok (.iload_n 2, 1) := by decide +kernel
theorem dX2_goOnCall_2 : decode cX2_goOnCall 2 = .ok (.invokevirtual 202, 3) := by decide +kernel
theorem dX2_goOnCall_5 : decode cX2_goOnCall 5 = .ok (.ifCond .le 12, 3) := by decide +kernel
theorem dX2_goOnCall_8 : decode cX2_goOnCall 8 = .ok (.aload_n 0, 1) := by decide +kernel
theorem dX2_goOnCall_9 : decode cX2_goOnCall 9 = .ok (.aload_n 0, 1) := by decide +kernel
theorem dX2_goOnCall_10 : decode cX2_goOnCall 10 = .ok (.getfield 37, 3) := by decide +kernel
theorem dX2_goOnCall_13 : decode cX2_goOnCall 13 = .ok (.invokevirtual 178, 3) := by decide +kernel
theorem dX2_goOnCall_16 : decode cX2_goOnCall 16 = .ok (.return_, 1) := by decide +kernel
theorem dX2_goOnCall_17 : decode cX2_goOnCall 17 = .ok (.aload_n 0, 1) := by decide +kernel
theorem dX2_goOnCall_18 : decode cX2_goOnCall 18 = .ok (.getfield 28, 3) := by decide +kernel
theorem dX2_goOnCall_21 : decode cX2_goOnCall 21 = .ok (.sipush 1500, 3) := by decide +kernel
theorem dX2_goOnCall_24 : decode cX2_goOnCall 24 = .ok (.if_icmp .ge 22, 3) := by decide +kernel
theorem dX2_goOnCall_27 : decode cX2_goOnCall 27 = .ok (.aload_n 0, 1) := by decide +kernel
theorem dX2_goOnCall_28 : decode cX2_goOnCall 28 = .ok (.getfield 65, 3) := by decide +kernel
theorem dX2_goOnCall_31 : decode cX2_goOnCall 31 = .ok (.aload_n 0, 1) := by decide +kernel
theorem dX2_goOnCall_32 : decode cX2_goOnCall 32 = .ok (.getfield 65, 3) := by decide +kernel
theorem dX2_goOnCall_35 : decode cX2_goOnCall 35 = .ok (.getfield 175, 3) := by decide +kernel
theorem dX2_goOnCall_38 : decode cX2_goOnCall 38 = .ok (.iload_n 1, 1) := by decide +kernel
theorem dX2_goOnCall_39 : decode cX2_goOnCall 39 = .ok (.iaload, 1) := by decide +kernel
theorem dX2_goOnCall_40 : decode cX2_goOnCall 40 = .ok (.invokevirtual 225, 3) := by decide +kernel
theorem dX2_goOnCall_43 : decode cX2_goOnCall 43 = .ok (.ifCond .ne 9, 3) := by decide +kernel
theorem dX2_goOnCall_46 : decode cX2_goOnCall 46 = .ok (.aload_n 0, 1) := by decide +kernel
theorem dX2_goOnCall_47 : decode cX2_goOnCall 47 = .ok (.iconst 5, 1) := by decide +kernel
theorem dX2_goOnCall_48 : decode cX2_goOnCall 48 = .ok (.putfield 22, 3) := by decide +kernel
theorem dX2_goOnCall_51 : decode cX2_goOnCall 51 = .ok (.return_, 1) := by decide +kernel
theorem dX2_goOnCall_52 : decode cX2_goOnCall 52 = .ok (.aload_n 0, 1) := by decide +kernel
theorem dX2_goOnCall_53 : decode cX2_goOnCall 53 = .ok (.dup, 1) := by decide +kernel
theorem dX2_goOnCall_54 : decode cX2_goOnCall 54 = .ok (.getfield 28, 3) := by decide +kernel
theorem dX2_goOnCall_57 : decode cX2_goOnCall 57 = .ok (.iconst 1, 1) := by decide +kernel
theorem dX2_goOnCall_58 : decode cX2_goOnCall 58 = .ok (.iadd, 1) := by decide +kernel
theorem dX2_goOnCall_59 : decode cX2_goOnCall 59 = .ok (.putfield 28, 3) := by decide +kernel
theorem dX2_goOnCall_62 : decode cX2_goOnCall 62 = .ok (.aload_n 0, 1) := by decide +kernel
theorem dX2_goOnCall_63 : decode cX2_goOnCall 63 = .ok (.getfield 28, 3) := by decide +kernel
theorem dX2_goOnCall_66 : decode cX2_goOnCall 66 = .ok (.istore_n 3, 1) := by decide +kernel
theorem dX2_goOnCall_67 : decode cX2_goOnCall 67 = .ok (.aload_n 0, 1) := by decide +kernel
theorem dX2_goOnCall_68 : decode cX2_goOnCall 68 = .ok (.getfield 65, 3) := by decide +kernel
theorem dX2_goOnCall_71 : decode cX2_goOnCall 71 = .ok (.getfield 208, 3) := by decide +kernel
theorem dX2_goOnCall_74 : decode cX2_goOnCall 74 = .ok (.iload_n 1, 1) := by decide +kernel
theorem dX2_goOnCall_75 : decode cX2_goOnCall 75 = .ok (.iaload, 1) := by decide +kernel
theorem dX2_goOnCall_76 : decode cX2_goOnCall 76 = .ok (.istore 4, 2) := by decide +kernel
theorem dX2_goOnCall_78 : decode cX2_goOnCall 78 = .ok (.iconst 0, 1) := by decide +kernel
theorem dX2_goOnCall_79 : decode cX2_goOnCall 79 = .ok (.istore 5, 2) := by decide +kernel
theorem dX2_goOnCall_81 : decode cX2_goOnCall 81 = .ok (.iload 5, 2) := by decide +kernel
theorem dX2_goOnCall_83 : decode cX2_goOnCall 83 = .ok (.aload_n 0, 1) := by decide +kernel
theorem dX2_goOnCall_84 : decode cX2_goOnCall 84 = .ok (.getfield 65, 3) := by decide +kernel
theorem dX2_goOnCall_87 : decode cX2_goOnCall 87 = .ok (.getfield 215, 3) := by decide +kernel
theorem dX2_goOnCall_90 : decode cX2_goOnCall 90 = .ok (.iload_n 1, 1) := by decide +kernel
theorem dX2_goOnCall_91 : decode cX2_goOnCall 91 = .ok (.iaload, 1) := by decide +kernel
theorem dX2_goOnCall_92 : decode cX2_goOnCall 92 = .ok (.if_icmp .ge 52, 3) := by decide +kernel
theorem dX2_goOnCall_95 : decode cX2_goOnCall 95 = .ok (.aload_n 0, 1) := by decide +kernel
theorem dX2_goOnCall_96 : decode cX2_goOnCall 96 = .ok (.getfield 65, 3) := by decide +kernel
theorem dX2_goOnCall_99 : decode cX2_goOnCall 99 = .ok (.iload 4, 2) := by decide +kernel
theorem dX2_goOnCall_101 : decode cX2_goOnCall 101 = .ok (.invokevirtual 169, 3) := by decide +kernel
theorem dX2_goOnCall_104 : decode cX2_goOnCall 104 = .ok (.ifCond .eq 40, 3) := by decide +kernel
theorem dX2_goOnCall_107 : decode cX2_goOnCall 107 = .ok (.aload_n 0, 1) := by decide +kernel
theorem dX2_goOnCall_108 : decode cX2_goOnCall 108 = .ok (.iload_n 3, 1) := by decide +kernel
theorem dX2_goOnCall_109 : decode cX2_goOnCall 109 = .ok (.iload 5, 2) := by decide +kernel
theorem dX2_goOnCall_111 : decode cX2_goOnCall 111 = .ok (.aload_n 0, 1) := by decide +kernel
theorem dX2_goOnCall_112 : decode cX2_goOnCall 112 = .ok (.iload 4, 2) := by decide +kernel
theorem dX2_goOnCall_114 : decode cX2_goOnCall 114 = .ok (.aload_n 0, 1) := by decide +kernel
theorem dX2_goOnCall_115 : decode cX2_goOnCall 115 = .ok (.getfield 50, 3) := by decide +kernel
theorem dX2_goOnCall_118 : decode cX2_goOnCall 118 = .ok (.iload_n 2, 1) := by decide +kernel
theorem dX2_goOnCall_119 : decode cX2_goOnCall 119 = .ok (.iaload, 1) := by decide +kernel
theorem dX2_goOnCall_120 : decode cX2_goOnCall 120 = .ok (.invokevirtual 218, 3) := by decide +kernel
theorem dX2_goOnCall_123 : decode cX2_goOnCall 123 = .ok (.invokevirtual 77, 3) := by decide +kernel
theorem dX2_goOnCall_126 : decode cX2_goOnCall 126 = .ok (.aload_n 0, 1) := by decide +kernel
theorem dX2_goOnCall_127 : decode cX2_goOnCall 127 = .ok (.getfield 65, 3) := by decide +kernel
theorem dX2_goOnCall_130 : decode cX2_goOnCall 130 = .ok (.getfield 228, 3) := by decide +kernel
theorem dX2_goOnCall_133 : decode cX2_goOnCall 133 = .ok (.iload 4, 2) := by decide +kernel
theorem dX2_goOnCall_135 : decode cX2_goOnCall 135 = .ok (.iaload, 1) := by decide +kernel
theorem dX2_goOnCall_136 : decode cX2_goOnCall 136 = .ok (.istore 4, 2) := by decide +kernel
theorem dX2_goOnCall_138 : decode cX2_goOnCall 138 = .ok (.iinc 5 1, 3) := by decide +kernel
theorem dX2_goOnCall_141 : decode cX2_goOnCall 141 = .ok (.goto (-60), 3) := by decide +kernel
theorem dX2_goOnCall_144 : decode cX2_goOnCall 144 = .ok (.aload_n 0, 1) := by decide +kernel
theorem dX2_goOnCall_145 : decode cX2_goOnCall 145 = .ok (.getfield 22, 3) := by decide +kernel
theorem dX2_goOnCall_148 : decode cX2_goOnCall 148 = .ok (.ifCond .ne 25, 3) := by decide +kernel
theorem dX2_goOnCall_151 : decode cX2_goOnCall 151 = .ok (.aload_n 0, 1) := by decide +kernel
theorem dX2_goOnCall_152 : decode cX2_goOnCall 152 = .ok (.aload_n 0, 1) := by decide +kernel
theorem dX2_goOnCall_153 : decode cX2_goOnCall 153 = .ok (.getfield 65, 3) := by decide +kernel
theorem dX2_goOnCall_156 : decode cX2_goOnCall 156 = .ok (.getfield 85, 3) := by decide +kernel
theorem dX2_goOnCall_159 : decode cX2_goOnCall 159 = .ok (.aload_n 0, 1) := by decide +kernel
theorem dX2_goOnCall_160 : decode cX2_goOnCall 160 = .ok (.getfield 65, 3) := by decide +kernel
theorem dX2_goOnCall_163 : decode cX2_goOnCall 163 = .ok (.getfield 175, 3) := by decide +kernel
theorem dX2_goOnCall_166 : decode cX2_goOnCall 166 = .ok (.iload_n 1, 1) := by decide +kernel
theorem dX2_goOnCall_167 : decode cX2_goOnCall 167 = .ok (.iaload, 1) := by decide +kernel
theorem dX2_goOnCall_168 : decode cX2_goOnCall 168 = .ok (.iaload, 1) := by decide +kernel
theorem dX2_goOnCall_169 : decode cX2_goOnCall 169 = .ok (.iload_n 3, 1) := by decide +kernel
theorem dX2_goOnCall_170 : decode cX2_goOnCall 170 = .ok (.invokevirtual 157, 3) := by decide +kernel
theorem dX2_goOnCall_173 : decode cX2_goOnCall 173 = .ok (.return_, 1) := by decide +kernel
noncomputable def fX2_goOnCall_46 (M : mv_M) : Option (Unit × mv_M) :=
  mv_let (mv_si M 7 2 5) fun M14 =>
  some ((), M14)
set_option maxRecDepth 100000 in
set_option maxHeartbeats 4000000 in
theorem zX2_goOnCall_46 {l : Launch} {d : Nat} {Q : Unit → mv_M → Prop} (hd : 3 ≤ d) (M : mv_M) (h : mv_ok (fX2_goOnCall_46 M) Q) : mv l mX2_goOnCall d 0 46 [(0, .ref 7)] [] M (mv_qV Q) := by
  unfold fX2_goOnCall_46 at h
  refine mv_aload_n 0 dX2_goOnCall_46 rfl ?_
  refine mv_iconst 5 dX2_goOnCall_47 (by decide) ?_
  refine mv_putI fX2_22 (by decide) rfl rfl dX2_goOnCall_48 (fun M14 eM14 => ?_)
  replace h := mv_letE h M14 eM14
  exact mv_vret rfl dX2_goOnCall_51 ⟨rfl, h⟩
noncomputable def fX2_goOnCall_144 (x1 : Int32) (x3 : Int32) (M : mv_M) : Option (Unit × mv_M) :=
  if (M.1 7 2) = 0 then
    mv_getp (M.2.2 7 6) fun b28 =>
    mv_getp (M.2.2 7 6) fun b29 =>
    mv_chk (mv_inb x1 1000) <|
    mv_chk (mv_inb (M.1 (b29 + 9) x1.toNatClampNeg) 12) <|
    mv_bind (fX2_enter (M.1 (b28 + 5) (M.1 (b29 + 9) x1.toNatClampNeg).toNatClampNeg) x3 M) fun _ M32 =>
    some ((), M32)
  else
    some ((), M)
set_option maxRecDepth 100000 in
set_option maxHeartbeats 4000000 in
theorem zX2_goOnCall_144 {l : Launch} {d : Nat} {Q : Unit → mv_M → Prop} (hd : 3 ≤ d) (x1 : Int32) (x3 : Int32) (M : mv_M) (h : mv_ok (fX2_goOnCall_144 x1 x3 M) Q) : mv l mX2_goOnCall d 0 144 [(0, .ref 7), (1, .int x1), (3, .int x3)] [] M (mv_qV Q) := by
  unfold fX2_goOnCall_144 at h
  refine mv_aload_n 0 dX2_goOnCall_144 rfl ?_
  refine mv_getI fX2_22 (by decide) rfl rfl dX2_goOnCall_145 ?_
  refine mv_if_ne 173 dX2_goOnCall_148 (by decide) (fun z => ?_) (fun z => ?_)
  · replace h := mv_ifF z h
    exact mv_vret rfl dX2_goOnCall_173 ⟨rfl, h⟩
  · replace h := mv_ifT z h
    refine mv_aload_n 0 dX2_goOnCall_151 rfl ?_
    refine mv_aload_n 0 dX2_goOnCall_152 rfl ?_
    obtain ⟨b28, eb28, hb28, h⟩ := mv_getpE h
    refine mv_getP b28 fX2_65 (by decide) rfl rfl eb28 dX2_goOnCall_153 ?_
    refine mv_getR (b28 + 5) fX2_85 (mv_pN (t := 0) hb28 (by decide)) (by rcases hb28 with rfl | rfl <;> rfl) rfl (by rcases hb28 with rfl | rfl <;> rfl) dX2_goOnCall_156 ?_
    refine mv_aload_n 0 dX2_goOnCall_159 rfl ?_
    obtain ⟨b29, eb29, hb29, h⟩ := mv_getpE h
    refine mv_getP b29 fX2_65 (by decide) rfl rfl eb29 dX2_goOnCall_160 ?_
    refine mv_getR (b29 + 9) fX2_175 (mv_pN (t := 0) hb29 (by decide)) (by rcases hb29 with rfl | rfl <;> rfl) rfl (by rcases hb29 with rfl | rfl <;> rfl) dX2_goOnCall_163 ?_
    refine mv_iload_n 1 dX2_goOnCall_166 rfl ?_
    obtain ⟨hi30, h⟩ := mv_chkE h
    refine mv_ild (mv_pN (t := 9) hb29 (by decide)) (by rcases hb29 with rfl | rfl <;> rfl) (mv_inE hi30) dX2_goOnCall_167 ?_
    obtain ⟨hi31, h⟩ := mv_chkE h
    refine mv_ild (mv_pN (t := 5) hb28 (by decide)) (by rcases hb28 with rfl | rfl <;> rfl) (mv_inE hi31) dX2_goOnCall_168 ?_
    refine mv_iload_n 2 dX2_goOnCall_169 rfl ?_
    refine mv_cvV (As := [.int (M.1 (b28 + 5) (M.1 (b29 + 9) x1.toNatClampNeg).toNatClampNeg), .int x3]) (st := []) okX2_enter lX2_157 (by decide) rfl rfl rfl (Nat.le_of_ble_eq_true rfl) rfl (Nat.le_of_ble_eq_true rfl) dX2_goOnCall_170 (by omega) rfl (zX2_enter (d := d - 1) (by omega) (M.1 (b28 + 5) (M.1 (b29 + 9) x1.toNatClampNeg).toNatClampNeg) x3 M (mv_bindE h)) (fun _ M32 h => ?_)
    exact mv_vret rfl dX2_goOnCall_173 ⟨rfl, h⟩
noncomputable def gX2_goOnCall_81 (x1 : Int32) (x2 : Int32) (x3 : Int32) (x4 : Int32) (x5 : Int32) (M : mv_M) : Option (((Int32 × Int32 × Int32 × Int32 × Int32) ⊕ Unit) × mv_M) :=
  mv_getp (M.2.2 7 6) fun b15 =>
  mv_chk (mv_inb x1 1000) <|
  if (M.1 (b15 + 11) x1.toNatClampNeg) ≤ x5 then
    mv_inr (fX2_goOnCall_144 x1 x3 M)
  else
    mv_getp (M.2.2 7 6) fun b17 =>
    mv_bind (fX4_hasNode b17 x4 M) fun r18 M19 =>
    if r18 = 0 then
      mv_inr (fX2_goOnCall_144 x1 x3 M19)
    else
      mv_chk (mv_inb x2 150) <|
      mv_bind (fX2_thingFor x4 (M19.1 52 x2.toNatClampNeg) M19) fun r21 M22 =>
      mv_bind (fX2_bind x3 x5 r21 M22) fun _ M23 =>
      mv_getp (M23.2.2 7 6) fun b24 =>
      mv_chk (mv_inb x4 1000) <|
      mv_let (M23.1 (b24 + 12) x4.toNatClampNeg) fun v26 =>
      mv_let (x5 + 1) fun v27 =>
      some (.inl (x1, x2, x3, v26, v27), M23)
noncomputable def fX2_goOnCall_81 (x1 : Int32) (x2 : Int32) (x3 : Int32) (x4 : Int32) (x5 : Int32) (M : mv_M) : Option (Unit × mv_M) := mv_loop (fun (s : Int32 × Int32 × Int32 × Int32 × Int32) M => gX2_goOnCall_81 s.1 s.2.1 s.2.2.1 s.2.2.2.1 s.2.2.2.2 M) (x1, x2, x3, x4, x5) M
set_option maxRecDepth 100000 in
set_option maxHeartbeats 4000000 in
theorem zX2_goOnCall_81 {l : Launch} {d : Nat} {Q : Unit → mv_M → Prop} (hd : 3 ≤ d) (x1 : Int32) (x2 : Int32) (x3 : Int32) (x4 : Int32) (x5 : Int32) (M : mv_M) (h : mv_ok (fX2_goOnCall_81 x1 x2 x3 x4 x5 M) Q) : mv l mX2_goOnCall d 0 81 [(0, .ref 7), (1, .int x1), (2, .int x2), (3, .int x3), (4, .int x4), (5, .int x5)] [] M (mv_qV Q) := by
  unfold fX2_goOnCall_81 at h
  refine mv_loopE (A := (fun (s : Int32 × Int32 × Int32 × Int32 × Int32) M => mv l mX2_goOnCall d 0 81 [(0, .ref 7), (1, .int s.1), (2, .int s.2.1), (3, .int s.2.2.1), (4, .int s.2.2.2.1), (5, .int s.2.2.2.2)] [] M (mv_qV Q))) ?_ (x1, x2, x3, x4, x5) M h
  · rintro ⟨x1, x2, x3, x4, x5⟩ M h
    try dsimp only at h
    show mv l mX2_goOnCall d 0 81 [(0, .ref 7), (1, .int x1), (2, .int x2), (3, .int x3), (4, .int x4), (5, .int x5)] [] M (mv_qV Q)
    unfold gX2_goOnCall_81 at h
    refine mv_iload 5 dX2_goOnCall_81 rfl ?_
    refine mv_aload_n 0 dX2_goOnCall_83 rfl ?_
    obtain ⟨b15, eb15, hb15, h⟩ := mv_getpE h
    refine mv_getP b15 fX2_65 (by decide) rfl rfl eb15 dX2_goOnCall_84 ?_
    refine mv_getR (b15 + 11) fX2_215 (mv_pN (t := 0) hb15 (by decide)) (by rcases hb15 with rfl | rfl <;> rfl) rfl (by rcases hb15 with rfl | rfl <;> rfl) dX2_goOnCall_87 ?_
    refine mv_iload_n 1 dX2_goOnCall_90 rfl ?_
    obtain ⟨hi16, h⟩ := mv_chkE h
    refine mv_ild (mv_pN (t := 11) hb15 (by decide)) (by rcases hb15 with rfl | rfl <;> rfl) (mv_inE hi16) dX2_goOnCall_91 ?_
    refine mv_icmp_ge 144 dX2_goOnCall_92 (by decide) (fun z => ?_) (fun z => ?_)
    · replace h := mv_ifT z h
      refine mv_sub [0, 1, 3] rfl ?_
      exact zX2_goOnCall_144 hd x1 x3 M (mv_inrE h)
    · replace h := mv_ifF z h
      refine mv_aload_n 0 dX2_goOnCall_95 rfl ?_
      obtain ⟨b17, eb17, hb17, h⟩ := mv_getpE h
      refine mv_getP b17 fX2_65 (by decide) rfl rfl eb17 dX2_goOnCall_96 ?_
      refine mv_iload 4 dX2_goOnCall_99 rfl ?_
      refine mv_cvI (As := [.int x4]) (st := []) okX4_hasNode lX2_169 (mv_pN (t := 0) hb17 (by decide)) (by rcases hb17 with rfl | rfl <;> rfl) rfl rfl (Nat.le_of_ble_eq_true rfl) rfl (Nat.le_of_ble_eq_true rfl) dX2_goOnCall_101 (by omega) rfl (zX4_hasNode (d := d - 1) (by omega) b17 x4 M hb17 (mv_bindE h)) (fun r18 M19 h => ?_)
      refine mv_if_eq 144 dX2_goOnCall_104 (by decide) (fun z => ?_) (fun z => ?_)
      · replace h := mv_ifT z h
        refine mv_sub [0, 1, 3] rfl ?_
        exact zX2_goOnCall_144 hd x1 x3 M19 (mv_inrE h)
      · replace h := mv_ifF z h
        refine mv_aload_n 0 dX2_goOnCall_107 rfl ?_
        refine mv_iload_n 3 dX2_goOnCall_108 rfl ?_
        refine mv_iload 5 dX2_goOnCall_109 rfl ?_
        refine mv_aload_n 0 dX2_goOnCall_111 rfl ?_
        refine mv_iload 4 dX2_goOnCall_112 rfl ?_
        refine mv_aload_n 0 dX2_goOnCall_114 rfl ?_
        refine mv_getR 52 fX2_50 (by decide) rfl rfl rfl dX2_goOnCall_115 ?_
        refine mv_iload_n 2 dX2_goOnCall_118 rfl ?_
        obtain ⟨hi20, h⟩ := mv_chkE h
        refine mv_ild (by decide) rfl (mv_inE hi20) dX2_goOnCall_119 ?_
        refine mv_cvI (As := [.int x4, .int (M19.1 52 x2.toNatClampNeg)]) (st := [.int x5, .int x3, .ref 7]) okX2_thingFor lX2_218 (by decide) rfl rfl rfl (Nat.le_of_ble_eq_true rfl) rfl (Nat.le_of_ble_eq_true rfl) dX2_goOnCall_120 (by omega) rfl (zX2_thingFor (d := d - 1) (by omega) x4 (M19.1 52 x2.toNatClampNeg) M19 (mv_bindE h)) (fun r21 M22 h => ?_)
        refine mv_cvV (As := [.int x3, .int x5, .int r21]) (st := []) okX2_bind lX2_77 (by decide) rfl rfl rfl (Nat.le_of_ble_eq_true rfl) rfl (Nat.le_of_ble_eq_true rfl) dX2_goOnCall_123 (by omega) rfl (zX2_bind (d := d - 1) (by omega) x3 x5 r21 M22 (mv_bindE h)) (fun _ M23 h => ?_)
        refine mv_aload_n 0 dX2_goOnCall_126 rfl ?_
        obtain ⟨b24, eb24, hb24, h⟩ := mv_getpE h
        refine mv_getP b24 fX2_65 (by decide) rfl rfl eb24 dX2_goOnCall_127 ?_
        refine mv_getR (b24 + 12) fX2_228 (mv_pN (t := 0) hb24 (by decide)) (by rcases hb24 with rfl | rfl <;> rfl) rfl (by rcases hb24 with rfl | rfl <;> rfl) dX2_goOnCall_130 ?_
        refine mv_iload 4 dX2_goOnCall_133 rfl ?_
        obtain ⟨hi25, h⟩ := mv_chkE h
        refine mv_ild (mv_pN (t := 12) hb24 (by decide)) (by rcases hb24 with rfl | rfl <;> rfl) (mv_inE hi25) dX2_goOnCall_135 ?_
        refine mv_topi (fun v26 ev26 => ?_)
        replace h := mv_letE h v26 ev26
        refine mv_istore [(4, .int v26), (0, .ref 7), (1, .int x1), (2, .int x2), (3, .int x3), (5, .int x5)] dX2_goOnCall_136 (by decide) rfl ?_
        obtain ⟨v27, ev27⟩ : ∃ z : Int32, z = x5 + 1 := ⟨_, rfl⟩
        replace h := mv_letE h v27 ev27
        refine mv_iinc v27 5 [(5, .int v27), (4, .int v26), (0, .ref 7), (1, .int x1), (2, .int x2), (3, .int x3)] dX2_goOnCall_138 rfl (by rw [ev27]; rfl) (by decide) rfl ?_
        refine mv_goto 81 dX2_goOnCall_141 (by decide) ?_
        refine mv_sub [2, 3, 4, 5, 1, 0] rfl ?_
        exact h
noncomputable def fX2_goOnCall (a0 : Int32) (a1 : Int32) (M : mv_M) : Option (Unit × mv_M) :=
  mv_bind (fX2_nextPhase a1 M) fun r1 M2 =>
  if r1 ≤ 0 then
    if 1500 ≤ (M2.1 7 4) then
      fX2_goOnCall_46 M2
    else
      mv_getp (M2.2.2 7 6) fun b3 =>
      mv_getp (M2.2.2 7 6) fun b4 =>
      mv_chk (mv_inb a0 1000) <|
      mv_bind (fX4_hasFunction b3 (M2.1 (b4 + 9) a0.toNatClampNeg) M2) fun r6 M7 =>
      if r6 = 0 then
        fX2_goOnCall_46 M7
      else
        mv_let (mv_si M7 7 4 ((M7.1 7 4) + 1)) fun M8 =>
        mv_let (M8.1 7 4) fun v9 =>
        mv_getp (M8.2.2 7 6) fun b10 =>
        mv_chk (mv_inb a0 1000) <|
        mv_let (M8.1 (b10 + 10) a0.toNatClampNeg) fun v12 =>
        fX2_goOnCall_81 a0 a1 v9 v12 0 M8
  else
    mv_bind (fX2_leave (M2.1 7 9) M2) fun _ M13 =>
    some ((), M13)
set_option maxRecDepth 100000 in
set_option maxHeartbeats 4000000 in
theorem zX2_goOnCall {l : Launch} {d : Nat} {Q : Unit → mv_M → Prop} (hd : 3 ≤ d) (a0 : Int32) (a1 : Int32) (M : mv_M) (h : mv_ok (fX2_goOnCall a0 a1 M) Q) : mv l mX2_goOnCall d 0 0 (lv_args 0 [.ref 7, .int a0, .int a1]) [] M (mv_qV Q) := by
  unfold fX2_goOnCall at h
  show mv l mX2_goOnCall d 0 0 [(0, .ref 7), (1, .int a0), (2, .int a1)] [] M (mv_qV Q)
  refine mv_aload_n 0 dX2_goOnCall_0 rfl ?_
  refine mv_iload_n 2 dX2_goOnCall_1 rfl ?_
  refine mv_cvI (As := [.int a1]) (st := []) okX2_nextPhase lX2_202 (by decide) rfl rfl rfl (Nat.le_of_ble_eq_true rfl) rfl (Nat.le_of_ble_eq_true rfl) dX2_goOnCall_2 (by omega) rfl (zX2_nextPhase (d := d - 1) (by omega) a1 M (mv_bindE h)) (fun r1 M2 h => ?_)
  refine mv_if_le 17 dX2_goOnCall_5 (by decide) (fun z => ?_) (fun z => ?_)
  · replace h := mv_ifT z h
    refine mv_aload_n 0 dX2_goOnCall_17 rfl ?_
    refine mv_getI fX2_28 (by decide) rfl rfl dX2_goOnCall_18 ?_
    refine mv_sipush 1500 dX2_goOnCall_21 (by decide) ?_
    refine mv_icmp_ge 46 dX2_goOnCall_24 (by decide) (fun z => ?_) (fun z => ?_)
    · replace h := mv_ifT z h
      refine mv_sub [0] rfl ?_
      exact zX2_goOnCall_46 hd M2 h
    · replace h := mv_ifF z h
      refine mv_aload_n 0 dX2_goOnCall_27 rfl ?_
      obtain ⟨b3, eb3, hb3, h⟩ := mv_getpE h
      refine mv_getP b3 fX2_65 (by decide) rfl rfl eb3 dX2_goOnCall_28 ?_
      refine mv_aload_n 0 dX2_goOnCall_31 rfl ?_
      obtain ⟨b4, eb4, hb4, h⟩ := mv_getpE h
      refine mv_getP b4 fX2_65 (by decide) rfl rfl eb4 dX2_goOnCall_32 ?_
      refine mv_getR (b4 + 9) fX2_175 (mv_pN (t := 0) hb4 (by decide)) (by rcases hb4 with rfl | rfl <;> rfl) rfl (by rcases hb4 with rfl | rfl <;> rfl) dX2_goOnCall_35 ?_
      refine mv_iload_n 1 dX2_goOnCall_38 rfl ?_
      obtain ⟨hi5, h⟩ := mv_chkE h
      refine mv_ild (mv_pN (t := 9) hb4 (by decide)) (by rcases hb4 with rfl | rfl <;> rfl) (mv_inE hi5) dX2_goOnCall_39 ?_
      refine mv_cvI (As := [.int (M2.1 (b4 + 9) a0.toNatClampNeg)]) (st := []) okX4_hasFunction lX2_225 (mv_pN (t := 0) hb3 (by decide)) (by rcases hb3 with rfl | rfl <;> rfl) rfl rfl (Nat.le_of_ble_eq_true rfl) rfl (Nat.le_of_ble_eq_true rfl) dX2_goOnCall_40 (by omega) rfl (zX4_hasFunction (d := d - 1) (by omega) b3 (M2.1 (b4 + 9) a0.toNatClampNeg) M2 hb3 (mv_bindE h)) (fun r6 M7 h => ?_)
      refine mv_if_ne 52 dX2_goOnCall_43 (by decide) (fun z => ?_) (fun z => ?_)
      · replace h := mv_ifF z h
        refine mv_aload_n 0 dX2_goOnCall_52 rfl ?_
        refine mv_dup dX2_goOnCall_53 rfl ?_
        refine mv_getI fX2_28 (by decide) rfl rfl dX2_goOnCall_54 ?_
        refine mv_iconst 1 dX2_goOnCall_57 (by decide) ?_
        refine mv_iadd dX2_goOnCall_58 ?_
        refine mv_putI fX2_28 (by decide) rfl rfl dX2_goOnCall_59 (fun M8 eM8 => ?_)
        replace h := mv_letE h M8 eM8
        refine mv_aload_n 0 dX2_goOnCall_62 rfl ?_
        refine mv_getI fX2_28 (by decide) rfl rfl dX2_goOnCall_63 ?_
        refine mv_topi (fun v9 ev9 => ?_)
        replace h := mv_letE h v9 ev9
        refine mv_istore_n [(3, .int v9), (0, .ref 7), (1, .int a0), (2, .int a1)] dX2_goOnCall_66 (by decide) rfl ?_
        refine mv_aload_n 1 dX2_goOnCall_67 rfl ?_
        obtain ⟨b10, eb10, hb10, h⟩ := mv_getpE h
        refine mv_getP b10 fX2_65 (by decide) rfl rfl eb10 dX2_goOnCall_68 ?_
        refine mv_getR (b10 + 10) fX2_208 (mv_pN (t := 0) hb10 (by decide)) (by rcases hb10 with rfl | rfl <;> rfl) rfl (by rcases hb10 with rfl | rfl <;> rfl) dX2_goOnCall_71 ?_
        refine mv_iload_n 2 dX2_goOnCall_74 rfl ?_
        obtain ⟨hi11, h⟩ := mv_chkE h
        refine mv_ild (mv_pN (t := 10) hb10 (by decide)) (by rcases hb10 with rfl | rfl <;> rfl) (mv_inE hi11) dX2_goOnCall_75 ?_
        refine mv_topi (fun v12 ev12 => ?_)
        replace h := mv_letE h v12 ev12
        refine mv_istore [(4, .int v12), (3, .int v9), (0, .ref 7), (1, .int a0), (2, .int a1)] dX2_goOnCall_76 (by decide) rfl ?_
        refine mv_iconst 0 dX2_goOnCall_78 (by decide) ?_
        refine mv_istore [(5, .int 0), (4, .int v12), (3, .int v9), (0, .ref 7), (1, .int a0), (2, .int a1)] dX2_goOnCall_79 (by decide) rfl ?_
        refine mv_sub [3, 4, 5, 2, 1, 0] rfl ?_
        exact zX2_goOnCall_81 hd a0 a1 v9 v12 0 M8 h
      · replace h := mv_ifT z h
        refine mv_sub [0] rfl ?_
        exact zX2_goOnCall_46 hd M7 h
  · replace h := mv_ifF z h
    refine mv_aload_n 0 dX2_goOnCall_8 rfl ?_
    refine mv_aload_n 0 dX2_goOnCall_9 rfl ?_
    refine mv_getI fX2_37 (by decide) rfl rfl dX2_goOnCall_10 ?_
    refine mv_cvV (As := [.int (M2.1 7 9)]) (st := []) okX2_leave lX2_178 (by decide) rfl rfl rfl (Nat.le_of_ble_eq_true rfl) rfl (Nat.le_of_ble_eq_true rfl) dX2_goOnCall_13 (by omega) rfl (zX2_leave (d := d - 1) (by omega) (M2.1 7 9) M2 (mv_bindE h)) (fun _ M13 h => ?_)
    exact mv_vret rfl dX2_goOnCall_16 ⟨rfl, h⟩
theorem dX2_reckon_0 : decode cX2_reckon 0 = .ok (.iload_n 1, 1) := by decide +kernel
theorem dX2_reckon_1 : decode cX2_reckon 1 = .ok (.lookupswitch 66 #[(42, 51), (43, 43), (45, 47), (60, 55)], 43) := by decide +kernel
theorem dX2_reckon_44 : decode cX2_reckon 44 = .ok (.iload_n 2, 1) := by decide +kernel
theorem dX2_reckon_45 : decode cX2_reckon 45 = .ok (.iload_n 3, 1) := by decide +kernel
theorem dX2_reckon_46 : decode cX2_reckon 46 = .ok (.iadd, 1) := by decide +kernel
theorem dX2_reckon_47 : decode cX2_reckon 47 = .ok (.ireturn, 1) := by decide +kernel
theorem dX2_reckon_48 : decode cX2_reckon 48 = .ok (.iload_n 2, 1) := by decide +kernel
theorem dX2_reckon_49 : decode cX2_reckon 49 = .ok (.iload_n 3, 1) := by decide +kernel
theorem dX2_reckon_50 : decode cX2_reckon 50 = .ok (.isub, 1) := by decide +kernel
theorem dX2_reckon_51 : decode cX2_reckon 51 = .ok (.ireturn, 1) := by decide +kernel
theorem dX2_reckon_52 : decode cX2_reckon 52 = .ok (.iload_n 2, 1) := by decide +kernel
theorem dX2_reckon_53 : decode cX2_reckon 53 = .ok (.iload_n 3, 1) := by decide +kernel
theorem dX2_reckon_54 : decode cX2_reckon 54 = .ok (.imul, 1) := by decide +kernel
theorem dX2_reckon_55 : decode cX2_reckon 55 = .ok (.ireturn, 1) := by decide +kernel
theorem dX2_reckon_56 : decode cX2_reckon 56 = .ok (.iload_n 2, 1) := by decide +kernel
theorem dX2_reckon_57 : decode cX2_reckon 57 = .ok (.iload_n 3, 1) := by decide +kernel
theorem dX2_reckon_58 : decode cX2_reckon 58 = .ok (.if_icmp .ge 7, 3) := by decide +kernel
theorem dX2_reckon_61 : decode cX2_reckon 61 = .ok (.iconst 1, 1) := by decide +kernel
theorem dX2_reckon_62 : decode cX2_reckon 62 = .ok (.goto 4, 3) := by decide +kernel
theorem dX2_reckon_65 : decode cX2_reckon 65 = .ok (.iconst 0, 1) := by decide +kernel
theorem dX2_reckon_66 : decode cX2_reckon 66 = .ok (.ireturn, 1) := by decide +kernel
theorem dX2_reckon_67 : decode cX2_reckon 67 = .ok (.iload_n 2, 1) := by decide +kernel
theorem dX2_reckon_68 : decode cX2_reckon 68 = .ok (.iload_n 3, 1) := by decide +kernel
theorem dX2_reckon_69 : decode cX2_reckon 69 = .ok (.if_icmp .ne 7, 3) := by decide +kernel
theorem dX2_reckon_72 : decode cX2_reckon 72 = .ok (.iconst 1, 1) := by decide +kernel
theorem dX2_reckon_73 : decode cX2_reckon 73 = .ok (.goto 4, 3) := by decide +kernel
theorem dX2_reckon_76 : decode cX2_reckon 76 = .ok (.iconst 0, 1) := by decide +kernel
theorem dX2_reckon_77 : decode cX2_reckon 77 = .ok (.ireturn, 1) := by decide +kernel
noncomputable def fX2_reckon (a0 : Int32) (a1 : Int32) (a2 : Int32) (M : mv_M) : Option (Int32 × mv_M) :=
  if a0 = 42 then
    some (a1 * a2, M)
  else
    if a0 = 43 then
      some (a1 + a2, M)
    else
      if a0 = 45 then
        some (a1 - a2, M)
      else
        if a0 = 60 then
          if a2 ≤ a1 then
            some (0, M)
          else
            some (1, M)
        else
          if a1 = a2 then
            some (1, M)
          else
            some (0, M)
set_option maxRecDepth 100000 in
set_option maxHeartbeats 4000000 in
theorem zX2_reckon {l : Launch} {d : Nat} {Q : Int32 → mv_M → Prop} (hd : 0 ≤ d) (a0 : Int32) (a1 : Int32) (a2 : Int32) (M : mv_M) (h : mv_ok (fX2_reckon a0 a1 a2 M) Q) : mv l mX2_reckon d 0 0 (lv_args 0 [.ref 7, .int a0, .int a1, .int a2]) [] M (mv_qI Q) := by
  unfold fX2_reckon at h
  show mv l mX2_reckon d 0 0 [(0, .ref 7), (1, .int a0), (2, .int a1), (3, .int a2)] [] M (mv_qI Q)
  refine mv_iload_n 1 dX2_reckon_0 rfl ?_
  by_cases z1 : a0 = 42
  · replace h := mv_ifT z1 h
    refine mv_lookup (off := 51) 52 dX2_reckon_1 (by decide) (mv_swc (mv_eqv z1 (by decide))) (by decide) ?_
    refine mv_iload_n 2 dX2_reckon_52 rfl ?_
    refine mv_iload_n 3 dX2_reckon_53 rfl ?_
    refine mv_imul dX2_reckon_54 ?_
    exact mv_iret rfl dX2_reckon_55 ⟨_, rfl, h⟩
  · replace h := mv_ifF z1 h
    by_cases z2 : a0 = 43
    · replace h := mv_ifT z2 h
      refine mv_lookup (off := 43) 44 dX2_reckon_1 (by decide) (mv_swn (mv_ne 42 (by decide) z1) (mv_swc (mv_eqv z2 (by decide)))) (by decide) ?_
      refine mv_iload_n 2 dX2_reckon_44 rfl ?_
      refine mv_iload_n 3 dX2_reckon_45 rfl ?_
      refine mv_iadd dX2_reckon_46 ?_
      exact mv_iret rfl dX2_reckon_47 ⟨_, rfl, h⟩
    · replace h := mv_ifF z2 h
      by_cases z3 : a0 = 45
      · replace h := mv_ifT z3 h
        refine mv_lookup (off := 47) 48 dX2_reckon_1 (by decide) (mv_swn (mv_ne 42 (by decide) z1) (mv_swn (mv_ne 43 (by decide) z2) (mv_swc (mv_eqv z3 (by decide))))) (by decide) ?_
        refine mv_iload_n 2 dX2_reckon_48 rfl ?_
        refine mv_iload_n 3 dX2_reckon_49 rfl ?_
        refine mv_isub dX2_reckon_50 ?_
        exact mv_iret rfl dX2_reckon_51 ⟨_, rfl, h⟩
      · replace h := mv_ifF z3 h
        by_cases z4 : a0 = 60
        · replace h := mv_ifT z4 h
          refine mv_lookup (off := 55) 56 dX2_reckon_1 (by decide) (mv_swn (mv_ne 42 (by decide) z1) (mv_swn (mv_ne 43 (by decide) z2) (mv_swn (mv_ne 45 (by decide) z3) (mv_swc (mv_eqv z4 (by decide)))))) (by decide) ?_
          refine mv_iload_n 2 dX2_reckon_56 rfl ?_
          refine mv_iload_n 3 dX2_reckon_57 rfl ?_
          refine mv_icmp_ge 65 dX2_reckon_58 (by decide) (fun z => ?_) (fun z => ?_)
          · replace h := mv_ifT z h
            refine mv_iconst 0 dX2_reckon_65 (by decide) ?_
            exact mv_iret rfl dX2_reckon_66 ⟨_, rfl, h⟩
          · replace h := mv_ifF z h
            refine mv_iconst 1 dX2_reckon_61 (by decide) ?_
            refine mv_goto 66 dX2_reckon_62 (by decide) ?_
            exact mv_iret rfl dX2_reckon_66 ⟨_, rfl, h⟩
        · replace h := mv_ifF z4 h
          refine mv_lookup (off := 66) 67 dX2_reckon_1 (by decide) (mv_swn (mv_ne 42 (by decide) z1) (mv_swn (mv_ne 43 (by decide) z2) (mv_swn (mv_ne 45 (by decide) z3) (mv_swn (mv_ne 60 (by decide) z4) rfl)))) (by decide) ?_
          refine mv_iload_n 2 dX2_reckon_67 rfl ?_
          refine mv_iload_n 3 dX2_reckon_68 rfl ?_
          refine mv_icmp_ne 76 dX2_reckon_69 (by decide) (fun z => ?_) (fun z => ?_)
          · replace h := mv_ifF z h
            refine mv_iconst 0 dX2_reckon_76 (by decide) ?_
            exact mv_iret rfl dX2_reckon_77 ⟨_, rfl, h⟩
          · replace h := mv_ifT z h
            refine mv_iconst 1 dX2_reckon_72 (by decide) ?_
            refine mv_goto 77 dX2_reckon_73 (by decide) ?_
            exact mv_iret rfl dX2_reckon_77 ⟨_, rfl, h⟩
