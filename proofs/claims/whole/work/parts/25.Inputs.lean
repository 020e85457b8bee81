theorem dX1_add_0 : decode cX1_add 0 = .ok (.aload_n 0, 1) := by decide +kernel
theorem dX1_add_1 : decode cX1_add 1 = .ok (.getfield 9, 3) := by decide +kernel
theorem dX1_add_4 : decode cX1_add 4 = .ok (.bipush 40, 2) := by decide +kernel
theorem dX1_add_6 : decode cX1_add 6 = .ok (.if_icmp .ge 33, 3) := by decide +kernel
theorem dX1_add_9 : decode cX1_add 9 = .ok (.aload_n 0, 1) := by decide +kernel
theorem dX1_add_10 : decode cX1_add 10 = .ok (.getfield 15, 3) := by decide +kernel
theorem dX1_add_13 : decode cX1_add 13 = .ok (.aload_n 0, 1) := by decide +kernel
theorem dX1_add_14 : decode cX1_add 14 = .ok (.getfield 9, 3) := by decide +kernel
theorem dX1_add_17 : decode cX1_add 17 = .ok (.iload_n 1, 1) := by decide +kernel
theorem dX1_add_18 : decode cX1_add 18 = .ok (.iastore, 1) := by decide +kernel
theorem dX1_add_19 : decode cX1_add 19 = .ok (.aload_n 0, 1) := by decide +kernel
theorem dX1_add_20 : decode cX1_add 20 = .ok (.getfield 19, 3) := by decide +kernel
theorem dX1_add_23 : decode cX1_add 23 = .ok (.aload_n 0, 1) := by decide +kernel
theorem dX1_add_24 : decode cX1_add 24 = .ok (.getfield 9, 3) := by decide +kernel
theorem dX1_add_27 : decode cX1_add 27 = .ok (.iload_n 2, 1) := by decide +kernel
theorem dX1_add_28 : decode cX1_add 28 = .ok (.iastore, 1) := by decide +kernel
theorem dX1_add_29 : decode cX1_add 29 = .ok (.aload_n 0, 1) := by decide +kernel
theorem dX1_add_30 : decode cX1_add 30 = .ok (.dup, 1) := by decide +kernel
theorem dX1_add_31 : decode cX1_add 31 = .ok (.getfield 9, 3) := by decide +kernel
theorem dX1_add_34 : decode cX1_add 34 = .ok (.iconst 1, 1) := by decide +kernel
theorem dX1_add_35 : decode cX1_add 35 = .ok (.iadd, 1) := by decide +kernel
theorem dX1_add_36 : decode cX1_add 36 = .ok (.putfield 9, 3) := by decide +kernel
theorem dX1_add_39 : decode cX1_add 39 = .ok (.return_, 1) := by decide +kernel
noncomputable def fX1_add (a0 : Int32) (a1 : Int32) (M : mv_M) : Option (Unit × mv_M) :=
  if 40 ≤ (M.1 6 0) then
    some ((), M)
  else
    mv_chk (mv_inb (M.1 6 0) 40) <|
    mv_let (mv_si M 48 (M.1 6 0).toNatClampNeg a0) fun M2 =>
    mv_chk (mv_inb (M2.1 6 0) 40) <|
    mv_let (mv_si M2 49 (M2.1 6 0).toNatClampNeg a1) fun M4 =>
    mv_let (mv_si M4 6 0 ((M4.1 6 0) + 1)) fun M5 =>
    some ((), M5)
set_option maxRecDepth 100000 in
set_option maxHeartbeats 4000000 in
theorem zX1_add {l : Launch} {d : Nat} {Q : Unit → mv_M → Prop} (hd : 0 ≤ d) (a0 : Int32) (a1 : Int32) (M : mv_M) (h : mv_ok (fX1_add a0 a1 M) Q) : mv l mX1_add d 0 0 (lv_args 0 [.ref 6, .int a0, .int a1]) [] M (mv_qV Q) := by
  unfold fX1_add at h
  show mv l mX1_add d 0 0 [(0, .ref 6), (1, .int a0), (2, .int a1)] [] M (mv_qV Q)
  refine mv_aload_n 0 dX1_add_0 rfl ?_
  refine mv_getI fX1_9 (by decide) rfl rfl dX1_add_1 ?_
  refine mv_bipush 40 dX1_add_4 (by decide) ?_
  refine mv_icmp_ge 39 dX1_add_6 (by decide) (fun z => ?_) (fun z => ?_)
  · replace h := mv_ifT z h
    exact mv_vret rfl dX1_add_39 ⟨rfl, h⟩
  · replace h := mv_ifF z h
    refine mv_aload_n 0 dX1_add_9 rfl ?_
    refine mv_getR 48 fX1_15 (by decide) rfl rfl rfl dX1_add_10 ?_
    refine mv_aload_n 0 dX1_add_13 rfl ?_
    refine mv_getI fX1_9 (by decide) rfl rfl dX1_add_14 ?_
    refine mv_iload_n 1 dX1_add_17 rfl ?_
    obtain ⟨hi1, h⟩ := mv_chkE h
    refine mv_ist (by decide) rfl (mv_inE hi1) dX1_add_18 (fun M2 eM2 => ?_)
    replace h := mv_letE h M2 eM2
    refine mv_aload_n 0 dX1_add_19 rfl ?_
    refine mv_getR 49 fX1_19 (by decide) rfl rfl rfl dX1_add_20 ?_
    refine mv_aload_n 0 dX1_add_23 rfl ?_
    refine mv_getI fX1_9 (by decide) rfl rfl dX1_add_24 ?_
    refine mv_iload_n 2 dX1_add_27 rfl ?_
    obtain ⟨hi3, h⟩ := mv_chkE h
    refine mv_ist (by decide) rfl (mv_inE hi3) dX1_add_28 (fun M4 eM4 => ?_)
    replace h := mv_letE h M4 eM4
    refine mv_aload_n 0 dX1_add_29 rfl ?_
    refine mv_dup dX1_add_30 rfl ?_
    refine mv_getI fX1_9 (by decide) rfl rfl dX1_add_31 ?_
    refine mv_iconst 1 dX1_add_34 (by decide) ?_
    refine mv_iadd dX1_add_35 ?_
    refine mv_putI fX1_9 (by decide) rfl rfl dX1_add_36 (fun M5 eM5 => ?_)
    replace h := mv_letE h M5 eM5
    exact mv_vret rfl dX1_add_39 ⟨rfl, h⟩
theorem dX1_behind_0 : decode cX1_behind 0 = .ok (.iload_n 2, 1) := by decide +kernel
theorem dX1_behind_1 : decode cX1_behind 1 = .ok (.ifCond .lt 11, 3) := by decide +kernel
theorem dX1_behind_4 : decode cX1_behind 4 = .ok (.iload_n 2, 1) := by decide +kernel
theorem dX1_behind_5 : decode cX1_behind 5 = .ok (.aload_n 0, 1) := by decide +kernel
theorem dX1_behind_6 : decode cX1_behind 6 = .ok (.getfield 9, 3) := by decide +kernel
theorem dX1_behind_9 : decode cX1_behind 9 = .ok (.if_icmp .lt 5, 3) := by decide +kernel
theorem dX1_behind_12 : decode cX1_behind 12 = .ok (.iconst (-1), 1) := by decide +kernel
theorem dX1_behind_13 : decode cX1_behind 13 = .ok (.ireturn, 1) := by decide +kernel
theorem dX1_behind_14 : decode cX1_behind 14 = .ok (.aload_n 0, 1) := by decide +kernel
theorem dX1_behind_15 : decode cX1_behind 15 = .ok (.getfield 15, 3) := by decide +kernel
theorem dX1_behind_18 : decode cX1_behind 18 = .ok (.iload_n 2, 1) := by decide +kernel
theorem dX1_behind_19 : decode cX1_behind 19 = .ok (.iaload, 1) := by decide +kernel
theorem dX1_behind_20 : decode cX1_behind 20 = .ok (.iconst 1, 1) := by decide +kernel
theorem dX1_behind_21 : decode cX1_behind 21 = .ok (.if_icmp .ne 7, 3) := by decide +kernel
theorem dX1_behind_24 : decode cX1_behind 24 = .ok (.iload_n 2, 1) := by decide +kernel
theorem dX1_behind_25 : decode cX1_behind 25 = .ok (.iconst 1, 1) := by decide +kernel
theorem dX1_behind_26 : decode cX1_behind 26 = .ok (.iadd, 1) := by decide +kernel
theorem dX1_behind_27 : decode cX1_behind 27 = .ok (.ireturn, 1) := by decide +kernel
theorem dX1_behind_28 : decode cX1_behind 28 = .ok (.iload_n 1, 1) := by decide +kernel
theorem dX1_behind_29 : decode cX1_behind 29 = .ok (.ifCond .gt 20, 3) := by decide +kernel
theorem dX1_behind_32 : decode cX1_behind 32 = .ok (.aload_n 0, 1) := by decide +kernel
theorem dX1_behind_33 : decode cX1_behind 33 = .ok (.getfield 15, 3) := by decide +kernel
theorem dX1_behind_36 : decode cX1_behind 36 = .ok (.iload_n 2, 1) := by decide +kernel
theorem dX1_behind_37 : decode cX1_behind 37 = .ok (.iaload, 1) := by decide +kernel
theorem dX1_behind_38 : decode cX1_behind 38 = .ok (.ifCond .ne 9, 3) := by decide +kernel
theorem dX1_behind_41 : decode cX1_behind 41 = .ok (.iload_n 2, 1) := by decide +kernel
theorem dX1_behind_42 : decode cX1_behind 42 = .ok (.iconst 1, 1) := by decide +kernel
theorem dX1_behind_43 : decode cX1_behind 43 = .ok (.iadd, 1) := by decide +kernel
theorem dX1_behind_44 : decode cX1_behind 44 = .ok (.goto 4, 3) := by decide +kernel
theorem dX1_behind_47 : decode cX1_behind 47 = .ok (.iconst (-1), 1) := by decide +kernel
theorem dX1_behind_48 : decode cX1_behind 48 = .ok (.ireturn, 1) := by decide +kernel
theorem dX1_behind_49 : decode cX1_behind 49 = .ok (.aload_n 0, 1) := by decide +kernel
theorem dX1_behind_50 : decode cX1_behind 50 = .ok (.getfield 15, 3) := by decide +kernel
theorem dX1_behind_53 : decode cX1_behind 53 = .ok (.iload_n 2, 1) := by decide +kernel
theorem dX1_behind_54 : decode cX1_behind 54 = .ok (.iaload, 1) := by decide +kernel
theorem dX1_behind_55 : decode cX1_behind 55 = .ok (.iconst 2, 1) := by decide +kernel
theorem dX1_behind_56 : decode cX1_behind 56 = .ok (.if_icmp .eq 5, 3) := by decide +kernel
theorem dX1_behind_59 : decode cX1_behind 59 = .ok (.iconst (-1), 1) := by decide +kernel
theorem dX1_behind_60 : decode cX1_behind 60 = .ok (.ireturn, 1) := by decide +kernel
theorem dX1_behind_61 : decode cX1_behind 61 = .ok (.aload_n 0, 1) := by decide +kernel
theorem dX1_behind_62 : decode cX1_behind 62 = .ok (.iload_n 1, 1) := by decide +kernel
theorem dX1_behind_63 : decode cX1_behind 63 = .ok (.invokestatic 34, 3) := by decide +kernel
theorem dX1_behind_66 : decode cX1_behind 66 = .ok (.aload_n 0, 1) := by decide +kernel
theorem dX1_behind_67 : decode cX1_behind 67 = .ok (.iload_n 1, 1) := by decide +kernel
theorem dX1_behind_68 : decode cX1_behind 68 = .ok (.invokestatic 40, 3) := by decide +kernel
theorem dX1_behind_71 : decode cX1_behind 71 = .ok (.iload_n 2, 1) := by decide +kernel
theorem dX1_behind_72 : decode cX1_behind 72 = .ok (.iconst 1, 1) := by decide +kernel
theorem dX1_behind_73 : decode cX1_behind 73 = .ok (.iadd, 1) := by decide +kernel
theorem dX1_behind_74 : decode cX1_behind 74 = .ok (.invokevirtual 31, 3) := by decide +kernel
theorem dX1_behind_77 : decode cX1_behind 77 = .ok (.invokevirtual 31, 3) := by decide +kernel
theorem dX1_behind_80 : decode cX1_behind 80 = .ok (.ireturn, 1) := by decide +kernel
noncomputable def fX1_behind (r_X1_behind : Int32 → Int32 → mv_M → Option (Int32 × mv_M)) (a0 : Int32) (a1 : Int32) (M : mv_M) : Option (Int32 × mv_M) :=
  if a1 < 0 then
    some ((-1), M)
  else
    if a1 < (M.1 6 0) then
      mv_chk (mv_inb a1 40) <|
      if (M.1 48 a1.toNatClampNeg) = 1 then
        some (a1 + 1, M)
      else
        if 0 < a0 then
          mv_chk (mv_inb a1 40) <|
          if (M.1 48 a1.toNatClampNeg) = 2 then
            mv_bind (fX6_secondOf a0 M) fun r3 M4 =>
            mv_bind (fX6_firstOf a0 M4) fun r5 M6 =>
            mv_bind (r_X1_behind r5 (a1 + 1) M6) fun r7 M8 =>
            mv_bind (r_X1_behind r3 r7 M8) fun r9 M10 =>
            some (r9, M10)
          else
            some ((-1), M)
        else
          mv_chk (mv_inb a1 40) <|
          if (M.1 48 a1.toNatClampNeg) = 0 then
            some (a1 + 1, M)
          else
            some ((-1), M)
    else
      some ((-1), M)
set_option maxRecDepth 100000 in
set_option maxHeartbeats 4000000 in
theorem zX1_behind {l : Launch} {d : Nat} {Q : Int32 → mv_M → Prop} {r_X1_behind : Int32 → Int32 → mv_M → Option (Int32 × mv_M)} (hd : 1 ≤ d) (hr_X1_behind : ∀ (a0 : Int32) (a1 : Int32) (M : mv_M) (Q : Int32 → mv_M → Prop), mv_ok (r_X1_behind a0 a1 M) Q → mv l mX1_behind (d - 1) 0 0 (lv_args 0 [.ref 6, .int a0, .int a1]) [] M (mv_qI Q)) (a0 : Int32) (a1 : Int32) (M : mv_M) (h : mv_ok (fX1_behind r_X1_behind a0 a1 M) Q) : mv l mX1_behind d 0 0 (lv_args 0 [.ref 6, .int a0, .int a1]) [] M (mv_qI Q) := by
  unfold fX1_behind at h
  show mv l mX1_behind d 0 0 [(0, .ref 6), (1, .int a0), (2, .int a1)] [] M (mv_qI Q)
  refine mv_iload_n 2 dX1_behind_0 rfl ?_
  refine mv_if_lt 12 dX1_behind_1 (by decide) (fun z => ?_) (fun z => ?_)
  · replace h := mv_ifT z h
    refine mv_iconst (-1) dX1_behind_12 (by decide) ?_
    exact mv_iret rfl dX1_behind_13 ⟨_, rfl, h⟩
  · replace h := mv_ifF z h
    refine mv_iload_n 2 dX1_behind_4 rfl ?_
    refine mv_aload_n 0 dX1_behind_5 rfl ?_
    refine mv_getI fX1_9 (by decide) rfl rfl dX1_behind_6 ?_
    refine mv_icmp_lt 14 dX1_behind_9 (by decide) (fun z => ?_) (fun z => ?_)
    · replace h := mv_ifT z h
      refine mv_aload_n 0 dX1_behind_14 rfl ?_
      refine mv_getR 48 fX1_15 (by decide) rfl rfl rfl dX1_behind_15 ?_
      refine mv_iload_n 2 dX1_behind_18 rfl ?_
      obtain ⟨hi1, h⟩ := mv_chkE h
      refine mv_ild (by decide) rfl (mv_inE hi1) dX1_behind_19 ?_
      refine mv_iconst 1 dX1_behind_20 (by decide) ?_
      refine mv_icmp_ne 28 dX1_behind_21 (by decide) (fun z => ?_) (fun z => ?_)
      · replace h := mv_ifF z h
        refine mv_iload_n 1 dX1_behind_28 rfl ?_
        refine mv_if_gt 49 dX1_behind_29 (by decide) (fun z => ?_) (fun z => ?_)
        · replace h := mv_ifT z h
          refine mv_aload_n 0 dX1_behind_49 rfl ?_
          refine mv_getR 48 fX1_15 (by decide) rfl rfl rfl dX1_behind_50 ?_
          refine mv_iload_n 2 dX1_behind_53 rfl ?_
          obtain ⟨hi2, h⟩ := mv_chkE h
          refine mv_ild (by decide) rfl (mv_inE hi2) dX1_behind_54 ?_
          refine mv_iconst 2 dX1_behind_55 (by decide) ?_
          refine mv_icmp_eq 61 dX1_behind_56 (by decide) (fun z => ?_) (fun z => ?_)
          · replace h := mv_ifT z h
            refine mv_aload_n 0 dX1_behind_61 rfl ?_
            refine mv_iload_n 1 dX1_behind_62 rfl ?_
            refine mv_csI (As := [.int a0]) (st := [.ref 6]) okX6_secondOf lX1_34 rfl (Nat.le_of_ble_eq_true rfl) rfl (Nat.le_of_ble_eq_true rfl) dX1_behind_63 (by omega) rfl (zX6_secondOf (d := d - 1) (by omega) a0 M (mv_bindE h)) (fun r3 M4 h => ?_)
            refine mv_aload_n 0 dX1_behind_66 rfl ?_
            refine mv_iload_n 1 dX1_behind_67 rfl ?_
            refine mv_csI (As := [.int a0]) (st := [.ref 6, .int r3, .ref 6]) okX6_firstOf lX1_40 rfl (Nat.le_of_ble_eq_true rfl) rfl (Nat.le_of_ble_eq_true rfl) dX1_behind_68 (by omega) rfl (zX6_firstOf (d := d - 1) (by omega) a0 M4 (mv_bindE h)) (fun r5 M6 h => ?_)
            refine mv_iload_n 2 dX1_behind_71 rfl ?_
            refine mv_iconst 1 dX1_behind_72 (by decide) ?_
            refine mv_iadd dX1_behind_73 ?_
            refine mv_cvI (As := [.int r5, .int (a1 + 1)]) (st := [.int r3, .ref 6]) okX1_behind lX1_31 (by decide) rfl rfl rfl (Nat.le_of_ble_eq_true rfl) rfl (Nat.le_of_ble_eq_true rfl) dX1_behind_74 (by omega) rfl (hr_X1_behind r5 (a1 + 1) M6 _ (mv_bindE h)) (fun r7 M8 h => ?_)
            refine mv_cvI (As := [.int r3, .int r7]) (st := []) okX1_behind lX1_31 (by decide) rfl rfl rfl (Nat.le_of_ble_eq_true rfl) rfl (Nat.le_of_ble_eq_true rfl) dX1_behind_77 (by omega) rfl (hr_X1_behind r3 r7 M8 _ (mv_bindE h)) (fun r9 M10 h => ?_)
            exact mv_iret rfl dX1_behind_80 ⟨_, rfl, h⟩
          · replace h := mv_ifF z h
            refine mv_iconst (-1) dX1_behind_59 (by decide) ?_
            exact mv_iret rfl dX1_behind_60 ⟨_, rfl, h⟩
        · replace h := mv_ifF z h
          refine mv_aload_n 0 dX1_behind_32 rfl ?_
          refine mv_getR 48 fX1_15 (by decide) rfl rfl rfl dX1_behind_33 ?_
          refine mv_iload_n 2 dX1_behind_36 rfl ?_
          obtain ⟨hi11, h⟩ := mv_chkE h
          refine mv_ild (by decide) rfl (mv_inE hi11) dX1_behind_37 ?_
          refine mv_if_ne 47 dX1_behind_38 (by decide) (fun z => ?_) (fun z => ?_)
          · replace h := mv_ifF z h
            refine mv_iconst (-1) dX1_behind_47 (by decide) ?_
            exact mv_iret rfl dX1_behind_48 ⟨_, rfl, h⟩
          · replace h := mv_ifT z h
            refine mv_iload_n 2 dX1_behind_41 rfl ?_
            refine mv_iconst 1 dX1_behind_42 (by decide) ?_
            refine mv_iadd dX1_behind_43 ?_
            refine mv_goto 48 dX1_behind_44 (by decide) ?_
            exact mv_iret rfl dX1_behind_48 ⟨_, rfl, h⟩
      · replace h := mv_ifT z h
        refine mv_iload_n 2 dX1_behind_24 rfl ?_
        refine mv_iconst 1 dX1_behind_25 (by decide) ?_
        refine mv_iadd dX1_behind_26 ?_
        exact mv_iret rfl dX1_behind_27 ⟨_, rfl, h⟩
    · replace h := mv_ifF z h
      refine mv_iconst (-1) dX1_behind_12 (by decide) ?_
      exact mv_iret rfl dX1_behind_13 ⟨_, rfl, h⟩
noncomputable def RX1_behind : Nat → Nat → Int32 → Int32 → mv_M → Option (Int32 × mv_M)
  | 0, _, _, _, _ => none
  | n + 1, s, a0, a1, M =>
    fX1_behind (fun a0 a1 M => RX1_behind n 0 a0 a1 M) a0 a1 M
set_option maxRecDepth 100000 in
theorem zRX1_behind {l : Launch} : ∀ (n d : Nat), n + 2 ≤ d → (∀ (a0 : Int32) (a1 : Int32) (M : mv_M) (Q : Int32 → mv_M → Prop), mv_ok (RX1_behind n 0 a0 a1 M) Q → mv l mX1_behind d 0 0 (lv_args 0 [.ref 6, .int a0, .int a1]) [] M (mv_qI Q)) := by
  intro n
  induction n with
  | zero =>
    intro d hd
    intro a0 a1 M Q h
    rw [RX1_behind] at h
    exact False.elim h
  | succ n ih =>
    intro d hd
    have hi := ih (d - 1) (by omega)
    intro a0 a1 M Q h
    rw [RX1_behind] at h
    exact zX1_behind (by omega) hi a0 a1 M h

noncomputable def tX1_behind (a0 : Int32) (a1 : Int32) (M : mv_M) : Option (Int32 × mv_M) := RX1_behind 12 0 a0 a1 M
theorem ztX1_behind {l : Launch} {d : Nat} {Q : Int32 → mv_M → Prop} (hd : 14 ≤ d) (a0 : Int32) (a1 : Int32) (M : mv_M) (h : mv_ok (tX1_behind a0 a1 M) Q) : mv l mX1_behind d 0 0 (lv_args 0 [.ref 6, .int a0, .int a1]) [] M (mv_qI Q) := (zRX1_behind 12 d hd) a0 a1 M Q h
theorem dX1_fit_0 : decode cX1_fit 0 = .ok (.iconst 0, 1) := by decide +kernel
theorem dX1_fit_1 : decode cX1_fit 1 = .ok (.istore_n 3, 1) := by decide +kernel
theorem dX1_fit_2 : decode cX1_fit 2 = .ok (.iconst 0, 1) := by decide +kernel
theorem dX1_fit_3 : decode cX1_fit 3 = .ok (.istore 4, 2) := by decide +kernel
theorem dX1_fit_5 : decode cX1_fit 5 = .ok (.iload 4, 2) := by decide +kernel
theorem dX1_fit_7 : decode cX1_fit 7 = .ok (.aload_n 1, 1) := by decide +kernel
theorem dX1_fit_8 : decode cX1_fit 8 = .ok (.getfield 22, 3) := by decide +kernel
theorem dX1_fit_11 : decode cX1_fit 11 = .ok (.iload_n 2, 1) := by decide +kernel
theorem dX1_fit_12 : decode cX1_fit 12 = .ok (.iaload, 1) := by decide +kernel
theorem dX1_fit_13 : decode cX1_fit 13 = .ok (.if_icmp .ge 22, 3) := by decide +kernel
theorem dX1_fit_16 : decode cX1_fit 16 = .ok (.aload_n 0, 1) := by decide +kernel
theorem dX1_fit_17 : decode cX1_fit 17 = .ok (.aload_n 1, 1) := by decide +kernel
theorem dX1_fit_18 : decode cX1_fit 18 = .ok (.iload_n 2, 1) := by decide +kernel
theorem dX1_fit_19 : decode cX1_fit 19 = .ok (.iload 4, 2) := by decide +kernel
theorem dX1_fit_21 : decode cX1_fit 21 = .ok (.invokevirtual 27, 3) := by decide +kernel
theorem dX1_fit_24 : decode cX1_fit 24 = .ok (.iload_n 3, 1) := by decide +kernel
theorem dX1_fit_25 : decode cX1_fit 25 = .ok (.invokevirtual 31, 3) := by decide +kernel
theorem dX1_fit_28 : decode cX1_fit 28 = .ok (.istore_n 3, 1) := by decide +kernel
theorem dX1_fit_29 : decode cX1_fit 29 = .ok (.iinc 4 1, 3) := by decide +kernel
theorem dX1_fit_32 : decode cX1_fit 32 = .ok (.goto (-27), 3) := by decide +kernel
theorem dX1_fit_35 : decode cX1_fit 35 = .ok (.iload_n 3, 1) := by decide +kernel
theorem dX1_fit_36 : decode cX1_fit 36 = .ok (.aload_n 0, 1) := by decide +kernel
theorem dX1_fit_37 : decode cX1_fit 37 = .ok (.getfield 9, 3) := by decide +kernel
theorem dX1_fit_40 : decode cX1_fit 40 = .ok (.if_icmp .ne 7, 3) := by decide +kernel
theorem dX1_fit_43 : decode cX1_fit 43 = .ok (.iconst 1, 1) := by decide +kernel
theorem dX1_fit_44 : decode cX1_fit 44 = .ok (.goto 4, 3) := by decide +kernel
theorem dX1_fit_47 : decode cX1_fit 47 = .ok (.iconst 0, 1) := by decide +kernel
theorem dX1_fit_48 : decode cX1_fit 48 = .ok (.ireturn, 1) := by decide +kernel
noncomputable def gX1_fit_5 (b1 : Nat) (x2 : Int32) (x3 : Int32) (x4 : Int32) (M : mv_M) : Option (((Nat × Int32 × Int32 × Int32) ⊕ Int32) × mv_M) :=
  mv_chk (mv_inb x2 12) <|
  if (M.1 (b1 + 2) x2.toNatClampNeg) ≤ x4 then
    if x3 = (M.1 6 0) then
      some (.inr (1), M)
    else
      some (.inr (0), M)
  else
    mv_bind (fX4_nameType b1 x2 x4 M) fun r2 M3 =>
    mv_bind (tX1_behind r2 x3 M3) fun r4 M5 =>
    mv_let (x4 + 1) fun v6 =>
    some (.inl (b1, x2, r4, v6), M5)
noncomputable def fX1_fit_5 (b1 : Nat) (x2 : Int32) (x3 : Int32) (x4 : Int32) (M : mv_M) : Option (Int32 × mv_M) := mv_loop (fun (s : Nat × Int32 × Int32 × Int32) M => gX1_fit_5 s.1 s.2.1 s.2.2.1 s.2.2.2 M) (b1, x2, x3, x4) M
set_option maxRecDepth 100000 in
set_option maxHeartbeats 4000000 in
theorem zX1_fit_5 {l : Launch} {d : Nat} {Q : Int32 → mv_M → Prop} (hd : 15 ≤ d) (b1 : Nat) (x2 : Int32) (x3 : Int32) (x4 : Int32) (M : mv_M) (hb1 : b1 = 9 ∨ b1 = 24) (h : mv_ok (fX1_fit_5 b1 x2 x3 x4 M) Q) : mv l mX1_fit d 0 5 [(0, .ref 6), (1, .ref b1), (2, .int x2), (3, .int x3), (4, .int x4)] [] M (mv_qI Q) := by
  unfold fX1_fit_5 at h
  refine mv_loopE (A := (fun (s : Nat × Int32 × Int32 × Int32) M => (s.1 = 9 ∨ s.1 = 24) → mv l mX1_fit d 0 5 [(0, .ref 6), (1, .ref s.1), (2, .int s.2.1), (3, .int s.2.2.1), (4, .int s.2.2.2)] [] M (mv_qI Q))) ?_ (b1, x2, x3, x4) M h hb1
  · rintro ⟨b1, x2, x3, x4⟩ M h hb1
    replace hb1 : b1 = 9 ∨ b1 = 24 := hb1
    try dsimp only at h
    show mv l mX1_fit d 0 5 [(0, .ref 6), (1, .ref b1), (2, .int x2), (3, .int x3), (4, .int x4)] [] M (mv_qI Q)
    unfold gX1_fit_5 at h
    refine mv_iload 4 dX1_fit_5 rfl ?_
    refine mv_aload_n 1 dX1_fit_7 rfl ?_
    refine mv_getR (b1 + 2) fX1_22 (mv_pN (t := 0) hb1 (by decide)) (by rcases hb1 with rfl | rfl <;> rfl) rfl (by rcases hb1 with rfl | rfl <;> rfl) dX1_fit_8 ?_
    refine mv_iload_n 2 dX1_fit_11 rfl ?_
    obtain ⟨hi1, h⟩ := mv_chkE h
    refine mv_ild (mv_pN (t := 2) hb1 (by decide)) (by rcases hb1 with rfl | rfl <;> rfl) (mv_inE hi1) dX1_fit_12 ?_
    refine mv_icmp_ge 35 dX1_fit_13 (by decide) (fun z => ?_) (fun z => ?_)
    · replace h := mv_ifT z h
      refine mv_iload_n 3 dX1_fit_35 rfl ?_
      refine mv_aload_n 0 dX1_fit_36 rfl ?_
      refine mv_getI fX1_9 (by decide) rfl rfl dX1_fit_37 ?_
      refine mv_icmp_ne 47 dX1_fit_40 (by decide) (fun z => ?_) (fun z => ?_)
      · replace h := mv_ifF z h
        refine mv_iconst 0 dX1_fit_47 (by decide) ?_
        exact mv_zret (by decide) rfl dX1_fit_48 ⟨_, rfl, h⟩
      · replace h := mv_ifT z h
        refine mv_iconst 1 dX1_fit_43 (by decide) ?_
        refine mv_goto 48 dX1_fit_44 (by decide) ?_
        exact mv_zret (by decide) rfl dX1_fit_48 ⟨_, rfl, h⟩
    · replace h := mv_ifF z h
      refine mv_aload_n 0 dX1_fit_16 rfl ?_
      refine mv_aload_n 1 dX1_fit_17 rfl ?_
      refine mv_iload_n 2 dX1_fit_18 rfl ?_
      refine mv_iload 4 dX1_fit_19 rfl ?_
      refine mv_cvI (As := [.int x2, .int x4]) (st := [.ref 6]) okX4_nameType lX1_27 (mv_pN (t := 0) hb1 (by decide)) (by rcases hb1 with rfl | rfl <;> rfl) rfl rfl (Nat.le_of_ble_eq_true rfl) rfl (Nat.le_of_ble_eq_true rfl) dX1_fit_21 (by omega) rfl (zX4_nameType (d := d - 1) (by omega) b1 x2 x4 M hb1 (mv_bindE h)) (fun r2 M3 h => ?_)
      refine mv_iload_n 3 dX1_fit_24 rfl ?_
      refine mv_cvI (As := [.int r2, .int x3]) (st := []) okX1_behind lX1_31 (by decide) rfl rfl rfl (Nat.le_of_ble_eq_true rfl) rfl (Nat.le_of_ble_eq_true rfl) dX1_fit_25 (by omega) rfl (ztX1_behind (d := d - 1) (by omega) r2 x3 M3 (mv_bindE h)) (fun r4 M5 h => ?_)
      refine mv_istore_n [(3, .int r4), (0, .ref 6), (1, .ref b1), (2, .int x2), (4, .int x4)] dX1_fit_28 (by decide) rfl ?_
      obtain ⟨v6, ev6⟩ : ∃ z : Int32, z = x4 + 1 := ⟨_, rfl⟩
      replace h := mv_letE h v6 ev6
      refine mv_iinc v6 4 [(4, .int v6), (3, .int r4), (0, .ref 6), (1, .ref b1), (2, .int x2)] dX1_fit_29 rfl (by rw [ev6]; rfl) (by decide) rfl ?_
      refine mv_goto 5 dX1_fit_32 (by decide) ?_
      refine mv_sub [2, 3, 4, 1, 0] rfl ?_
      exact h hb1
noncomputable def fX1_fit (b1 : Nat) (a1 : Int32) (M : mv_M) : Option (Int32 × mv_M) :=
  fX1_fit_5 b1 a1 0 0 M
set_option maxRecDepth 100000 in
set_option maxHeartbeats 4000000 in
theorem zX1_fit {l : Launch} {d : Nat} {Q : Int32 → mv_M → Prop} (hd : 15 ≤ d) (b1 : Nat) (a1 : Int32) (M : mv_M) (hb1 : b1 = 9 ∨ b1 = 24) (h : mv_ok (fX1_fit b1 a1 M) Q) : mv l mX1_fit d 0 0 (lv_args 0 [.ref 6, .ref b1, .int a1]) [] M (mv_qI Q) := by
  unfold fX1_fit at h
  show mv l mX1_fit d 0 0 [(0, .ref 6), (1, .ref b1), (2, .int a1)] [] M (mv_qI Q)
  refine mv_iconst 0 dX1_fit_0 (by decide) ?_
  refine mv_istore_n [(3, .int 0), (0, .ref 6), (1, .ref b1), (2, .int a1)] dX1_fit_1 (by decide) rfl ?_
  refine mv_iconst 0 dX1_fit_2 (by decide) ?_
  refine mv_istore [(4, .int 0), (3, .int 0), (0, .ref 6), (1, .ref b1), (2, .int a1)] dX1_fit_3 (by decide) rfl ?_
  refine mv_sub [2, 3, 4, 1, 0] rfl ?_
  exact zX1_fit_5 hd b1 a1 0 0 M hb1 h
