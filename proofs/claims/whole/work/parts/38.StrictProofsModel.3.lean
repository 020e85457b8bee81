theorem dX11_parse_0 : decode cX11_parse 0 = .ok (.aload_n 0, 1) := by decide +kernel
theorem dX11_parse_1 : decode cX11_parse 1 = .ok (.iconst 0, 1) := by decide +kernel
theorem dX11_parse_2 : decode cX11_parse 2 = .ok (.putfield 242, 3) := by decide +kernel
theorem dX11_parse_5 : decode cX11_parse 5 = .ok (.aload_n 0, 1) := by decide +kernel
theorem dX11_parse_6 : decode cX11_parse 6 = .ok (.iconst 0, 1) := by decide +kernel
theorem dX11_parse_7 : decode cX11_parse 7 = .ok (.putfield 245, 3) := by decide +kernel
theorem dX11_parse_10 : decode cX11_parse 10 = .ok (.aload_n 0, 1) := by decide +kernel
theorem dX11_parse_11 : decode cX11_parse 11 = .ok (.iconst 0, 1) := by decide +kernel
theorem dX11_parse_12 : decode cX11_parse 12 = .ok (.putfield 248, 3) := by decide +kernel
theorem dX11_parse_15 : decode cX11_parse 15 = .ok (.aload_n 0, 1) := by decide +kernel
theorem dX11_parse_16 : decode cX11_parse 16 = .ok (.iconst 0, 1) := by decide +kernel
theorem dX11_parse_17 : decode cX11_parse 17 = .ok (.putfield 251, 3) := by decide +kernel
theorem dX11_parse_20 : decode cX11_parse 20 = .ok (.aload_n 0, 1) := by decide +kernel
theorem dX11_parse_21 : decode cX11_parse 21 = .ok (.iload_n 1, 1) := by decide +kernel
theorem dX11_parse_22 : decode cX11_parse 22 = .ok (.iconst 0, 1) := by decide +kernel
theorem dX11_parse_23 : decode cX11_parse 23 = .ok (.invokevirtual 254, 3) := by decide +kernel
theorem dX11_parse_26 : decode cX11_parse 26 = .ok (.aload_n 0, 1) := by decide +kernel
theorem dX11_parse_27 : decode cX11_parse 27 = .ok (.getfield 242, 3) := by decide +kernel
theorem dX11_parse_30 : decode cX11_parse 30 = .ok (.ifCond .le 90, 3) := by decide +kernel
theorem dX11_parse_33 : decode cX11_parse 33 = .ok (.aload_n 0, 1) := by decide +kernel
theorem dX11_parse_34 : decode cX11_parse 34 = .ok (.getfield 176, 3) := by decide +kernel
theorem dX11_parse_37 : decode cX11_parse 37 = .ok (.ifCond .ne 83, 3) := by decide +kernel
theorem dX11_parse_40 : decode cX11_parse 40 = .ok (.aload_n 0, 1) := by decide +kernel
theorem dX11_parse_41 : decode cX11_parse 41 = .ok (.dup, 1) := by decide +kernel
theorem dX11_parse_42 : decode cX11_parse 42 = .ok (.getfield 242, 3) := by decide +kernel
theorem dX11_parse_45 : decode cX11_parse 45 = .ok (.iconst 1, 1) := by decide +kernel
theorem dX11_parse_46 : decode cX11_parse 46 = .ok (.isub, 1) := by decide +kernel
theorem dX11_parse_47 : decode cX11_parse 47 = .ok (.putfield 242, 3) := by decide +kernel
theorem dX11_parse_50 : decode cX11_parse 50 = .ok (.aload_n 0, 1) := by decide +kernel
theorem dX11_parse_51 : decode cX11_parse 51 = .ok (.getfield 69, 3) := by decide +kernel
theorem dX11_parse_54 : decode cX11_parse 54 = .ok (.aload_n 0, 1) := by decide +kernel
theorem dX11_parse_55 : decode cX11_parse 55 = .ok (.getfield 242, 3) := by decide +kernel
theorem dX11_parse_58 : decode cX11_parse 58 = .ok (.iaload, 1) := by decide +kernel
theorem dX11_parse_59 : decode cX11_parse 59 = .ok (.istore_n 2, 1) := by decide +kernel
theorem dX11_parse_60 : decode cX11_parse 60 = .ok (.aload_n 0, 1) := by decide +kernel
theorem dX11_parse_61 : decode cX11_parse 61 = .ok (.getfield 72, 3) := by decide +kernel
theorem dX11_parse_64 : decode cX11_parse 64 = .ok (.aload_n 0, 1) := by decide +kernel
theorem dX11_parse_65 : decode cX11_parse 65 = .ok (.getfield 242, 3) := by decide +kernel
theorem dX11_parse_68 : decode cX11_parse 68 = .ok (.iaload, 1) := by decide +kernel
theorem dX11_parse_69 : decode cX11_parse 69 = .ok (.istore_n 3, 1) := by decide +kernel
theorem dX11_parse_70 : decode cX11_parse 70 = .ok (.iload_n 2, 1) := by decide +kernel
theorem dX11_parse_71 : decode cX11_parse 71 = .ok (.iconst 3, 1) := by decide +kernel
theorem dX11_parse_72 : decode cX11_parse 72 = .ok (.if_icmp .gt 12, 3) := by decide +kernel
theorem dX11_parse_75 : decode cX11_parse 75 = .ok (.aload_n 0, 1) := by decide +kernel
theorem dX11_parse_76 : decode cX11_parse 76 = .ok (.iload_n 2, 1) := by decide +kernel
theorem dX11_parse_77 : decode cX11_parse 77 = .ok (.iload_n 3, 1) := by decide +kernel
theorem dX11_parse_78 : decode cX11_parse 78 = .ok (.invokevirtual 257, 3) := by decide +kernel
theorem dX11_parse_81 : decode cX11_parse 81 = .ok (.goto 36, 3) := by decide +kernel
theorem dX11_parse_84 : decode cX11_parse 84 = .ok (.iload_n 2, 1) := by decide +kernel
theorem dX11_parse_85 : decode cX11_parse 85 = .ok (.iconst 4, 1) := by decide +kernel
theorem dX11_parse_86 : decode cX11_parse 86 = .ok (.if_icmp .ne 10, 3) := by decide +kernel
theorem dX11_parse_89 : decode cX11_parse 89 = .ok (.aload_n 0, 1) := by decide +kernel
theorem dX11_parse_90 : decode cX11_parse 90 = .ok (.invokevirtual 260, 3) := by decide +kernel
theorem dX11_parse_93 : decode cX11_parse 93 = .ok (.goto 24, 3) := by decide +kernel
theorem dX11_parse_96 : decode cX11_parse 96 = .ok (.iload_n 2, 1) := by decide +kernel
theorem dX11_parse_97 : decode cX11_parse 97 = .ok (.bipush 12, 2) := by decide +kernel
theorem dX11_parse_99 : decode cX11_parse 99 = .ok (.if_icmp .gt 12, 3) := by decide +kernel
theorem dX11_parse_102 : decode cX11_parse 102 = .ok (.aload_n 0, 1) := by decide +kernel
theorem dX11_parse_103 : decode cX11_parse 103 = .ok (.iload_n 2, 1) := by decide +kernel
theorem dX11_parse_104 : decode cX11_parse 104 = .ok (.iload_n 3, 1) := by decide +kernel
theorem dX11_parse_105 : decode cX11_parse 105 = .ok (.invokevirtual 263, 3) := by decide +kernel
theorem dX11_parse_108 : decode cX11_parse 108 = .ok (.goto 9, 3) := by decide +kernel
theorem dX11_parse_111 : decode cX11_parse 111 = .ok (.aload_n 0, 1) := by decide +kernel
theorem dX11_parse_112 : decode cX11_parse 112 = .ok (.iload_n 2, 1) := by decide +kernel
theorem dX11_parse_113 : decode cX11_parse 113 = .ok (.iload_n 3, 1) := by decide +kernel
theorem dX11_parse_114 : decode cX11_parse 114 = .ok (.invokevirtual 266, 3) := by decide +kernel
theorem dX11_parse_117 : decode cX11_parse 117 = .ok (.goto (-91), 3) := by decide +kernel
theorem dX11_parse_120 : decode cX11_parse 120 = .ok (.return_, 1) := by decide +kernel
noncomputable def fX11_parse_117 (M : mv_M) : Option (((Unit) ⊕ Unit) × mv_M) :=
  some (.inl (), M)
set_option maxRecDepth 100000 in
set_option maxHeartbeats 4000000 in
theorem zX11_parse_117 {l : Launch} {d : Nat} {Q : Unit → mv_M → Prop} (hd : 7 ≤ d) (M : mv_M) (h : mv_ok (fX11_parse_117 M) (mv_pq (fun (s : Unit) M => mv l mX11_parse d 0 26 [(0, .ref 62)] [] M (mv_qV Q)) Q)) : mv l mX11_parse d 0 117 [(0, .ref 62)] [] M (mv_qV Q) := by
  unfold fX11_parse_117 at h
  refine mv_goto 26 dX11_parse_117 (by decide) ?_
  refine mv_sub [0] rfl ?_
  exact h
noncomputable def gX11_parse_26 (M : mv_M) : Option (((Unit) ⊕ Unit) × mv_M) :=
  if (M.1 62 36) ≤ 0 then
    some (.inr (()), M)
  else
    if (M.1 62 9) = 0 then
      mv_let (mv_si M 62 36 ((M.1 62 36) - 1)) fun M6 =>
      mv_chk (mv_inb (M6.1 62 36) 3000) <|
      mv_let (M6.1 81 (M6.1 62 36).toNatClampNeg) fun v8 =>
      mv_chk (mv_inb (M6.1 62 36) 3000) <|
      mv_let (M6.1 82 (M6.1 62 36).toNatClampNeg) fun v10 =>
      if 3 < v8 then
        if v8 = 4 then
          mv_bind (fX11_onE M6) fun _ M13 =>
          fX11_parse_117 M13
        else
          if 12 < v8 then
            mv_bind (fX11_onRest v8 v10 M6) fun _ M11 =>
            fX11_parse_117 M11
          else
            mv_bind (fX11_onSum v8 v10 M6) fun _ M12 =>
            fX11_parse_117 M12
      else
        mv_bind (fX11_onType v8 v10 M6) fun _ M14 =>
        fX11_parse_117 M14
    else
      some (.inr (()), M)
noncomputable def fX11_parse_26 (M : mv_M) : Option (Unit × mv_M) := mv_loop (fun (s : Unit) M => gX11_parse_26  M) () M
set_option maxRecDepth 100000 in
set_option maxHeartbeats 4000000 in
theorem zX11_parse_26 {l : Launch} {d : Nat} {Q : Unit → mv_M → Prop} (hd : 7 ≤ d) (M : mv_M) (h : mv_ok (fX11_parse_26 M) Q) : mv l mX11_parse d 0 26 [(0, .ref 62)] [] M (mv_qV Q) := by
  unfold fX11_parse_26 at h
  refine mv_loopE (A := (fun (s : Unit) M => mv l mX11_parse d 0 26 [(0, .ref 62)] [] M (mv_qV Q))) ?_ () M h
  · intro s M h
    try dsimp only at h
    show mv l mX11_parse d 0 26 [(0, .ref 62)] [] M (mv_qV Q)
    unfold gX11_parse_26 at h
    refine mv_aload_n 0 dX11_parse_26 rfl ?_
    refine mv_getI fX11_242 (by decide) rfl rfl dX11_parse_27 ?_
    refine mv_if_le 120 dX11_parse_30 (by decide) (fun z => ?_) (fun z => ?_)
    · replace h := mv_ifT z h
      exact mv_vret rfl dX11_parse_120 ⟨rfl, h⟩
    · replace h := mv_ifF z h
      refine mv_aload_n 0 dX11_parse_33 rfl ?_
      refine mv_getI fX11_176 (by decide) rfl rfl dX11_parse_34 ?_
      refine mv_if_ne 120 dX11_parse_37 (by decide) (fun z => ?_) (fun z => ?_)
      · replace h := mv_ifF z h
        exact mv_vret rfl dX11_parse_120 ⟨rfl, h⟩
      · replace h := mv_ifT z h
        refine mv_aload_n 0 dX11_parse_40 rfl ?_
        refine mv_dup dX11_parse_41 rfl ?_
        refine mv_getI fX11_242 (by decide) rfl rfl dX11_parse_42 ?_
        refine mv_iconst 1 dX11_parse_45 (by decide) ?_
        refine mv_isub dX11_parse_46 ?_
        refine mv_putI fX11_242 (by decide) rfl rfl dX11_parse_47 (fun M6 eM6 => ?_)
        replace h := mv_letE h M6 eM6
        refine mv_aload_n 0 dX11_parse_50 rfl ?_
        refine mv_getR 81 fX11_69 (by decide) rfl rfl rfl dX11_parse_51 ?_
        refine mv_aload_n 0 dX11_parse_54 rfl ?_
        refine mv_getI fX11_242 (by decide) rfl rfl dX11_parse_55 ?_
        obtain ⟨hi7, h⟩ := mv_chkE h
        refine mv_ild (by decide) rfl (mv_inE hi7) dX11_parse_58 ?_
        refine mv_topi (fun v8 ev8 => ?_)
        replace h := mv_letE h v8 ev8
        refine mv_istore_n [(2, .int v8), (0, .ref 62)] dX11_parse_59 (by decide) rfl ?_
        refine mv_aload_n 1 dX11_parse_60 rfl ?_
        refine mv_getR 82 fX11_72 (by decide) rfl rfl rfl dX11_parse_61 ?_
        refine mv_aload_n 1 dX11_parse_64 rfl ?_
        refine mv_getI fX11_242 (by decide) rfl rfl dX11_parse_65 ?_
        obtain ⟨hi9, h⟩ := mv_chkE h
        refine mv_ild (by decide) rfl (mv_inE hi9) dX11_parse_68 ?_
        refine mv_topi (fun v10 ev10 => ?_)
        replace h := mv_letE h v10 ev10
        refine mv_istore_n [(3, .int v10), (2, .int v8), (0, .ref 62)] dX11_parse_69 (by decide) rfl ?_
        refine mv_iload_n 1 dX11_parse_70 rfl ?_
        refine mv_iconst 3 dX11_parse_71 (by decide) ?_
        refine mv_icmp_gt 84 dX11_parse_72 (by decide) (fun z => ?_) (fun z => ?_)
        · replace h := mv_ifT z h
          refine mv_iload_n 1 dX11_parse_84 rfl ?_
          refine mv_iconst 4 dX11_parse_85 (by decide) ?_
          refine mv_icmp_ne 96 dX11_parse_86 (by decide) (fun z => ?_) (fun z => ?_)
          · replace h := mv_ifF z h
            refine mv_iload_n 1 dX11_parse_96 rfl ?_
            refine mv_bipush 12 dX11_parse_97 (by decide) ?_
            refine mv_icmp_gt 111 dX11_parse_99 (by decide) (fun z => ?_) (fun z => ?_)
            · replace h := mv_ifT z h
              refine mv_aload_n 2 dX11_parse_111 rfl ?_
              refine mv_iload_n 1 dX11_parse_112 rfl ?_
              refine mv_iload_n 0 dX11_parse_113 rfl ?_
              refine mv_cvV (As := [.int v8, .int v10]) (st := []) okX11_onRest lX11_266 (by decide) rfl rfl rfl (Nat.le_of_ble_eq_true rfl) rfl (Nat.le_of_ble_eq_true rfl) dX11_parse_114 (by omega) rfl (zX11_onRest (d := d - 1) (by omega) v8 v10 M6 (mv_bindE h)) (fun _ M11 h => ?_)
              refine mv_sub [2] rfl ?_
              exact zX11_parse_117 hd M11 h
            · replace h := mv_ifF z h
              refine mv_aload_n 2 dX11_parse_102 rfl ?_
              refine mv_iload_n 1 dX11_parse_103 rfl ?_
              refine mv_iload_n 0 dX11_parse_104 rfl ?_
              refine mv_cvV (As := [.int v8, .int v10]) (st := []) okX11_onSum lX11_263 (by decide) rfl rfl rfl (Nat.le_of_ble_eq_true rfl) rfl (Nat.le_of_ble_eq_true rfl) dX11_parse_105 (by omega) rfl (zX11_onSum (d := d - 1) (by omega) v8 v10 M6 (mv_bindE h)) (fun _ M12 h => ?_)
              refine mv_goto 117 dX11_parse_108 (by decide) ?_
              refine mv_sub [2] rfl ?_
              exact zX11_parse_117 hd M12 h
          · replace h := mv_ifT z h
            refine mv_aload_n 2 dX11_parse_89 rfl ?_
            refine mv_cvV (As := []) (st := []) okX11_onE lX11_260 (by decide) rfl rfl rfl (Nat.le_of_ble_eq_true rfl) rfl (Nat.le_of_ble_eq_true rfl) dX11_parse_90 (by omega) rfl (zX11_onE (d := d - 1) (by omega) M6 (mv_bindE h)) (fun _ M13 h => ?_)
            refine mv_goto 117 dX11_parse_93 (by decide) ?_
            refine mv_sub [2] rfl ?_
            exact zX11_parse_117 hd M13 h
        · replace h := mv_ifF z h
          refine mv_aload_n 2 dX11_parse_75 rfl ?_
          refine mv_iload_n 1 dX11_parse_76 rfl ?_
          refine mv_iload_n 0 dX11_parse_77 rfl ?_
          refine mv_cvV (As := [.int v8, .int v10]) (st := []) okX11_onType lX11_257 (by decide) rfl rfl rfl (Nat.le_of_ble_eq_true rfl) rfl (Nat.le_of_ble_eq_true rfl) dX11_parse_78 (by omega) rfl (zX11_onType (d := d - 1) (by omega) v8 v10 M6 (mv_bindE h)) (fun _ M14 h => ?_)
          refine mv_goto 117 dX11_parse_81 (by decide) ?_
          refine mv_sub [2] rfl ?_
          exact zX11_parse_117 hd M14 h
noncomputable def fX11_parse (a0 : Int32) (M : mv_M) : Option (Unit × mv_M) :=
  mv_let (mv_si M 62 36 0) fun M1 =>
  mv_let (mv_si M1 62 38 0) fun M2 =>
  mv_let (mv_si M2 62 40 0) fun M3 =>
  mv_let (mv_si M3 62 41 0) fun M4 =>
  mv_bind (fX11_push a0 0 M4) fun _ M5 =>
  fX11_parse_26 M5
set_option maxRecDepth 100000 in
set_option maxHeartbeats 4000000 in
theorem zX11_parse {l : Launch} {d : Nat} {Q : Unit → mv_M → Prop} (hd : 7 ≤ d) (a0 : Int32) (M : mv_M) (h : mv_ok (fX11_parse a0 M) Q) : mv l mX11_parse d 0 0 (lv_args 0 [.ref 62, .int a0]) [] M (mv_qV Q) := by
  unfold fX11_parse at h
  show mv l mX11_parse d 0 0 [(0, .ref 62), (1, .int a0)] [] M (mv_qV Q)
  refine mv_aload_n 0 dX11_parse_0 rfl ?_
  refine mv_iconst 0 dX11_parse_1 (by decide) ?_
  refine mv_putI fX11_242 (by decide) rfl rfl dX11_parse_2 (fun M1 eM1 => ?_)
  replace h := mv_letE h M1 eM1
  refine mv_aload_n 0 dX11_parse_5 rfl ?_
  refine mv_iconst 0 dX11_parse_6 (by decide) ?_
  refine mv_putI fX11_245 (by decide) rfl rfl dX11_parse_7 (fun M2 eM2 => ?_)
  replace h := mv_letE h M2 eM2
  refine mv_aload_n 0 dX11_parse_10 rfl ?_
  refine mv_iconst 0 dX11_parse_11 (by decide) ?_
  refine mv_putI fX11_248 (by decide) rfl rfl dX11_parse_12 (fun M3 eM3 => ?_)
  replace h := mv_letE h M3 eM3
  refine mv_aload_n 0 dX11_parse_15 rfl ?_
  refine mv_iconst 0 dX11_parse_16 (by decide) ?_
  refine mv_putI fX11_251 (by decide) rfl rfl dX11_parse_17 (fun M4 eM4 => ?_)
  replace h := mv_letE h M4 eM4
  refine mv_aload_n 0 dX11_parse_20 rfl ?_
  refine mv_iload_n 1 dX11_parse_21 rfl ?_
  refine mv_iconst 0 dX11_parse_22 (by decide) ?_
  refine mv_cvV (As := [.int a0, .int 0]) (st := []) okX11_push lX11_254 (by decide) rfl rfl rfl (Nat.le_of_ble_eq_true rfl) rfl (Nat.le_of_ble_eq_true rfl) dX11_parse_23 (by omega) rfl (zX11_push (d := d - 1) (by omega) a0 0 M4 (mv_bindE h)) (fun _ M5 h => ?_)
  refine mv_sub [0] rfl ?_
  exact zX11_parse_26 hd M5 h
theorem dX11_type_0 : decode cX11_type 0 = .ok (.aload_n 0, 1) := by decide +kernel
theorem dX11_type_1 : decode cX11_type 1 = .ok (.getfield 176, 3) := by decide +kernel
theorem dX11_type_4 : decode cX11_type 4 = .ok (.ifCond .ne 8, 3) := by decide +kernel
theorem dX11_type_7 : decode cX11_type 7 = .ok (.aload_n 0, 1) := by decide +kernel
theorem dX11_type_8 : decode cX11_type 8 = .ok (.iconst 2, 1) := by decide +kernel
theorem dX11_type_9 : decode cX11_type 9 = .ok (.invokevirtual 307, 3) := by decide +kernel
theorem dX11_type_12 : decode cX11_type 12 = .ok (.aload_n 0, 1) := by decide +kernel
theorem dX11_type_13 : decode cX11_type 13 = .ok (.getfield 176, 3) := by decide +kernel
theorem dX11_type_16 : decode cX11_type 16 = .ok (.ifCond .ne 12, 3) := by decide +kernel
theorem dX11_type_19 : decode cX11_type 19 = .ok (.aload_n 0, 1) := by decide +kernel
theorem dX11_type_20 : decode cX11_type 20 = .ok (.getfield 78, 3) := by decide +kernel
theorem dX11_type_23 : decode cX11_type 23 = .ok (.iconst 0, 1) := by decide +kernel
theorem dX11_type_24 : decode cX11_type 24 = .ok (.iaload, 1) := by decide +kernel
theorem dX11_type_25 : decode cX11_type 25 = .ok (.goto 4, 3) := by decide +kernel
theorem dX11_type_28 : decode cX11_type 28 = .ok (.iconst 0, 1) := by decide +kernel
theorem dX11_type_29 : decode cX11_type 29 = .ok (.ireturn, 1) := by decide +kernel
noncomputable def fX11_type_12 (M : mv_M) : Option (Int32 × mv_M) :=
  if (M.1 62 9) = 0 then
    some (M.1 84 (0 : Int32).toNatClampNeg, M)
  else
    some (0, M)
set_option maxRecDepth 100000 in
set_option maxHeartbeats 4000000 in
theorem zX11_type_12 {l : Launch} {d : Nat} {Q : Int32 → mv_M → Prop} (hd : 8 ≤ d) (M : mv_M) (h : mv_ok (fX11_type_12 M) Q) : mv l mX11_type d 0 12 [(0, .ref 62)] [] M (mv_qI Q) := by
  unfold fX11_type_12 at h
  refine mv_aload_n 0 dX11_type_12 rfl ?_
  refine mv_getI fX11_176 (by decide) rfl rfl dX11_type_13 ?_
  refine mv_if_ne 28 dX11_type_16 (by decide) (fun z => ?_) (fun z => ?_)
  · replace h := mv_ifF z h
    refine mv_iconst 0 dX11_type_28 (by decide) ?_
    exact mv_iret rfl dX11_type_29 ⟨_, rfl, h⟩
  · replace h := mv_ifT z h
    refine mv_aload_n 0 dX11_type_19 rfl ?_
    refine mv_getR 84 fX11_78 (by decide) rfl rfl rfl dX11_type_20 ?_
    refine mv_iconst 0 dX11_type_23 (by decide) ?_
    refine mv_ild (by decide) rfl (mv_inE (by decide)) dX11_type_24 ?_
    refine mv_goto 29 dX11_type_25 (by decide) ?_
    exact mv_iret rfl dX11_type_29 ⟨_, rfl, h⟩
noncomputable def fX11_type (M : mv_M) : Option (Int32 × mv_M) :=
  if (M.1 62 9) = 0 then
    mv_bind (fX11_parse 2 M) fun _ M1 =>
    fX11_type_12 M1
  else
    fX11_type_12 M
set_option maxRecDepth 100000 in
set_option maxHeartbeats 4000000 in
theorem zX11_type {l : Launch} {d : Nat} {Q : Int32 → mv_M → Prop} (hd : 8 ≤ d) (M : mv_M) (h : mv_ok (fX11_type M) Q) : mv l mX11_type d 0 0 (lv_args 0 [.ref 62]) [] M (mv_qI Q) := by
  unfold fX11_type at h
  show mv l mX11_type d 0 0 [(0, .ref 62)] [] M (mv_qI Q)
  refine mv_aload_n 0 dX11_type_0 rfl ?_
  refine mv_getI fX11_176 (by decide) rfl rfl dX11_type_1 ?_
  refine mv_if_ne 12 dX11_type_4 (by decide) (fun z => ?_) (fun z => ?_)
  · replace h := mv_ifF z h
    refine mv_sub [0] rfl ?_
    exact zX11_type_12 hd M h
  · replace h := mv_ifT z h
    refine mv_aload_n 0 dX11_type_7 rfl ?_
    refine mv_iconst 2 dX11_type_8 (by decide) ?_
    refine mv_cvV (As := [.int 2]) (st := []) okX11_parse lX11_307 (by decide) rfl rfl rfl (Nat.le_of_ble_eq_true rfl) rfl (Nat.le_of_ble_eq_true rfl) dX11_type_9 (by omega) rfl (zX11_parse (d := d - 1) (by omega) 2 M (mv_bindE h)) (fun _ M1 h => ?_)
    refine mv_sub [0] rfl ?_
    exact zX11_type_12 hd M1 h
theorem dX11_definition_0 : decode cX11_definition 0 = .ok (.aload_n 0, 1) := by decide +kernel
theorem dX11_definition_1 : decode cX11_definition 1 = .ok (.getfield 176, 3) := by decide +kernel
theorem dX11_definition_4 : decode cX11_definition 4 = .ok (.ifCond .ne 21, 3) := by decide +kernel
theorem dX11_definition_7 : decode cX11_definition 7 = .ok (.aload_n 0, 1) := by decide +kernel
theorem dX11_definition_8 : decode cX11_definition 8 = .ok (.getfield 193, 3) := by decide +kernel
theorem dX11_definition_11 : decode cX11_definition 11 = .ok (.bipush 10, 2) := by decide +kernel
theorem dX11_definition_13 : decode cX11_definition 13 = .ok (.if_icmp .eq 12, 3) := by decide +kernel
theorem dX11_definition_16 : decode cX11_definition 16 = .ok (.aload_n 0, 1) := by decide +kernel
theorem dX11_definition_17 : decode cX11_definition 17 = .ok (.iconst 2, 1) := by decide +kernel
theorem dX11_definition_18 : decode cX11_definition 18 = .ok (.aload_n 0, 1) := by decide +kernel
theorem dX11_definition_19 : decode cX11_definition 19 = .ok (.getfield 190, 3) := by decide +kernel
theorem dX11_definition_22 : decode cX11_definition 22 = .ok (.invokevirtual 205, 3) := by decide +kernel
theorem dX11_definition_25 : decode cX11_definition 25 = .ok (.bipush 12, 2) := by decide +kernel
theorem dX11_definition_27 : decode cX11_definition 27 = .ok (.aload_n 0, 1) := by decide +kernel
theorem dX11_definition_28 : decode cX11_definition 28 = .ok (.getfield 310, 3) := by decide +kernel
theorem dX11_definition_31 : decode cX11_definition 31 = .ok (.imul, 1) := by decide +kernel
theorem dX11_definition_32 : decode cX11_definition 32 = .ok (.istore_n 1, 1) := by decide +kernel
theorem dX11_definition_33 : decode cX11_definition 33 = .ok (.iload_n 1, 1) := by decide +kernel
theorem dX11_definition_34 : decode cX11_definition 34 = .ok (.bipush 12, 2) := by decide +kernel
theorem dX11_definition_36 : decode cX11_definition 36 = .ok (.aload_n 0, 1) := by decide +kernel
theorem dX11_definition_37 : decode cX11_definition 37 = .ok (.getfield 310, 3) := by decide +kernel
theorem dX11_definition_40 : decode cX11_definition 40 = .ok (.imul, 1) := by decide +kernel
theorem dX11_definition_41 : decode cX11_definition 41 = .ok (.aload_n 0, 1) := by decide +kernel
theorem dX11_definition_42 : decode cX11_definition 42 = .ok (.getfield 313, 3) := by decide +kernel
theorem dX11_definition_45 : decode cX11_definition 45 = .ok (.iadd, 1) := by decide +kernel
theorem dX11_definition_46 : decode cX11_definition 46 = .ok (.if_icmp .ge 39, 3) := by decide +kernel
theorem dX11_definition_49 : decode cX11_definition 49 = .ok (.aload_n 0, 1) := by decide +kernel
theorem dX11_definition_50 : decode cX11_definition 50 = .ok (.getfield 176, 3) := by decide +kernel
theorem dX11_definition_53 : decode cX11_definition 53 = .ok (.ifCond .ne 32, 3) := by decide +kernel
theorem dX11_definition_56 : decode cX11_definition 56 = .ok (.aload_n 0, 1) := by decide +kernel
theorem dX11_definition_57 : decode cX11_definition 57 = .ok (.getfield 17, 3) := by decide +kernel
theorem dX11_definition_60 : decode cX11_definition 60 = .ok (.iload_n 1, 1) := by decide +kernel
theorem dX11_definition_61 : decode cX11_definition 61 = .ok (.laload, 1) := by decide +kernel
theorem dX11_definition_62 : decode cX11_definition 62 = .ok (.aload_n 0, 1) := by decide +kernel
theorem dX11_definition_63 : decode cX11_definition 63 = .ok (.getfield 222, 3) := by decide +kernel
theorem dX11_definition_66 : decode cX11_definition 66 = .ok (.lcmp, 1) := by decide +kernel
theorem dX11_definition_67 : decode cX11_definition 67 = .ok (.ifCond .ne 12, 3) := by decide +kernel
theorem dX11_definition_70 : decode cX11_definition 70 = .ok (.aload_n 0, 1) := by decide +kernel
theorem dX11_definition_71 : decode cX11_definition 71 = .ok (.iconst 3, 1) := by decide +kernel
theorem dX11_definition_72 : decode cX11_definition 72 = .ok (.aload_n 0, 1) := by decide +kernel
theorem dX11_definition_73 : decode cX11_definition 73 = .ok (.getfield 190, 3) := by decide +kernel
theorem dX11_definition_76 : decode cX11_definition 76 = .ok (.invokevirtual 205, 3) := by decide +kernel
theorem dX11_definition_79 : decode cX11_definition 79 = .ok (.iinc 1 1, 3) := by decide +kernel
theorem dX11_definition_82 : decode cX11_definition 82 = .ok (.goto (-49), 3) := by decide +kernel
theorem dX11_definition_85 : decode cX11_definition 85 = .ok (.aload_n 0, 1) := by decide +kernel
theorem dX11_definition_86 : decode cX11_definition 86 = .ok (.getfield 176, 3) := by decide +kernel
theorem dX11_definition_89 : decode cX11_definition 89 = .ok (.ifCond .ne 22, 3) := by decide +kernel
theorem dX11_definition_92 : decode cX11_definition 92 = .ok (.aload_n 0, 1) := by decide +kernel
theorem dX11_definition_93 : decode cX11_definition 93 = .ok (.getfield 313, 3) := by decide +kernel
theorem dX11_definition_96 : decode cX11_definition 96 = .ok (.bipush 12, 2) := by decide +kernel
theorem dX11_definition_98 : decode cX11_definition 98 = .ok (.if_icmp .ne 13, 3) := by decide +kernel
theorem dX11_definition_101 : decode cX11_definition 101 = .ok (.aload_n 0, 1) := by decide +kernel
theorem dX11_definition_102 : decode cX11_definition 102 = .ok (.bipush 6, 2) := by decide +kernel
theorem dX11_definition_104 : decode cX11_definition 104 = .ok (.aload_n 0, 1) := by decide +kernel
theorem dX11_definition_105 : decode cX11_definition 105 = .ok (.getfield 190, 3) := by decide +kernel
theorem dX11_definition_108 : decode cX11_definition 108 = .ok (.invokevirtual 205, 3) := by decide +kernel
theorem dX11_definition_111 : decode cX11_definition 111 = .ok (.aload_n 0, 1) := by decide +kernel
theorem dX11_definition_112 : decode cX11_definition 112 = .ok (.getfield 176, 3) := by decide +kernel
theorem dX11_definition_115 : decode cX11_definition 115 = .ok (.ifCond .eq 4, 3) := by decide +kernel
theorem dX11_definition_118 : decode cX11_definition 118 = .ok (.return_, 1) := by decide +kernel
theorem dX11_definition_119 : decode cX11_definition 119 = .ok (.aload_n 0, 1) := by decide +kernel
theorem dX11_definition_120 : decode cX11_definition 120 = .ok (.bipush 12, 2) := by decide +kernel
theorem dX11_definition_122 : decode cX11_definition 122 = .ok (.aload_n 0, 1) := by decide +kernel
theorem dX11_definition_123 : decode cX11_definition 123 = .ok (.getfield 310, 3) := by decide +kernel
theorem dX11_definition_126 : decode cX11_definition 126 = .ok (.imul, 1) := by decide +kernel
theorem dX11_definition_127 : decode cX11_definition 127 = .ok (.aload_n 0, 1) := by decide +kernel
theorem dX11_definition_128 : decode cX11_definition 128 = .ok (.getfield 313, 3) := by decide +kernel
theorem dX11_definition_131 : decode cX11_definition 131 = .ok (.iadd, 1) := by decide +kernel
theorem dX11_definition_132 : decode cX11_definition 132 = .ok (.putfield 239, 3) := by decide +kernel
theorem dX11_definition_135 : decode cX11_definition 135 = .ok (.aload_n 0, 1) := by decide +kernel
theorem dX11_definition_136 : decode cX11_definition 136 = .ok (.getfield 17, 3) := by decide +kernel
theorem dX11_definition_139 : decode cX11_definition 139 = .ok (.aload_n 0, 1) := by decide +kernel
theorem dX11_definition_140 : decode cX11_definition 140 = .ok (.getfield 239, 3) := by decide +kernel
theorem dX11_definition_143 : decode cX11_definition 143 = .ok (.aload_n 0, 1) := by decide +kernel
theorem dX11_definition_144 : decode cX11_definition 144 = .ok (.getfield 222, 3) := by decide +kernel
theorem dX11_definition_147 : decode cX11_definition 147 = .ok (.lastore, 1) := by decide +kernel
theorem dX11_definition_148 : decode cX11_definition 148 = .ok (.aload_n 0, 1) := by decide +kernel
theorem dX11_definition_149 : decode cX11_definition 149 = .ok (.getfield 24, 3) := by decide +kernel
theorem dX11_definition_152 : decode cX11_definition 152 = .ok (.aload_n 0, 1) := by decide +kernel
theorem dX11_definition_153 : decode cX11_definition 153 = .ok (.getfield 239, 3) := by decide +kernel
theorem dX11_definition_156 : decode cX11_definition 156 = .ok (.iconst 0, 1) := by decide +kernel
theorem dX11_definition_157 : decode cX11_definition 157 = .ok (.iastore, 1) := by decide +kernel
theorem dX11_definition_158 : decode cX11_definition 158 = .ok (.aload_n 0, 1) := by decide +kernel
theorem dX11_definition_159 : decode cX11_definition 159 = .ok (.getfield 27, 3) := by decide +kernel
theorem dX11_definition_162 : decode cX11_definition 162 = .ok (.aload_n 0, 1) := by decide +kernel
theorem dX11_definition_163 : decode cX11_definition 163 = .ok (.getfield 239, 3) := by decide +kernel
theorem dX11_definition_166 : decode cX11_definition 166 = .ok (.iconst 0, 1) := by decide +kernel
theorem dX11_definition_167 : decode cX11_definition 167 = .ok (.iastore, 1) := by decide +kernel
theorem dX11_definition_168 : decode cX11_definition 168 = .ok (.aload_n 0, 1) := by decide +kernel
theorem dX11_definition_169 : decode cX11_definition 169 = .ok (.dup, 1) := by decide +kernel
theorem dX11_definition_170 : decode cX11_definition 170 = .ok (.getfield 313, 3) := by decide +kernel
theorem dX11_definition_173 : decode cX11_definition 173 = .ok (.iconst 1, 1) := by decide +kernel
theorem dX11_definition_174 : decode cX11_definition 174 = .ok (.iadd, 1) := by decide +kernel
theorem dX11_definition_175 : decode cX11_definition 175 = .ok (.putfield 313, 3) := by decide +kernel
theorem dX11_definition_178 : decode cX11_definition 178 = .ok (.aload_n 0, 1) := by decide +kernel
theorem dX11_definition_179 : decode cX11_definition 179 = .ok (.invokevirtual 229, 3) := by decide +kernel
theorem dX11_definition_182 : decode cX11_definition 182 = .ok (.aload_n 0, 1) := by decide +kernel
theorem dX11_definition_183 : decode cX11_definition 183 = .ok (.bipush 14, 2) := by decide +kernel
theorem dX11_definition_185 : decode cX11_definition 185 = .ok (.invokevirtual 269, 3) := by decide +kernel
theorem dX11_definition_188 : decode cX11_definition 188 = .ok (.aload_n 0, 1) := by decide +kernel
theorem dX11_definition_189 : decode cX11_definition 189 = .ok (.getfield 176, 3) := by decide +kernel
theorem dX11_definition_192 : decode cX11_definition 192 = .ok (.ifCond .ne 16, 3) := by decide +kernel
theorem dX11_definition_195 : decode cX11_definition 195 = .ok (.aload_n 0, 1) := by decide +kernel
theorem dX11_definition_196 : decode cX11_definition 196 = .ok (.getfield 193, 3) := by decide +kernel
theorem dX11_definition_199 : decode cX11_definition 199 = .ok (.bipush 15, 2) := by decide +kernel
theorem dX11_definition_201 : decode cX11_definition 201 = .ok (.if_icmp .eq 7, 3) := by decide +kernel
theorem dX11_definition_204 : decode cX11_definition 204 = .ok (.iconst 1, 1) := by decide +kernel
theorem dX11_definition_205 : decode cX11_definition 205 = .ok (.goto 4, 3) := by decide +kernel
theorem dX11_definition_208 : decode cX11_definition 208 = .ok (.iconst 0, 1) := by decide +kernel
theorem dX11_definition_209 : decode cX11_definition 209 = .ok (.istore_n 1, 1) := by decide +kernel
theorem dX11_definition_210 : decode cX11_definition 210 = .ok (.iload_n 1, 1) := by decide +kernel
theorem dX11_definition_211 : decode cX11_definition 211 = .ok (.ifCond .eq 86, 3) := by decide +kernel
theorem dX11_definition_214 : decode cX11_definition 214 = .ok (.aload_n 0, 1) := by decide +kernel
theorem dX11_definition_215 : decode cX11_definition 215 = .ok (.iconst 1, 1) := by decide +kernel
theorem dX11_definition_216 : decode cX11_definition 216 = .ok (.invokevirtual 297, 3) := by decide +kernel
theorem dX11_definition_219 : decode cX11_definition 219 = .ok (.istore_n 2, 1) := by decide +kernel
theorem dX11_definition_220 : decode cX11_definition 220 = .ok (.aload_n 0, 1) := by decide +kernel
theorem dX11_definition_221 : decode cX11_definition 221 = .ok (.getfield 176, 3) := by decide +kernel
theorem dX11_definition_224 : decode cX11_definition 224 = .ok (.ifCond .ne 16, 3) := by decide +kernel
theorem dX11_definition_227 : decode cX11_definition 227 = .ok (.aload_n 0, 1) := by decide +kernel
theorem dX11_definition_228 : decode cX11_definition 228 = .ok (.getfield 24, 3) := by decide +kernel
theorem dX11_definition_231 : decode cX11_definition 231 = .ok (.aload_n 0, 1) := by decide +kernel
theorem dX11_definition_232 : decode cX11_definition 232 = .ok (.getfield 239, 3) := by decide +kernel
theorem dX11_definition_235 : decode cX11_definition 235 = .ok (.dup2, 1) := by decide +kernel
theorem dX11_definition_236 : decode cX11_definition 236 = .ok (.iaload, 1) := by decide +kernel
theorem dX11_definition_237 : decode cX11_definition 237 = .ok (.iconst 1, 1) := by decide +kernel
theorem dX11_definition_238 : decode cX11_definition 238 = .ok (.iadd, 1) := by decide +kernel
theorem dX11_definition_239 : decode cX11_definition 239 = .ok (.iastore, 1) := by decide +kernel
theorem dX11_definition_240 : decode cX11_definition 240 = .ok (.aload_n 0, 1) := by decide +kernel
theorem dX11_definition_241 : decode cX11_definition 241 = .ok (.bipush 18, 2) := by decide +kernel
theorem dX11_definition_243 : decode cX11_definition 243 = .ok (.invokevirtual 269, 3) := by decide +kernel
theorem dX11_definition_246 : decode cX11_definition 246 = .ok (.aload_n 0, 1) := by decide +kernel
theorem dX11_definition_247 : decode cX11_definition 247 = .ok (.getfield 36, 3) := by decide +kernel
theorem dX11_definition_250 : decode cX11_definition 250 = .ok (.bipush 16, 2) := by decide +kernel
theorem dX11_definition_252 : decode cX11_definition 252 = .ok (.aload_n 0, 1) := by decide +kernel
theorem dX11_definition_253 : decode cX11_definition 253 = .ok (.getfield 239, 3) := by decide +kernel
theorem dX11_definition_256 : decode cX11_definition 256 = .ok (.imul, 1) := by decide +kernel
theorem dX11_definition_257 : decode cX11_definition 257 = .ok (.iload_n 2, 1) := by decide +kernel
theorem dX11_definition_258 : decode cX11_definition 258 = .ok (.iadd, 1) := by decide +kernel
theorem dX11_definition_259 : decode cX11_definition 259 = .ok (.aload_n 0, 1) := by decide +kernel
theorem dX11_definition_260 : decode cX11_definition 260 = .ok (.invokevirtual 316, 3) := by decide +kernel
theorem dX11_definition_263 : decode cX11_definition 263 = .ok (.iastore, 1) := by decide +kernel
theorem dX11_definition_264 : decode cX11_definition 264 = .ok (.aload_n 0, 1) := by decide +kernel
theorem dX11_definition_265 : decode cX11_definition 265 = .ok (.getfield 176, 3) := by decide +kernel
theorem dX11_definition_268 : decode cX11_definition 268 = .ok (.ifCond .ne 16, 3) := by decide +kernel
theorem dX11_definition_271 : decode cX11_definition 271 = .ok (.aload_n 0, 1) := by decide +kernel
theorem dX11_definition_272 : decode cX11_definition 272 = .ok (.getfield 193, 3) := by decide +kernel
theorem dX11_definition_275 : decode cX11_definition 275 = .ok (.bipush 16, 2) := by decide +kernel
theorem dX11_definition_277 : decode cX11_definition 277 = .ok (.if_icmp .ne 7, 3) := by decide +kernel
theorem dX11_definition_280 : decode cX11_definition 280 = .ok (.iconst 1, 1) := by decide +kernel
theorem dX11_definition_281 : decode cX11_definition 281 = .ok (.goto 4, 3) := by decide +kernel
theorem dX11_definition_284 : decode cX11_definition 284 = .ok (.iconst 0, 1) := by decide +kernel
theorem dX11_definition_285 : decode cX11_definition 285 = .ok (.istore_n 1, 1) := by decide +kernel
theorem dX11_definition_286 : decode cX11_definition 286 = .ok (.iload_n 1, 1) := by decide +kernel
theorem dX11_definition_287 : decode cX11_definition 287 = .ok (.ifCond .eq 7, 3) := by decide +kernel
theorem dX11_definition_290 : decode cX11_definition 290 = .ok (.aload_n 0, 1) := by decide +kernel
theorem dX11_definition_291 : decode cX11_definition 291 = .ok (.invokevirtual 229, 3) := by decide +kernel
theorem dX11_definition_294 : decode cX11_definition 294 = .ok (.goto (-84), 3) := by decide +kernel
theorem dX11_definition_297 : decode cX11_definition 297 = .ok (.aload_n 0, 1) := by decide +kernel
theorem dX11_definition_298 : decode cX11_definition 298 = .ok (.bipush 15, 2) := by decide +kernel
theorem dX11_definition_300 : decode cX11_definition 300 = .ok (.invokevirtual 269, 3) := by decide +kernel
theorem dX11_definition_303 : decode cX11_definition 303 = .ok (.aload_n 0, 1) := by decide +kernel
theorem dX11_definition_304 : decode cX11_definition 304 = .ok (.bipush 18, 2) := by decide +kernel
theorem dX11_definition_306 : decode cX11_definition 306 = .ok (.invokevirtual 269, 3) := by decide +kernel
theorem dX11_definition_309 : decode cX11_definition 309 = .ok (.aload_n 0, 1) := by decide +kernel
theorem dX11_definition_310 : decode cX11_definition 310 = .ok (.getfield 21, 3) := by decide +kernel
theorem dX11_definition_313 : decode cX11_definition 313 = .ok (.aload_n 0, 1) := by decide +kernel
theorem dX11_definition_314 : decode cX11_definition 314 = .ok (.getfield 239, 3) := by decide +kernel
theorem dX11_definition_317 : decode cX11_definition 317 = .ok (.aload_n 0, 1) := by decide +kernel
theorem dX11_definition_318 : decode cX11_definition 318 = .ok (.invokevirtual 316, 3) := by decide +kernel
theorem dX11_definition_321 : decode cX11_definition 321 = .ok (.iastore, 1) := by decide +kernel
theorem dX11_definition_322 : decode cX11_definition 322 = .ok (.aload_n 0, 1) := by decide +kernel
theorem dX11_definition_323 : decode cX11_definition 323 = .ok (.bipush 13, 2) := by decide +kernel
theorem dX11_definition_325 : decode cX11_definition 325 = .ok (.invokevirtual 269, 3) := by decide +kernel
theorem dX11_definition_328 : decode cX11_definition 328 = .ok (.aload_n 0, 1) := by decide +kernel
theorem dX11_definition_329 : decode cX11_definition 329 = .ok (.getfield 176, 3) := by decide +kernel
theorem dX11_definition_332 : decode cX11_definition 332 = .ok (.ifCond .ne 8, 3) := by decide +kernel
theorem dX11_definition_335 : decode cX11_definition 335 = .ok (.aload_n 0, 1) := by decide +kernel
theorem dX11_definition_336 : decode cX11_definition 336 = .ok (.iconst 4, 1) := by decide +kernel
theorem dX11_definition_337 : decode cX11_definition 337 = .ok (.invokevirtual 307, 3) := by decide +kernel
theorem dX11_definition_340 : decode cX11_definition 340 = .ok (.aload_n 0, 1) := by decide +kernel
theorem dX11_definition_341 : decode cX11_definition 341 = .ok (.getfield 30, 3) := by decide +kernel
theorem dX11_definition_344 : decode cX11_definition 344 = .ok (.aload_n 0, 1) := by decide +kernel
theorem dX11_definition_345 : decode cX11_definition 345 = .ok (.getfield 239, 3) := by decide +kernel
theorem dX11_definition_348 : decode cX11_definition 348 = .ok (.aload_n 0, 1) := by decide +kernel
theorem dX11_definition_349 : decode cX11_definition 349 = .ok (.getfield 75, 3) := by decide +kernel
theorem dX11_definition_352 : decode cX11_definition 352 = .ok (.iconst 0, 1) := by decide +kernel
theorem dX11_definition_353 : decode cX11_definition 353 = .ok (.iaload, 1) := by decide +kernel
theorem dX11_definition_354 : decode cX11_definition 354 = .ok (.iastore, 1) := by decide +kernel
theorem dX11_definition_355 : decode cX11_definition 355 = .ok (.aload_n 0, 1) := by decide +kernel
theorem dX11_definition_356 : decode cX11_definition 356 = .ok (.bipush 17, 2) := by decide +kernel
theorem dX11_definition_358 : decode cX11_definition 358 = .ok (.invokevirtual 269, 3) := by decide +kernel
theorem dX11_definition_361 : decode cX11_definition 361 = .ok (.return_, 1) := by decide +kernel
noncomputable def fX11_definition_79 (x1 : Int32) (M : mv_M) : Option (((Int32) ⊕ Unit) × mv_M) :=
  mv_let (x1 + 1) fun v6 =>
  some (.inl v6, M)
set_option maxRecDepth 100000 in
set_option maxHeartbeats 4000000 in
theorem zX11_definition_79 {l : Launch} {d : Nat} {Q : Unit → mv_M → Prop} (hd : 9 ≤ d) (x1 : Int32) (M : mv_M) (h : mv_ok (fX11_definition_79 x1 M) (mv_pq (fun (s : Int32) M => mv l mX11_definition d 0 33 [(0, .ref 62), (1, .int s)] [] M (mv_qV Q)) Q)) : mv l mX11_definition d 0 79 [(0, .ref 62), (1, .int x1)] [] M (mv_qV Q) := by
  unfold fX11_definition_79 at h
  obtain ⟨v6, ev6⟩ : ∃ z : Int32, z = x1 + 1 := ⟨_, rfl⟩
  replace h := mv_letE h v6 ev6
  refine mv_iinc v6 1 [(1, .int v6), (0, .ref 62)] dX11_definition_79 rfl (by rw [ev6]; rfl) (by decide) rfl ?_
  refine mv_goto 33 dX11_definition_82 (by decide) ?_
  refine mv_sub [1, 0] rfl ?_
  exact h
noncomputable def fX11_definition_294 (x1 : Int32) (M : mv_M) : Option (((Int32) ⊕ Unit) × mv_M) :=
  some (.inl x1, M)
set_option maxRecDepth 100000 in
set_option maxHeartbeats 4000000 in
theorem zX11_definition_294 {l : Launch} {d : Nat} {Q : Unit → mv_M → Prop} (hd : 9 ≤ d) (x1 : Int32) (M : mv_M) (h : mv_ok (fX11_definition_294 x1 M) (mv_pq (fun (s : Int32) M => mv l mX11_definition d 0 210 [(0, .ref 62), (1, .int s)] [] M (mv_qV Q)) Q)) : mv l mX11_definition d 0 294 [(0, .ref 62), (1, .int x1)] [] M (mv_qV Q) := by
  unfold fX11_definition_294 at h
  refine mv_goto 210 dX11_definition_294 (by decide) ?_
  refine mv_sub [0, 1] rfl ?_
  exact h
noncomputable def fX11_definition_285 (s0 : Int32) (M : mv_M) : Option (((Int32) ⊕ Unit) × mv_M) :=
  if s0 = 0 then
    fX11_definition_294 s0 M
  else
    mv_bind (fX11_pass M) fun _ M38 =>
    fX11_definition_294 s0 M38
set_option maxRecDepth 100000 in
set_option maxHeartbeats 4000000 in
theorem zX11_definition_285 {l : Launch} {d : Nat} {Q : Unit → mv_M → Prop} (hd : 9 ≤ d) (s0 : Int32) (M : mv_M) (h : mv_ok (fX11_definition_285 s0 M) (mv_pq (fun (s : Int32) M => mv l mX11_definition d 0 210 [(0, .ref 62), (1, .int s)] [] M (mv_qV Q)) Q)) : mv l mX11_definition d 0 285 [(0, .ref 62)] [.int s0] M (mv_qV Q) := by
  unfold fX11_definition_285 at h
  refine mv_istore_n [(1, .int s0), (0, .ref 62)] dX11_definition_285 (by decide) rfl ?_
  refine mv_iload_n 0 dX11_definition_286 rfl ?_
  refine mv_if_eq 294 dX11_definition_287 (by decide) (fun z => ?_) (fun z => ?_)
  · replace h := mv_ifT z h
    refine mv_sub [1, 0] rfl ?_
    exact zX11_definition_294 hd s0 M h
  · replace h := mv_ifF z h
    refine mv_aload_n 1 dX11_definition_290 rfl ?_
    refine mv_cvV (As := []) (st := []) okX11_pass lX11_229 (by decide) rfl rfl rfl (Nat.le_of_ble_eq_true rfl) rfl (Nat.le_of_ble_eq_true rfl) dX11_definition_291 (by omega) rfl (zX11_pass (d := d - 1) (by omega) M (mv_bindE h)) (fun _ M38 h => ?_)
    refine mv_sub [1, 0] rfl ?_
    exact zX11_definition_294 hd s0 M38 h
noncomputable def fX11_definition_284 (M : mv_M) : Option (((Int32) ⊕ Unit) × mv_M) :=
  fX11_definition_285 0 M
set_option maxRecDepth 100000 in
set_option maxHeartbeats 4000000 in
theorem zX11_definition_284 {l : Launch} {d : Nat} {Q : Unit → mv_M → Prop} (hd : 9 ≤ d) (M : mv_M) (h : mv_ok (fX11_definition_284 M) (mv_pq (fun (s : Int32) M => mv l mX11_definition d 0 210 [(0, .ref 62), (1, .int s)] [] M (mv_qV Q)) Q)) : mv l mX11_definition d 0 284 [(0, .ref 62)] [] M (mv_qV Q) := by
  unfold fX11_definition_284 at h
  refine mv_iconst 0 dX11_definition_284 (by decide) ?_
  refine mv_sub [0] rfl ?_
  exact zX11_definition_285 hd 0 M h
noncomputable def fX11_definition_240 (x2 : Int32) (M : mv_M) : Option (((Int32) ⊕ Unit) × mv_M) :=
  mv_bind (fX11_want 18 M) fun _ M33 =>
  mv_bind (fX11_type M33) fun r34 M35 =>
  mv_chk (mv_inb ((16 * (M33.1 62 33)) + x2) 384) <|
  mv_let (mv_si M35 70 ((16 * (M33.1 62 33)) + x2).toNatClampNeg r34) fun M37 =>
  if (M37.1 62 9) = 0 then
    if (M37.1 62 4) = 16 then
      fX11_definition_285 1 M37
    else
      fX11_definition_284 M37
  else
    fX11_definition_284 M37
set_option maxRecDepth 100000 in
set_option maxHeartbeats 4000000 in
theorem zX11_definition_240 {l : Launch} {d : Nat} {Q : Unit → mv_M → Prop} (hd : 9 ≤ d) (x2 : Int32) (M : mv_M) (h : mv_ok (fX11_definition_240 x2 M) (mv_pq (fun (s : Int32) M => mv l mX11_definition d 0 210 [(0, .ref 62), (1, .int s)] [] M (mv_qV Q)) Q)) : mv l mX11_definition d 0 240 [(0, .ref 62), (2, .int x2)] [] M (mv_qV Q) := by
  unfold fX11_definition_240 at h
  refine mv_aload_n 0 dX11_definition_240 rfl ?_
  refine mv_bipush 18 dX11_definition_241 (by decide) ?_
  refine mv_cvV (As := [.int 18]) (st := []) okX11_want lX11_269 (by decide) rfl rfl rfl (Nat.le_of_ble_eq_true rfl) rfl (Nat.le_of_ble_eq_true rfl) dX11_definition_243 (by omega) rfl (zX11_want (d := d - 1) (by omega) 18 M (mv_bindE h)) (fun _ M33 h => ?_)
  refine mv_aload_n 0 dX11_definition_246 rfl ?_
  refine mv_getR 70 fX11_36 (by decide) rfl rfl rfl dX11_definition_247 ?_
  refine mv_bipush 16 dX11_definition_250 (by decide) ?_
  refine mv_aload_n 0 dX11_definition_252 rfl ?_
  refine mv_getI fX11_239 (by decide) rfl rfl dX11_definition_253 ?_
  refine mv_imul dX11_definition_256 ?_
  refine mv_iload_n 1 dX11_definition_257 rfl ?_
  refine mv_iadd dX11_definition_258 ?_
  refine mv_aload_n 0 dX11_definition_259 rfl ?_
  refine mv_cvI (As := []) (st := [.int ((16 * (M33.1 62 33)) + x2), .ref 70]) okX11_type lX11_316 (by decide) rfl rfl rfl (Nat.le_of_ble_eq_true rfl) rfl (Nat.le_of_ble_eq_true rfl) dX11_definition_260 (by omega) rfl (zX11_type (d := d - 1) (by omega) M33 (mv_bindE h)) (fun r34 M35 h => ?_)
  obtain ⟨hi36, h⟩ := mv_chkE h
  refine mv_ist (by decide) rfl (mv_inE hi36) dX11_definition_263 (fun M37 eM37 => ?_)
  replace h := mv_letE h M37 eM37
  refine mv_aload_n 0 dX11_definition_264 rfl ?_
  refine mv_getI fX11_176 (by decide) rfl rfl dX11_definition_265 ?_
  refine mv_if_ne 284 dX11_definition_268 (by decide) (fun z => ?_) (fun z => ?_)
  · replace h := mv_ifF z h
    refine mv_sub [0] rfl ?_
    exact zX11_definition_284 hd M37 h
  · replace h := mv_ifT z h
    refine mv_aload_n 0 dX11_definition_271 rfl ?_
    refine mv_getI fX11_193 (by decide) rfl rfl dX11_definition_272 ?_
    refine mv_bipush 16 dX11_definition_275 (by decide) ?_
    refine mv_icmp_ne 284 dX11_definition_277 (by decide) (fun z => ?_) (fun z => ?_)
    · replace h := mv_ifF z h
      refine mv_sub [0] rfl ?_
      exact zX11_definition_284 hd M37 h
    · replace h := mv_ifT z h
      refine mv_iconst 1 dX11_definition_280 (by decide) ?_
      refine mv_goto 285 dX11_definition_281 (by decide) ?_
      refine mv_sub [0] rfl ?_
      exact zX11_definition_285 hd 1 M37 h
noncomputable def fX11_definition_340 (M : mv_M) : Option (Unit × mv_M) :=
  mv_chk (mv_inb (M.1 62 33) 24) <|
  mv_let (mv_si M 68 (M.1 62 33).toNatClampNeg (M.1 83 (0 : Int32).toNatClampNeg)) fun M31 =>
  mv_bind (fX11_want 17 M31) fun _ M32 =>
  some ((), M32)
set_option maxRecDepth 100000 in
set_option maxHeartbeats 4000000 in
theorem zX11_definition_340 {l : Launch} {d : Nat} {Q : Unit → mv_M → Prop} (hd : 9 ≤ d) (M : mv_M) (h : mv_ok (fX11_definition_340 M) Q) : mv l mX11_definition d 0 340 [(0, .ref 62)] [] M (mv_qV Q) := by
  unfold fX11_definition_340 at h
  refine mv_aload_n 0 dX11_definition_340 rfl ?_
  refine mv_getR 68 fX11_30 (by decide) rfl rfl rfl dX11_definition_341 ?_
  refine mv_aload_n 0 dX11_definition_344 rfl ?_
  refine mv_getI fX11_239 (by decide) rfl rfl dX11_definition_345 ?_
  refine mv_aload_n 0 dX11_definition_348 rfl ?_
  refine mv_getR 83 fX11_75 (by decide) rfl rfl rfl dX11_definition_349 ?_
  refine mv_iconst 0 dX11_definition_352 (by decide) ?_
  refine mv_ild (by decide) rfl (mv_inE (by decide)) dX11_definition_353 ?_
  obtain ⟨hi30, h⟩ := mv_chkE h
  refine mv_ist (by decide) rfl (mv_inE hi30) dX11_definition_354 (fun M31 eM31 => ?_)
  replace h := mv_letE h M31 eM31
  refine mv_aload_n 0 dX11_definition_355 rfl ?_
  refine mv_bipush 17 dX11_definition_356 (by decide) ?_
  refine mv_cvV (As := [.int 17]) (st := []) okX11_want lX11_269 (by decide) rfl rfl rfl (Nat.le_of_ble_eq_true rfl) rfl (Nat.le_of_ble_eq_true rfl) dX11_definition_358 (by omega) rfl (zX11_want (d := d - 1) (by omega) 17 M31 (mv_bindE h)) (fun _ M32 h => ?_)
  exact mv_vret rfl dX11_definition_361 ⟨rfl, h⟩
noncomputable def gX11_definition_210 (x1 : Int32) (M : mv_M) : Option (((Int32) ⊕ Unit) × mv_M) :=
  if x1 = 0 then
    mv_bind (fX11_want 15 M) fun _ M17 =>
    mv_bind (fX11_want 18 M17) fun _ M18 =>
    mv_bind (fX11_type M18) fun r19 M20 =>
    mv_chk (mv_inb (M18.1 62 33) 24) <|
    mv_let (mv_si M20 65 (M18.1 62 33).toNatClampNeg r19) fun M22 =>
    mv_bind (fX11_want 13 M22) fun _ M23 =>
    if (M23.1 62 9) = 0 then
      mv_bind (fX11_parse 4 M23) fun _ M24 =>
      mv_inr (fX11_definition_340 M24)
    else
      mv_inr (fX11_definition_340 M23)
  else
    mv_bind (fX11_name 1 M) fun r25 M26 =>
    if (M26.1 62 9) = 0 then
      mv_chk (mv_inb (M26.1 62 33) 24) <|
      mv_chk (mv_inb (M26.1 62 33) 24) <|
      mv_let (mv_si M26 66 (M26.1 62 33).toNatClampNeg ((M26.1 66 (M26.1 62 33).toNatClampNeg) + 1)) fun M29 =>
      fX11_definition_240 r25 M29
    else
      fX11_definition_240 r25 M26
noncomputable def fX11_definition_210 (x1 : Int32) (M : mv_M) : Option (Unit × mv_M) := mv_loop (fun (s : Int32) M => gX11_definition_210 s M) x1 M
set_option maxRecDepth 100000 in
set_option maxHeartbeats 4000000 in
theorem zX11_definition_210 {l : Launch} {d : Nat} {Q : Unit → mv_M → Prop} (hd : 9 ≤ d) (x1 : Int32) (M : mv_M) (h : mv_ok (fX11_definition_210 x1 M) Q) : mv l mX11_definition d 0 210 [(0, .ref 62), (1, .int x1)] [] M (mv_qV Q) := by
  unfold fX11_definition_210 at h
  refine mv_loopE (A := (fun (s : Int32) M => mv l mX11_definition d 0 210 [(0, .ref 62), (1, .int s)] [] M (mv_qV Q))) ?_ x1 M h
  · intro x1 M h
    try dsimp only at h
    show mv l mX11_definition d 0 210 [(0, .ref 62), (1, .int x1)] [] M (mv_qV Q)
    unfold gX11_definition_210 at h
    refine mv_iload_n 1 dX11_definition_210 rfl ?_
    refine mv_if_eq 297 dX11_definition_211 (by decide) (fun z => ?_) (fun z => ?_)
    · replace h := mv_ifT z h
      refine mv_aload_n 0 dX11_definition_297 rfl ?_
      refine mv_bipush 15 dX11_definition_298 (by decide) ?_
      refine mv_cvV (As := [.int 15]) (st := []) okX11_want lX11_269 (by decide) rfl rfl rfl (Nat.le_of_ble_eq_true rfl) rfl (Nat.le_of_ble_eq_true rfl) dX11_definition_300 (by omega) rfl (zX11_want (d := d - 1) (by omega) 15 M (mv_bindE h)) (fun _ M17 h => ?_)
      refine mv_aload_n 0 dX11_definition_303 rfl ?_
      refine mv_bipush 18 dX11_definition_304 (by decide) ?_
      refine mv_cvV (As := [.int 18]) (st := []) okX11_want lX11_269 (by decide) rfl rfl rfl (Nat.le_of_ble_eq_true rfl) rfl (Nat.le_of_ble_eq_true rfl) dX11_definition_306 (by omega) rfl (zX11_want (d := d - 1) (by omega) 18 M17 (mv_bindE h)) (fun _ M18 h => ?_)
      refine mv_aload_n 0 dX11_definition_309 rfl ?_
      refine mv_getR 65 fX11_21 (by decide) rfl rfl rfl dX11_definition_310 ?_
      refine mv_aload_n 0 dX11_definition_313 rfl ?_
      refine mv_getI fX11_239 (by decide) rfl rfl dX11_definition_314 ?_
      refine mv_aload_n 0 dX11_definition_317 rfl ?_
      refine mv_cvI (As := []) (st := [.int (M18.1 62 33), .ref 65]) okX11_type lX11_316 (by decide) rfl rfl rfl (Nat.le_of_ble_eq_true rfl) rfl (Nat.le_of_ble_eq_true rfl) dX11_definition_318 (by omega) rfl (zX11_type (d := d - 1) (by omega) M18 (mv_bindE h)) (fun r19 M20 h => ?_)
      obtain ⟨hi21, h⟩ := mv_chkE h
      refine mv_ist (by decide) rfl (mv_inE hi21) dX11_definition_321 (fun M22 eM22 => ?_)
      replace h := mv_letE h M22 eM22
      refine mv_aload_n 0 dX11_definition_322 rfl ?_
      refine mv_bipush 13 dX11_definition_323 (by decide) ?_
      refine mv_cvV (As := [.int 13]) (st := []) okX11_want lX11_269 (by decide) rfl rfl rfl (Nat.le_of_ble_eq_true rfl) rfl (Nat.le_of_ble_eq_true rfl) dX11_definition_325 (by omega) rfl (zX11_want (d := d - 1) (by omega) 13 M22 (mv_bindE h)) (fun _ M23 h => ?_)
      refine mv_aload_n 0 dX11_definition_328 rfl ?_
      refine mv_getI fX11_176 (by decide) rfl rfl dX11_definition_329 ?_
      refine mv_if_ne 340 dX11_definition_332 (by decide) (fun z => ?_) (fun z => ?_)
      · replace h := mv_ifF z h
        refine mv_sub [0] rfl ?_
        exact zX11_definition_340 hd M23 (mv_inrE h)
      · replace h := mv_ifT z h
        refine mv_aload_n 0 dX11_definition_335 rfl ?_
        refine mv_iconst 4 dX11_definition_336 (by decide) ?_
        refine mv_cvV (As := [.int 4]) (st := []) okX11_parse lX11_307 (by decide) rfl rfl rfl (Nat.le_of_ble_eq_true rfl) rfl (Nat.le_of_ble_eq_true rfl) dX11_definition_337 (by omega) rfl (zX11_parse (d := d - 1) (by omega) 4 M23 (mv_bindE h)) (fun _ M24 h => ?_)
        refine mv_sub [0] rfl ?_
        exact zX11_definition_340 hd M24 (mv_inrE h)
    · replace h := mv_ifF z h
      refine mv_aload_n 0 dX11_definition_214 rfl ?_
      refine mv_iconst 1 dX11_definition_215 (by decide) ?_
      refine mv_cvI (As := [.int 1]) (st := []) okX11_name lX11_297 (by decide) rfl rfl rfl (Nat.le_of_ble_eq_true rfl) rfl (Nat.le_of_ble_eq_true rfl) dX11_definition_216 (by omega) rfl (zX11_name (d := d - 1) (by omega) 1 M (mv_bindE h)) (fun r25 M26 h => ?_)
      refine mv_istore_n [(2, .int r25), (0, .ref 62), (1, .int x1)] dX11_definition_219 (by decide) rfl ?_
      refine mv_aload_n 1 dX11_definition_220 rfl ?_
      refine mv_getI fX11_176 (by decide) rfl rfl dX11_definition_221 ?_
      refine mv_if_ne 240 dX11_definition_224 (by decide) (fun z => ?_) (fun z => ?_)
      · replace h := mv_ifF z h
        refine mv_sub [1, 0] rfl ?_
        exact zX11_definition_240 hd r25 M26 h
      · replace h := mv_ifT z h
        refine mv_aload_n 1 dX11_definition_227 rfl ?_
        refine mv_getR 66 fX11_24 (by decide) rfl rfl rfl dX11_definition_228 ?_
        refine mv_aload_n 1 dX11_definition_231 rfl ?_
        refine mv_getI fX11_239 (by decide) rfl rfl dX11_definition_232 ?_
        refine mv_dup2 dX11_definition_235 rfl rfl ?_
        obtain ⟨hi27, h⟩ := mv_chkE h
        refine mv_ild (by decide) rfl (mv_inE hi27) dX11_definition_236 ?_
        refine mv_iconst 1 dX11_definition_237 (by decide) ?_
        refine mv_iadd dX11_definition_238 ?_
        obtain ⟨hi28, h⟩ := mv_chkE h
        refine mv_ist (by decide) rfl (mv_inE hi28) dX11_definition_239 (fun M29 eM29 => ?_)
        replace h := mv_letE h M29 eM29
        refine mv_sub [1, 0] rfl ?_
        exact zX11_definition_240 hd r25 M29 h
noncomputable def fX11_definition_209 (s0 : Int32) (M : mv_M) : Option (Unit × mv_M) :=
  fX11_definition_210 s0 M
set_option maxRecDepth 100000 in
set_option maxHeartbeats 4000000 in
theorem zX11_definition_209 {l : Launch} {d : Nat} {Q : Unit → mv_M → Prop} (hd : 9 ≤ d) (s0 : Int32) (M : mv_M) (h : mv_ok (fX11_definition_209 s0 M) Q) : mv l mX11_definition d 0 209 [(0, .ref 62)] [.int s0] M (mv_qV Q) := by
  unfold fX11_definition_209 at h
  refine mv_istore_n [(1, .int s0), (0, .ref 62)] dX11_definition_209 (by decide) rfl ?_
  refine mv_sub [1, 0] rfl ?_
  exact zX11_definition_210 hd s0 M h
noncomputable def fX11_definition_208 (M : mv_M) : Option (Unit × mv_M) :=
  fX11_definition_209 0 M
set_option maxRecDepth 100000 in
set_option maxHeartbeats 4000000 in
theorem zX11_definition_208 {l : Launch} {d : Nat} {Q : Unit → mv_M → Prop} (hd : 9 ≤ d) (M : mv_M) (h : mv_ok (fX11_definition_208 M) Q) : mv l mX11_definition d 0 208 [(0, .ref 62)] [] M (mv_qV Q) := by
  unfold fX11_definition_208 at h
  refine mv_iconst 0 dX11_definition_208 (by decide) ?_
  refine mv_sub [0] rfl ?_
  exact zX11_definition_209 hd 0 M h
noncomputable def fX11_definition_111 (M : mv_M) : Option (Unit × mv_M) :=
  if (M.1 62 9) = 0 then
    mv_let (mv_si M 62 33 ((12 * (M.1 62 27)) + (M.1 62 28))) fun M7 =>
    mv_chk (mv_inb (M7.1 62 33) 24) <|
    mv_let (mv_sl M7 64 (M7.1 62 33).toNatClampNeg (M7.2.1 62 7)) fun M9 =>
    mv_chk (mv_inb (M9.1 62 33) 24) <|
    mv_let (mv_si M9 66 (M9.1 62 33).toNatClampNeg 0) fun M11 =>
    mv_chk (mv_inb (M11.1 62 33) 24) <|
    mv_let (mv_si M11 67 (M11.1 62 33).toNatClampNeg 0) fun M13 =>
    mv_let (mv_si M13 62 28 ((M13.1 62 28) + 1)) fun M14 =>
    mv_bind (fX11_pass M14) fun _ M15 =>
    mv_bind (fX11_want 14 M15) fun _ M16 =>
    if (M16.1 62 9) = 0 then
      if (M16.1 62 4) = 15 then
        fX11_definition_208 M16
      else
        fX11_definition_209 1 M16
    else
      fX11_definition_208 M16
  else
    some ((), M)
set_option maxRecDepth 100000 in
set_option maxHeartbeats 4000000 in
theorem zX11_definition_111 {l : Launch} {d : Nat} {Q : Unit → mv_M → Prop} (hd : 9 ≤ d) (M : mv_M) (h : mv_ok (fX11_definition_111 M) Q) : mv l mX11_definition d 0 111 [(0, .ref 62)] [] M (mv_qV Q) := by
  unfold fX11_definition_111 at h
  refine mv_aload_n 0 dX11_definition_111 rfl ?_
  refine mv_getI fX11_176 (by decide) rfl rfl dX11_definition_112 ?_
  refine mv_if_eq 119 dX11_definition_115 (by decide) (fun z => ?_) (fun z => ?_)
  · replace h := mv_ifT z h
    refine mv_aload_n 0 dX11_definition_119 rfl ?_
    refine mv_bipush 12 dX11_definition_120 (by decide) ?_
    refine mv_aload_n 0 dX11_definition_122 rfl ?_
    refine mv_getI fX11_310 (by decide) rfl rfl dX11_definition_123 ?_
    refine mv_imul dX11_definition_126 ?_
    refine mv_aload_n 0 dX11_definition_127 rfl ?_
    refine mv_getI fX11_313 (by decide) rfl rfl dX11_definition_128 ?_
    refine mv_iadd dX11_definition_131 ?_
    refine mv_putI fX11_239 (by decide) rfl rfl dX11_definition_132 (fun M7 eM7 => ?_)
    replace h := mv_letE h M7 eM7
    refine mv_aload_n 0 dX11_definition_135 rfl ?_
    refine mv_getR 64 fX11_17 (by decide) rfl rfl rfl dX11_definition_136 ?_
    refine mv_aload_n 0 dX11_definition_139 rfl ?_
    refine mv_getI fX11_239 (by decide) rfl rfl dX11_definition_140 ?_
    refine mv_aload_n 0 dX11_definition_143 rfl ?_
    refine mv_getL fX11_222 (by decide) rfl rfl dX11_definition_144 ?_
    obtain ⟨hi8, h⟩ := mv_chkE h
    refine mv_lst (by decide) rfl (mv_inE hi8) dX11_definition_147 (fun M9 eM9 => ?_)
    replace h := mv_letE h M9 eM9
    refine mv_aload_n 0 dX11_definition_148 rfl ?_
    refine mv_getR 66 fX11_24 (by decide) rfl rfl rfl dX11_definition_149 ?_
    refine mv_aload_n 0 dX11_definition_152 rfl ?_
    refine mv_getI fX11_239 (by decide) rfl rfl dX11_definition_153 ?_
    refine mv_iconst 0 dX11_definition_156 (by decide) ?_
    obtain ⟨hi10, h⟩ := mv_chkE h
    refine mv_ist (by decide) rfl (mv_inE hi10) dX11_definition_157 (fun M11 eM11 => ?_)
    replace h := mv_letE h M11 eM11
    refine mv_aload_n 0 dX11_definition_158 rfl ?_
    refine mv_getR 67 fX11_27 (by decide) rfl rfl rfl dX11_definition_159 ?_
    refine mv_aload_n 0 dX11_definition_162 rfl ?_
    refine mv_getI fX11_239 (by decide) rfl rfl dX11_definition_163 ?_
    refine mv_iconst 0 dX11_definition_166 (by decide) ?_
    obtain ⟨hi12, h⟩ := mv_chkE h
    refine mv_ist (by decide) rfl (mv_inE hi12) dX11_definition_167 (fun M13 eM13 => ?_)
    replace h := mv_letE h M13 eM13
    refine mv_aload_n 0 dX11_definition_168 rfl ?_
    refine mv_dup dX11_definition_169 rfl ?_
    refine mv_getI fX11_313 (by decide) rfl rfl dX11_definition_170 ?_
    refine mv_iconst 1 dX11_definition_173 (by decide) ?_
    refine mv_iadd dX11_definition_174 ?_
    refine mv_putI fX11_313 (by decide) rfl rfl dX11_definition_175 (fun M14 eM14 => ?_)
    replace h := mv_letE h M14 eM14
    refine mv_aload_n 0 dX11_definition_178 rfl ?_
    refine mv_cvV (As := []) (st := []) okX11_pass lX11_229 (by decide) rfl rfl rfl (Nat.le_of_ble_eq_true rfl) rfl (Nat.le_of_ble_eq_true rfl) dX11_definition_179 (by omega) rfl (zX11_pass (d := d - 1) (by omega) M14 (mv_bindE h)) (fun _ M15 h => ?_)
    refine mv_aload_n 0 dX11_definition_182 rfl ?_
    refine mv_bipush 14 dX11_definition_183 (by decide) ?_
    refine mv_cvV (As := [.int 14]) (st := []) okX11_want lX11_269 (by decide) rfl rfl rfl (Nat.le_of_ble_eq_true rfl) rfl (Nat.le_of_ble_eq_true rfl) dX11_definition_185 (by omega) rfl (zX11_want (d := d - 1) (by omega) 14 M15 (mv_bindE h)) (fun _ M16 h => ?_)
    refine mv_aload_n 0 dX11_definition_188 rfl ?_
    refine mv_getI fX11_176 (by decide) rfl rfl dX11_definition_189 ?_
    refine mv_if_ne 208 dX11_definition_192 (by decide) (fun z => ?_) (fun z => ?_)
    · replace h := mv_ifF z h
      refine mv_sub [0] rfl ?_
      exact zX11_definition_208 hd M16 h
    · replace h := mv_ifT z h
      refine mv_aload_n 0 dX11_definition_195 rfl ?_
      refine mv_getI fX11_193 (by decide) rfl rfl dX11_definition_196 ?_
      refine mv_bipush 15 dX11_definition_199 (by decide) ?_
      refine mv_icmp_eq 208 dX11_definition_201 (by decide) (fun z => ?_) (fun z => ?_)
      · replace h := mv_ifT z h
        refine mv_sub [0] rfl ?_
        exact zX11_definition_208 hd M16 h
      · replace h := mv_ifF z h
        refine mv_iconst 1 dX11_definition_204 (by decide) ?_
        refine mv_goto 209 dX11_definition_205 (by decide) ?_
        refine mv_sub [0] rfl ?_
        exact zX11_definition_209 hd 1 M16 h
  · replace h := mv_ifF z h
    exact mv_vret rfl dX11_definition_118 ⟨rfl, h⟩
noncomputable def fX11_definition_85 (M : mv_M) : Option (Unit × mv_M) :=
  if (M.1 62 9) = 0 then
    if (M.1 62 28) = 12 then
      mv_bind (fX11_stop 6 (M.1 62 5) M) fun _ M5 =>
      fX11_definition_111 M5
    else
      fX11_definition_111 M
  else
    fX11_definition_111 M
set_option maxRecDepth 100000 in
set_option maxHeartbeats 4000000 in
theorem zX11_definition_85 {l : Launch} {d : Nat} {Q : Unit → mv_M → Prop} (hd : 9 ≤ d) (M : mv_M) (h : mv_ok (fX11_definition_85 M) Q) : mv l mX11_definition d 0 85 [(0, .ref 62)] [] M (mv_qV Q) := by
  unfold fX11_definition_85 at h
  refine mv_aload_n 0 dX11_definition_85 rfl ?_
  refine mv_getI fX11_176 (by decide) rfl rfl dX11_definition_86 ?_
  refine mv_if_ne 111 dX11_definition_89 (by decide) (fun z => ?_) (fun z => ?_)
  · replace h := mv_ifF z h
    refine mv_sub [0] rfl ?_
    exact zX11_definition_111 hd M h
  · replace h := mv_ifT z h
    refine mv_aload_n 0 dX11_definition_92 rfl ?_
    refine mv_getI fX11_313 (by decide) rfl rfl dX11_definition_93 ?_
    refine mv_bipush 12 dX11_definition_96 (by decide) ?_
    refine mv_icmp_ne 111 dX11_definition_98 (by decide) (fun z => ?_) (fun z => ?_)
    · replace h := mv_ifF z h
      refine mv_sub [0] rfl ?_
      exact zX11_definition_111 hd M h
    · replace h := mv_ifT z h
      refine mv_aload_n 0 dX11_definition_101 rfl ?_
      refine mv_bipush 6 dX11_definition_102 (by decide) ?_
      refine mv_aload_n 0 dX11_definition_104 rfl ?_
      refine mv_getI fX11_190 (by decide) rfl rfl dX11_definition_105 ?_
      refine mv_cvV (As := [.int 6, .int (M.1 62 5)]) (st := []) okX11_stop lX11_205 (by decide) rfl rfl rfl (Nat.le_of_ble_eq_true rfl) rfl (Nat.le_of_ble_eq_true rfl) dX11_definition_108 (by omega) rfl (zX11_stop (d := d - 1) (by omega) 6 (M.1 62 5) M (mv_bindE h)) (fun _ M5 h => ?_)
      refine mv_sub [0] rfl ?_
      exact zX11_definition_111 hd M5 h
noncomputable def gX11_definition_33 (x1 : Int32) (M : mv_M) : Option (((Int32) ⊕ Unit) × mv_M) :=
  if ((12 * (M.1 62 27)) + (M.1 62 28)) ≤ x1 then
    mv_inr (fX11_definition_85 M)
  else
    if (M.1 62 9) = 0 then
      mv_chk (mv_inb x1 24) <|
      if (lg_cmp (M.2.1 64 x1.toNatClampNeg) (M.2.1 62 7)) = 0 then
        mv_bind (fX11_stop 3 (M.1 62 5) M) fun _ M4 =>
        fX11_definition_79 x1 M4
      else
        fX11_definition_79 x1 M
    else
      mv_inr (fX11_definition_85 M)
noncomputable def fX11_definition_33 (x1 : Int32) (M : mv_M) : Option (Unit × mv_M) := mv_loop (fun (s : Int32) M => gX11_definition_33 s M) x1 M
set_option maxRecDepth 100000 in
set_option maxHeartbeats 4000000 in
theorem zX11_definition_33 {l : Launch} {d : Nat} {Q : Unit → mv_M → Prop} (hd : 9 ≤ d) (x1 : Int32) (M : mv_M) (h : mv_ok (fX11_definition_33 x1 M) Q) : mv l mX11_definition d 0 33 [(0, .ref 62), (1, .int x1)] [] M (mv_qV Q) := by
  unfold fX11_definition_33 at h
  refine mv_loopE (A := (fun (s : Int32) M => mv l mX11_definition d 0 33 [(0, .ref 62), (1, .int s)] [] M (mv_qV Q))) ?_ x1 M h
  · intro x1 M h
    try dsimp only at h
    show mv l mX11_definition d 0 33 [(0, .ref 62), (1, .int x1)] [] M (mv_qV Q)
    unfold gX11_definition_33 at h
    refine mv_iload_n 1 dX11_definition_33 rfl ?_
    refine mv_bipush 12 dX11_definition_34 (by decide) ?_
    refine mv_aload_n 0 dX11_definition_36 rfl ?_
    refine mv_getI fX11_310 (by decide) rfl rfl dX11_definition_37 ?_
    refine mv_imul dX11_definition_40 ?_
    refine mv_aload_n 0 dX11_definition_41 rfl ?_
    refine mv_getI fX11_313 (by decide) rfl rfl dX11_definition_42 ?_
    refine mv_iadd dX11_definition_45 ?_
    refine mv_icmp_ge 85 dX11_definition_46 (by decide) (fun z => ?_) (fun z => ?_)
    · replace h := mv_ifT z h
      refine mv_sub [0] rfl ?_
      exact zX11_definition_85 hd M (mv_inrE h)
    · replace h := mv_ifF z h
      refine mv_aload_n 0 dX11_definition_49 rfl ?_
      refine mv_getI fX11_176 (by decide) rfl rfl dX11_definition_50 ?_
      refine mv_if_ne 85 dX11_definition_53 (by decide) (fun z => ?_) (fun z => ?_)
      · replace h := mv_ifF z h
        refine mv_sub [0] rfl ?_
        exact zX11_definition_85 hd M (mv_inrE h)
      · replace h := mv_ifT z h
        refine mv_aload_n 0 dX11_definition_56 rfl ?_
        refine mv_getR 64 fX11_17 (by decide) rfl rfl rfl dX11_definition_57 ?_
        refine mv_iload_n 1 dX11_definition_60 rfl ?_
        obtain ⟨hi3, h⟩ := mv_chkE h
        refine mv_lld (by decide) rfl (mv_inE hi3) dX11_definition_61 ?_
        refine mv_aload_n 0 dX11_definition_62 rfl ?_
        refine mv_getL fX11_222 (by decide) rfl rfl dX11_definition_63 ?_
        refine mv_lcmp dX11_definition_66 ?_
        refine mv_if_ne 79 dX11_definition_67 (by decide) (fun z => ?_) (fun z => ?_)
        · replace h := mv_ifF z h
          refine mv_sub [0, 1] rfl ?_
          exact zX11_definition_79 hd x1 M h
        · replace h := mv_ifT z h
          refine mv_aload_n 0 dX11_definition_70 rfl ?_
          refine mv_iconst 3 dX11_definition_71 (by decide) ?_
          refine mv_aload_n 0 dX11_definition_72 rfl ?_
          refine mv_getI fX11_190 (by decide) rfl rfl dX11_definition_73 ?_
          refine mv_cvV (As := [.int 3, .int (M.1 62 5)]) (st := []) okX11_stop lX11_205 (by decide) rfl rfl rfl (Nat.le_of_ble_eq_true rfl) rfl (Nat.le_of_ble_eq_true rfl) dX11_definition_76 (by omega) rfl (zX11_stop (d := d - 1) (by omega) 3 (M.1 62 5) M (mv_bindE h)) (fun _ M4 h => ?_)
          refine mv_sub [0, 1] rfl ?_
          exact zX11_definition_79 hd x1 M4 h
noncomputable def fX11_definition_25 (M : mv_M) : Option (Unit × mv_M) :=
  mv_let (12 * (M.1 62 27)) fun v2 =>
  fX11_definition_33 v2 M
set_option maxRecDepth 100000 in
set_option maxHeartbeats 4000000 in
theorem zX11_definition_25 {l : Launch} {d : Nat} {Q : Unit → mv_M → Prop} (hd : 9 ≤ d) (M : mv_M) (h : mv_ok (fX11_definition_25 M) Q) : mv l mX11_definition d 0 25 [(0, .ref 62)] [] M (mv_qV Q) := by
  unfold fX11_definition_25 at h
  refine mv_bipush 12 dX11_definition_25 (by decide) ?_
  refine mv_aload_n 0 dX11_definition_27 rfl ?_
  refine mv_getI fX11_310 (by decide) rfl rfl dX11_definition_28 ?_
  refine mv_imul dX11_definition_31 ?_
  refine mv_topi (fun v2 ev2 => ?_)
  replace h := mv_letE h v2 ev2
  refine mv_istore_n [(1, .int v2), (0, .ref 62)] dX11_definition_32 (by decide) rfl ?_
  refine mv_sub [1, 0] rfl ?_
  exact zX11_definition_33 hd v2 M h
noncomputable def fX11_definition (M : mv_M) : Option (Unit × mv_M) :=
  if (M.1 62 9) = 0 then
    if (M.1 62 4) = 10 then
      fX11_definition_25 M
    else
      mv_bind (fX11_stop 2 (M.1 62 5) M) fun _ M1 =>
      fX11_definition_25 M1
  else
    fX11_definition_25 M
set_option maxRecDepth 100000 in
set_option maxHeartbeats 4000000 in
theorem zX11_definition {l : Launch} {d : Nat} {Q : Unit → mv_M → Prop} (hd : 9 ≤ d) (M : mv_M) (h : mv_ok (fX11_definition M) Q) : mv l mX11_definition d 0 0 (lv_args 0 [.ref 62]) [] M (mv_qV Q) := by
  unfold fX11_definition at h
  show mv l mX11_definition d 0 0 [(0, .ref 62)] [] M (mv_qV Q)
  refine mv_aload_n 0 dX11_definition_0 rfl ?_
  refine mv_getI fX11_176 (by decide) rfl rfl dX11_definition_1 ?_
  refine mv_if_ne 25 dX11_definition_4 (by decide) (fun z => ?_) (fun z => ?_)
  · replace h := mv_ifF z h
    refine mv_sub [0] rfl ?_
    exact zX11_definition_25 hd M h
  · replace h := mv_ifT z h
    refine mv_aload_n 0 dX11_definition_7 rfl ?_
    refine mv_getI fX11_193 (by decide) rfl rfl dX11_definition_8 ?_
    refine mv_bipush 10 dX11_definition_11 (by decide) ?_
    refine mv_icmp_eq 25 dX11_definition_13 (by decide) (fun z => ?_) (fun z => ?_)
    · replace h := mv_ifT z h
      refine mv_sub [0] rfl ?_
      exact zX11_definition_25 hd M h
    · replace h := mv_ifF z h
      refine mv_aload_n 0 dX11_definition_16 rfl ?_
      refine mv_iconst 2 dX11_definition_17 (by decide) ?_
      refine mv_aload_n 0 dX11_definition_18 rfl ?_
      refine mv_getI fX11_190 (by decide) rfl rfl dX11_definition_19 ?_
      refine mv_cvV (As := [.int 2, .int (M.1 62 5)]) (st := []) okX11_stop lX11_205 (by decide) rfl rfl rfl (Nat.le_of_ble_eq_true rfl) rfl (Nat.le_of_ble_eq_true rfl) dX11_definition_22 (by omega) rfl (zX11_stop (d := d - 1) (by omega) 2 (M.1 62 5) M (mv_bindE h)) (fun _ M1 h => ?_)
      refine mv_sub [0] rfl ?_
      exact zX11_definition_25 hd M1 h
theorem dX11_task_0 : decode cX11_task 0 = .ok (.aload_n 0, 1) := by decide +kernel
theorem dX11_task_1 : decode cX11_task 1 = .ok (.getfield 242, 3) := by decide +kernel
theorem dX11_task_4 : decode cX11_task 4 = .ok (.sipush 3000, 3) := by decide +kernel
theorem dX11_task_7 : decode cX11_task 7 = .ok (.if_icmp .ge 19, 3) := by decide +kernel
theorem dX11_task_10 : decode cX11_task 10 = .ok (.aload_n 0, 1) := by decide +kernel
theorem dX11_task_11 : decode cX11_task 11 = .ok (.getfield 81, 3) := by decide +kernel
theorem dX11_task_14 : decode cX11_task 14 = .ok (.aload_n 0, 1) := by decide +kernel
theorem dX11_task_15 : decode cX11_task 15 = .ok (.getfield 242, 3) := by decide +kernel
theorem dX11_task_18 : decode cX11_task 18 = .ok (.iload_n 3, 1) := by decide +kernel
theorem dX11_task_19 : decode cX11_task 19 = .ok (.iastore, 1) := by decide +kernel
theorem dX11_task_20 : decode cX11_task 20 = .ok (.aload_n 0, 1) := by decide +kernel
theorem dX11_task_21 : decode cX11_task 21 = .ok (.iload_n 1, 1) := by decide +kernel
theorem dX11_task_22 : decode cX11_task 22 = .ok (.iload_n 2, 1) := by decide +kernel
theorem dX11_task_23 : decode cX11_task 23 = .ok (.invokevirtual 254, 3) := by decide +kernel
theorem dX11_task_26 : decode cX11_task 26 = .ok (.return_, 1) := by decide +kernel
noncomputable def fX11_task (a0 : Int32) (a1 : Int32) (a2 : Int32) (M : mv_M) : Option (Unit × mv_M) :=
  if 3000 ≤ (M.1 62 36) then
    some ((), M)
  else
    mv_chk (mv_inb (M.1 62 36) 3000) <|
    mv_let (mv_si M 85 (M.1 62 36).toNatClampNeg a2) fun M2 =>
    mv_bind (fX11_push a0 a1 M2) fun _ M3 =>
    some ((), M3)
set_option maxRecDepth 100000 in
set_option maxHeartbeats 4000000 in
theorem zX11_task {l : Launch} {d : Nat} {Q : Unit → mv_M → Prop} (hd : 1 ≤ d) (a0 : Int32) (a1 : Int32) (a2 : Int32) (M : mv_M) (h : mv_ok (fX11_task a0 a1 a2 M) Q) : mv l mX11_task d 0 0 (lv_args 0 [.ref 62, .int a0, .int a1, .int a2]) [] M (mv_qV Q) := by
  unfold fX11_task at h
  show mv l mX11_task d 0 0 [(0, .ref 62), (1, .int a0), (2, .int a1), (3, .int a2)] [] M (mv_qV Q)
  refine mv_aload_n 0 dX11_task_0 rfl ?_
  refine mv_getI fX11_242 (by decide) rfl rfl dX11_task_1 ?_
  refine mv_sipush 3000 dX11_task_4 (by decide) ?_
  refine mv_icmp_ge 26 dX11_task_7 (by decide) (fun z => ?_) (fun z => ?_)
  · replace h := mv_ifT z h
    exact mv_vret rfl dX11_task_26 ⟨rfl, h⟩
  · replace h := mv_ifF z h
    refine mv_aload_n 0 dX11_task_10 rfl ?_
    refine mv_getR 85 fX11_81 (by decide) rfl rfl rfl dX11_task_11 ?_
    refine mv_aload_n 0 dX11_task_14 rfl ?_
    refine mv_getI fX11_242 (by decide) rfl rfl dX11_task_15 ?_
    refine mv_iload_n 3 dX11_task_18 rfl ?_
    obtain ⟨hi1, h⟩ := mv_chkE h
    refine mv_ist (by decide) rfl (mv_inE hi1) dX11_task_19 (fun M2 eM2 => ?_)
    replace h := mv_letE h M2 eM2
    refine mv_aload_n 0 dX11_task_20 rfl ?_
    refine mv_iload_n 1 dX11_task_21 rfl ?_
    refine mv_iload_n 2 dX11_task_22 rfl ?_
    refine mv_cvV (As := [.int a0, .int a1]) (st := []) okX11_push lX11_254 (by decide) rfl rfl rfl (Nat.le_of_ble_eq_true rfl) rfl (Nat.le_of_ble_eq_true rfl) dX11_task_23 (by omega) rfl (zX11_push (d := d - 1) (by omega) a0 a1 M2 (mv_bindE h)) (fun _ M3 h => ?_)
    exact mv_vret rfl dX11_task_26 ⟨rfl, h⟩
theorem dX11_meant_0 : decode cX11_meant 0 = .ok (.aload_n 0, 1) := by decide +kernel
theorem dX11_meant_1 : decode cX11_meant 1 = .ok (.getfield 319, 3) := by decide +kernel
theorem dX11_meant_4 : decode cX11_meant 4 = .ok (.iconst 1, 1) := by decide +kernel
theorem dX11_meant_5 : decode cX11_meant 5 = .ok (.isub, 1) := by decide +kernel
theorem dX11_meant_6 : decode cX11_meant 6 = .ok (.istore_n 3, 1) := by decide +kernel
theorem dX11_meant_7 : decode cX11_meant 7 = .ok (.iload_n 3, 1) := by decide +kernel
theorem dX11_meant_8 : decode cX11_meant 8 = .ok (.ifCond .lt 40, 3) := by decide +kernel
theorem dX11_meant_11 : decode cX11_meant 11 = .ok (.aload_n 0, 1) := by decide +kernel
theorem dX11_meant_12 : decode cX11_meant 12 = .ok (.getfield 33, 3) := by decide +kernel
theorem dX11_meant_15 : decode cX11_meant 15 = .ok (.bipush 16, 2) := by decide +kernel
theorem dX11_meant_17 : decode cX11_meant 17 = .ok (.aload_n 0, 1) := by decide +kernel
theorem dX11_meant_18 : decode cX11_meant 18 = .ok (.getfield 239, 3) := by decide +kernel
theorem dX11_meant_21 : decode cX11_meant 21 = .ok (.imul, 1) := by decide +kernel
theorem dX11_meant_22 : decode cX11_meant 22 = .ok (.aload_n 0, 1) := by decide +kernel
theorem dX11_meant_23 : decode cX11_meant 23 = .ok (.getfield 84, 3) := by decide +kernel
theorem dX11_meant_26 : decode cX11_meant 26 = .ok (.iload_n 3, 1) := by decide +kernel
theorem dX11_meant_27 : decode cX11_meant 27 = .ok (.iaload, 1) := by decide +kernel
theorem dX11_meant_28 : decode cX11_meant 28 = .ok (.iadd, 1) := by decide +kernel
theorem dX11_meant_29 : decode cX11_meant 29 = .ok (.laload, 1) := by decide +kernel
theorem dX11_meant_30 : decode cX11_meant 30 = .ok (.lload_n 1, 1) := by decide +kernel
theorem dX11_meant_31 : decode cX11_meant 31 = .ok (.lcmp, 1) := by decide +kernel
theorem dX11_meant_32 : decode cX11_meant 32 = .ok (.ifCond .ne 10, 3) := by decide +kernel
theorem dX11_meant_35 : decode cX11_meant 35 = .ok (.aload_n 0, 1) := by decide +kernel
theorem dX11_meant_36 : decode cX11_meant 36 = .ok (.getfield 84, 3) := by decide +kernel
theorem dX11_meant_39 : decode cX11_meant 39 = .ok (.iload_n 3, 1) := by decide +kernel
theorem dX11_meant_40 : decode cX11_meant 40 = .ok (.iaload, 1) := by decide +kernel
theorem dX11_meant_41 : decode cX11_meant 41 = .ok (.ireturn, 1) := by decide +kernel
theorem dX11_meant_42 : decode cX11_meant 42 = .ok (.iinc 3 (-1), 3) := by decide +kernel
theorem dX11_meant_45 : decode cX11_meant 45 = .ok (.goto (-38), 3) := by decide +kernel
theorem dX11_meant_48 : decode cX11_meant 48 = .ok (.iconst (-1), 1) := by decide +kernel
theorem dX11_meant_49 : decode cX11_meant 49 = .ok (.ireturn, 1) := by decide +kernel
noncomputable def gX11_meant_7 (x1 : Int64) (x3 : Int32) (M : mv_M) : Option (((Int64 × Int32) ⊕ Int32) × mv_M) :=
  if x3 < 0 then
    some (.inr ((-1)), M)
  else
    mv_chk (mv_inb x3 16) <|
    mv_chk (mv_inb ((16 * (M.1 62 33)) + (M.1 86 x3.toNatClampNeg)) 384) <|
    if (lg_cmp (M.2.1 69 ((16 * (M.1 62 33)) + (M.1 86 x3.toNatClampNeg)).toNatClampNeg) x1) = 0 then
      mv_chk (mv_inb x3 16) <|
      some (.inr (M.1 86 x3.toNatClampNeg), M)
    else
      mv_let (x3 - 1) fun v4 =>
      some (.inl (x1, v4), M)
noncomputable def fX11_meant_7 (x1 : Int64) (x3 : Int32) (M : mv_M) : Option (Int32 × mv_M) := mv_loop (fun (s : Int64 × Int32) M => gX11_meant_7 s.1 s.2 M) (x1, x3) M
set_option maxRecDepth 100000 in
set_option maxHeartbeats 4000000 in
theorem zX11_meant_7 {l : Launch} {d : Nat} {Q : Int32 → mv_M → Prop} (hd : 0 ≤ d) (x1 : Int64) (x3 : Int32) (M : mv_M) (h : mv_ok (fX11_meant_7 x1 x3 M) Q) : mv l mX11_meant d 0 7 [(0, .ref 62), (1, .long x1), (3, .int x3)] [] M (mv_qI Q) := by
  unfold fX11_meant_7 at h
  refine mv_loopE (A := (fun (s : Int64 × Int32) M => mv l mX11_meant d 0 7 [(0, .ref 62), (1, .long s.1), (3, .int s.2)] [] M (mv_qI Q))) ?_ (x1, x3) M h
  · rintro ⟨x1, x3⟩ M h
    try dsimp only at h
    show mv l mX11_meant d 0 7 [(0, .ref 62), (1, .long x1), (3, .int x3)] [] M (mv_qI Q)
    unfold gX11_meant_7 at h
    refine mv_iload_n 2 dX11_meant_7 rfl ?_
    refine mv_if_lt 48 dX11_meant_8 (by decide) (fun z => ?_) (fun z => ?_)
    · replace h := mv_ifT z h
      refine mv_iconst (-1) dX11_meant_48 (by decide) ?_
      exact mv_iret rfl dX11_meant_49 ⟨_, rfl, h⟩
    · replace h := mv_ifF z h
      refine mv_aload_n 0 dX11_meant_11 rfl ?_
      refine mv_getR 69 fX11_33 (by decide) rfl rfl rfl dX11_meant_12 ?_
      refine mv_bipush 16 dX11_meant_15 (by decide) ?_
      refine mv_aload_n 0 dX11_meant_17 rfl ?_
      refine mv_getI fX11_239 (by decide) rfl rfl dX11_meant_18 ?_
      refine mv_imul dX11_meant_21 ?_
      refine mv_aload_n 0 dX11_meant_22 rfl ?_
      refine mv_getR 86 fX11_84 (by decide) rfl rfl rfl dX11_meant_23 ?_
      refine mv_iload_n 2 dX11_meant_26 rfl ?_
      obtain ⟨hi2, h⟩ := mv_chkE h
      refine mv_ild (by decide) rfl (mv_inE hi2) dX11_meant_27 ?_
      refine mv_iadd dX11_meant_28 ?_
      obtain ⟨hi3, h⟩ := mv_chkE h
      refine mv_lld (by decide) rfl (mv_inE hi3) dX11_meant_29 ?_
      refine mv_lload_n 1 dX11_meant_30 rfl ?_
      refine mv_lcmp dX11_meant_31 ?_
      refine mv_if_ne 42 dX11_meant_32 (by decide) (fun z => ?_) (fun z => ?_)
      · replace h := mv_ifF z h
        obtain ⟨v4, ev4⟩ : ∃ z : Int32, z = x3 - 1 := ⟨_, rfl⟩
        replace h := mv_letE h v4 ev4
        refine mv_iinc v4 2 [(3, .int v4), (0, .ref 62), (1, .long x1)] dX11_meant_42 rfl (mv_dec 1 (by decide) ev4) (by decide) rfl ?_
        refine mv_goto 7 dX11_meant_45 (by decide) ?_
        refine mv_sub [1, 2, 0] rfl ?_
        exact h
      · replace h := mv_ifT z h
        refine mv_aload_n 0 dX11_meant_35 rfl ?_
        refine mv_getR 86 fX11_84 (by decide) rfl rfl rfl dX11_meant_36 ?_
        refine mv_iload_n 2 dX11_meant_39 rfl ?_
        obtain ⟨hi5, h⟩ := mv_chkE h
        refine mv_ild (by decide) rfl (mv_inE hi5) dX11_meant_40 ?_
        exact mv_iret rfl dX11_meant_41 ⟨_, rfl, h⟩
noncomputable def fX11_meant (a0 : Int64) (M : mv_M) : Option (Int32 × mv_M) :=
  mv_let ((M.1 62 44) - 1) fun v1 =>
  fX11_meant_7 a0 v1 M
set_option maxRecDepth 100000 in
set_option maxHeartbeats 4000000 in
theorem zX11_meant {l : Launch} {d : Nat} {Q : Int32 → mv_M → Prop} (hd : 0 ≤ d) (a0 : Int64) (M : mv_M) (h : mv_ok (fX11_meant a0 M) Q) : mv l mX11_meant d 0 0 (lv_args 0 [.ref 62, .long a0]) [] M (mv_qI Q) := by
  unfold fX11_meant at h
  show mv l mX11_meant d 0 0 [(0, .ref 62), (1, .long a0)] [] M (mv_qI Q)
  refine mv_aload_n 0 dX11_meant_0 rfl ?_
  refine mv_getI fX11_319 (by decide) rfl rfl dX11_meant_1 ?_
  refine mv_iconst 1 dX11_meant_4 (by decide) ?_
  refine mv_isub dX11_meant_5 ?_
  refine mv_topi (fun v1 ev1 => ?_)
  replace h := mv_letE h v1 ev1
  refine mv_istore_n [(3, .int v1), (0, .ref 62), (1, .long a0)] dX11_meant_6 (by decide) rfl ?_
  refine mv_sub [1, 2, 0] rfl ?_
  exact zX11_meant_7 hd a0 v1 M h
theorem dX11_tells_0 : decode cX11_tells 0 = .ok (.aload_n 0, 1) := by decide +kernel
theorem dX11_tells_1 : decode cX11_tells 1 = .ok (.getfield 36, 3) := by decide +kernel
theorem dX11_tells_4 : decode cX11_tells 4 = .ok (.bipush 16, 2) := by decide +kernel
theorem dX11_tells_6 : decode cX11_tells 6 = .ok (.aload_n 0, 1) := by decide +kernel
theorem dX11_tells_7 : decode cX11_tells 7 = .ok (.getfield 239, 3) := by decide +kernel
theorem dX11_tells_10 : decode cX11_tells 10 = .ok (.imul, 1) := by decide +kernel
theorem dX11_tells_11 : decode cX11_tells 11 = .ok (.iload_n 1, 1) := by decide +kernel
theorem dX11_tells_12 : decode cX11_tells 12 = .ok (.iadd, 1) := by decide +kernel
theorem dX11_tells_13 : decode cX11_tells 13 = .ok (.iload_n 2, 1) := by decide +kernel
theorem dX11_tells_14 : decode cX11_tells 14 = .ok (.iastore, 1) := by decide +kernel
theorem dX11_tells_15 : decode cX11_tells 15 = .ok (.aload_n 0, 1) := by decide +kernel
theorem dX11_tells_16 : decode cX11_tells 16 = .ok (.getfield 84, 3) := by decide +kernel
theorem dX11_tells_19 : decode cX11_tells 19 = .ok (.aload_n 0, 1) := by decide +kernel
theorem dX11_tells_20 : decode cX11_tells 20 = .ok (.getfield 319, 3) := by decide +kernel
theorem dX11_tells_23 : decode cX11_tells 23 = .ok (.iload_n 1, 1) := by decide +kernel
theorem dX11_tells_24 : decode cX11_tells 24 = .ok (.iastore, 1) := by decide +kernel
theorem dX11_tells_25 : decode cX11_tells 25 = .ok (.aload_n 0, 1) := by decide +kernel
theorem dX11_tells_26 : decode cX11_tells 26 = .ok (.dup, 1) := by decide +kernel
theorem dX11_tells_27 : decode cX11_tells 27 = .ok (.getfield 319, 3) := by decide +kernel
theorem dX11_tells_30 : decode cX11_tells 30 = .ok (.iconst 1, 1) := by decide +kernel
theorem dX11_tells_31 : decode cX11_tells 31 = .ok (.iadd, 1) := by decide +kernel
theorem dX11_tells_32 : decode cX11_tells 32 = .ok (.putfield 319, 3) := by decide +kernel
theorem dX11_tells_35 : decode cX11_tells 35 = .ok (.return_, 1) := by decide +kernel
noncomputable def fX11_tells (a0 : Int32) (a1 : Int32) (M : mv_M) : Option (Unit × mv_M) :=
  mv_chk (mv_inb ((16 * (M.1 62 33)) + a0) 384) <|
  mv_let (mv_si M 70 ((16 * (M.1 62 33)) + a0).toNatClampNeg a1) fun M2 =>
  mv_chk (mv_inb (M2.1 62 44) 16) <|
  mv_let (mv_si M2 86 (M2.1 62 44).toNatClampNeg a0) fun M4 =>
  mv_let (mv_si M4 62 44 ((M4.1 62 44) + 1)) fun M5 =>
  some ((), M5)
set_option maxRecDepth 100000 in
set_option maxHeartbeats 4000000 in
theorem zX11_tells {l : Launch} {d : Nat} {Q : Unit → mv_M → Prop} (hd : 0 ≤ d) (a0 : Int32) (a1 : Int32) (M : mv_M) (h : mv_ok (fX11_tells a0 a1 M) Q) : mv l mX11_tells d 0 0 (lv_args 0 [.ref 62, .int a0, .int a1]) [] M (mv_qV Q) := by
  unfold fX11_tells at h
  show mv l mX11_tells d 0 0 [(0, .ref 62), (1, .int a0), (2, .int a1)] [] M (mv_qV Q)
  refine mv_aload_n 0 dX11_tells_0 rfl ?_
  refine mv_getR 70 fX11_36 (by decide) rfl rfl rfl dX11_tells_1 ?_
  refine mv_bipush 16 dX11_tells_4 (by decide) ?_
  refine mv_aload_n 0 dX11_tells_6 rfl ?_
  refine mv_getI fX11_239 (by decide) rfl rfl dX11_tells_7 ?_
  refine mv_imul dX11_tells_10 ?_
  refine mv_iload_n 1 dX11_tells_11 rfl ?_
  refine mv_iadd dX11_tells_12 ?_
  refine mv_iload_n 2 dX11_tells_13 rfl ?_
  obtain ⟨hi1, h⟩ := mv_chkE h
  refine mv_ist (by decide) rfl (mv_inE hi1) dX11_tells_14 (fun M2 eM2 => ?_)
  replace h := mv_letE h M2 eM2
  refine mv_aload_n 0 dX11_tells_15 rfl ?_
  refine mv_getR 86 fX11_84 (by decide) rfl rfl rfl dX11_tells_16 ?_
  refine mv_aload_n 0 dX11_tells_19 rfl ?_
  refine mv_getI fX11_319 (by decide) rfl rfl dX11_tells_20 ?_
  refine mv_iload_n 1 dX11_tells_23 rfl ?_
  obtain ⟨hi3, h⟩ := mv_chkE h
  refine mv_ist (by decide) rfl (mv_inE hi3) dX11_tells_24 (fun M4 eM4 => ?_)
  replace h := mv_letE h M4 eM4
  refine mv_aload_n 0 dX11_tells_25 rfl ?_
  refine mv_dup dX11_tells_26 rfl ?_
  refine mv_getI fX11_319 (by decide) rfl rfl dX11_tells_27 ?_
  refine mv_iconst 1 dX11_tells_30 (by decide) ?_
  refine mv_iadd dX11_tells_31 ?_
  refine mv_putI fX11_319 (by decide) rfl rfl dX11_tells_32 (fun M5 eM5 => ?_)
  replace h := mv_letE h M5 eM5
  exact mv_vret rfl dX11_tells_35 ⟨rfl, h⟩
theorem dX11_judgeCall_0 : decode cX11_judgeCall 0 = .ok (.iconst (-1), 1) := by decide +kernel
theorem dX11_judgeCall_1 : decode cX11_judgeCall 1 = .ok (.istore_n 2, 1) := by decide +kernel
theorem dX11_judgeCall_2 : decode cX11_judgeCall 2 = .ok (.bipush 12, 2) := by decide +kernel
theorem dX11_judgeCall_4 : decode cX11_judgeCall 4 = .ok (.aload_n 0, 1) := by decide +kernel
theorem dX11_judgeCall_5 : decode cX11_judgeCall 5 = .ok (.getfield 310, 3) := by decide +kernel
theorem dX11_judgeCall_8 : decode cX11_judgeCall 8 = .ok (.imul, 1) := by decide +kernel
theorem dX11_judgeCall_9 : decode cX11_judgeCall 9 = .ok (.istore_n 3, 1) := by decide +kernel
theorem dX11_judgeCall_10 : decode cX11_judgeCall 10 = .ok (.iload_n 3, 1) := by decide +kernel
theorem dX11_judgeCall_11 : decode cX11_judgeCall 11 = .ok (.bipush 12, 2) := by decide +kernel
theorem dX11_judgeCall_13 : decode cX11_judgeCall 13 = .ok (.aload_n 0, 1) := by decide +kernel
theorem dX11_judgeCall_14 : decode cX11_judgeCall 14 = .ok (.getfield 310, 3) := by decide +kernel
theorem dX11_judgeCall_17 : decode cX11_judgeCall 17 = .ok (.imul, 1) := by decide +kernel
theorem dX11_judgeCall_18 : decode cX11_judgeCall 18 = .ok (.aload_n 0, 1) := by decide +kernel
theorem dX11_judgeCall_19 : decode cX11_judgeCall 19 = .ok (.getfield 313, 3) := by decide +kernel
theorem dX11_judgeCall_22 : decode cX11_judgeCall 22 = .ok (.iadd, 1) := by decide +kernel
theorem dX11_judgeCall_23 : decode cX11_judgeCall 23 = .ok (.if_icmp .ge 31, 3) := by decide +kernel
theorem dX11_judgeCall_26 : decode cX11_judgeCall 26 = .ok (.aload_n 0, 1) := by decide +kernel
theorem dX11_judgeCall_27 : decode cX11_judgeCall 27 = .ok (.getfield 17, 3) := by decide +kernel
theorem dX11_judgeCall_30 : decode cX11_judgeCall 30 = .ok (.iload_n 3, 1) := by decide +kernel
theorem dX11_judgeCall_31 : decode cX11_judgeCall 31 = .ok (.laload, 1) := by decide +kernel
theorem dX11_judgeCall_32 : decode cX11_judgeCall 32 = .ok (.aload_n 0, 1) := by decide +kernel
theorem dX11_judgeCall_33 : decode cX11_judgeCall 33 = .ok (.getfield 57, 3) := by decide +kernel
theorem dX11_judgeCall_36 : decode cX11_judgeCall 36 = .ok (.iload_n 1, 1) := by decide +kernel
theorem dX11_judgeCall_37 : decode cX11_judgeCall 37 = .ok (.laload, 1) := by decide +kernel
theorem dX11_judgeCall_38 : decode cX11_judgeCall 38 = .ok (.lcmp, 1) := by decide +kernel
theorem dX11_judgeCall_39 : decode cX11_judgeCall 39 = .ok (.ifCond .ne 7, 3) := by decide +kernel
theorem dX11_judgeCall_42 : decode cX11_judgeCall 42 = .ok (.iload_n 3, 1) := by decide +kernel
theorem dX11_judgeCall_43 : decode cX11_judgeCall 43 = .ok (.goto 4, 3) := by decide +kernel
theorem dX11_judgeCall_46 : decode cX11_judgeCall 46 = .ok (.iload_n 2, 1) := by decide +kernel
theorem dX11_judgeCall_47 : decode cX11_judgeCall 47 = .ok (.istore_n 2, 1) := by decide +kernel
theorem dX11_judgeCall_48 : decode cX11_judgeCall 48 = .ok (.iinc 3 1, 3) := by decide +kernel
theorem dX11_judgeCall_51 : decode cX11_judgeCall 51 = .ok (.goto (-41), 3) := by decide +kernel
theorem dX11_judgeCall_54 : decode cX11_judgeCall 54 = .ok (.iload_n 2, 1) := by decide +kernel
theorem dX11_judgeCall_55 : decode cX11_judgeCall 55 = .ok (.iconst (-1), 1) := by decide +kernel
theorem dX11_judgeCall_56 : decode cX11_judgeCall 56 = .ok (.if_icmp .eq 18, 3) := by decide +kernel
theorem dX11_judgeCall_59 : decode cX11_judgeCall 59 = .ok (.aload_n 0, 1) := by decide +kernel
theorem dX11_judgeCall_60 : decode cX11_judgeCall 60 = .ok (.getfield 24, 3) := by decide +kernel
theorem dX11_judgeCall_63 : decode cX11_judgeCall 63 = .ok (.iload_n 2, 1) := by decide +kernel
theorem dX11_judgeCall_64 : decode cX11_judgeCall 64 = .ok (.iaload, 1) := by decide +kernel
theorem dX11_judgeCall_65 : decode cX11_judgeCall 65 = .ok (.aload_n 0, 1) := by decide +kernel
theorem dX11_judgeCall_66 : decode cX11_judgeCall 66 = .ok (.getfield 45, 3) := by decide +kernel
theorem dX11_judgeCall_69 : decode cX11_judgeCall 69 = .ok (.iload_n 1, 1) := by decide +kernel
theorem dX11_judgeCall_70 : decode cX11_judgeCall 70 = .ok (.iaload, 1) := by decide +kernel
theorem dX11_judgeCall_71 : decode cX11_judgeCall 71 = .ok (.if_icmp .eq 24, 3) := by decide +kernel
theorem dX11_judgeCall_74 : decode cX11_judgeCall 74 = .ok (.aload_n 0, 1) := by decide +kernel
theorem dX11_judgeCall_75 : decode cX11_judgeCall 75 = .ok (.iload_n 2, 1) := by decide +kernel
theorem dX11_judgeCall_76 : decode cX11_judgeCall 76 = .ok (.iconst (-1), 1) := by decide +kernel
theorem dX11_judgeCall_77 : decode cX11_judgeCall 77 = .ok (.if_icmp .ne 7, 3) := by decide +kernel
theorem dX11_judgeCall_80 : decode cX11_judgeCall 80 = .ok (.iconst 4, 1) := by decide +kernel
theorem dX11_judgeCall_81 : decode cX11_judgeCall 81 = .ok (.goto 4, 3) := by decide +kernel
theorem dX11_judgeCall_84 : decode cX11_judgeCall 84 = .ok (.iconst 5, 1) := by decide +kernel
theorem dX11_judgeCall_85 : decode cX11_judgeCall 85 = .ok (.aload_n 0, 1) := by decide +kernel
theorem dX11_judgeCall_86 : decode cX11_judgeCall 86 = .ok (.getfield 51, 3) := by decide +kernel
theorem dX11_judgeCall_89 : decode cX11_judgeCall 89 = .ok (.iload_n 1, 1) := by decide +kernel
theorem dX11_judgeCall_90 : decode cX11_judgeCall 90 = .ok (.iaload, 1) := by decide +kernel
theorem dX11_judgeCall_91 : decode cX11_judgeCall 91 = .ok (.invokevirtual 205, 3) := by decide +kernel
theorem dX11_judgeCall_94 : decode cX11_judgeCall 94 = .ok (.return_, 1) := by decide +kernel
theorem dX11_judgeCall_95 : decode cX11_judgeCall 95 = .ok (.aload_n 0, 1) := by decide +kernel
theorem dX11_judgeCall_96 : decode cX11_judgeCall 96 = .ok (.getfield 48, 3) := by decide +kernel
theorem dX11_judgeCall_99 : decode cX11_judgeCall 99 = .ok (.iload_n 1, 1) := by decide +kernel
theorem dX11_judgeCall_100 : decode cX11_judgeCall 100 = .ok (.iload_n 2, 1) := by decide +kernel
theorem dX11_judgeCall_101 : decode cX11_judgeCall 101 = .ok (.iastore, 1) := by decide +kernel
theorem dX11_judgeCall_102 : decode cX11_judgeCall 102 = .ok (.aload_n 0, 1) := by decide +kernel
theorem dX11_judgeCall_103 : decode cX11_judgeCall 103 = .ok (.getfield 45, 3) := by decide +kernel
theorem dX11_judgeCall_106 : decode cX11_judgeCall 106 = .ok (.iload_n 1, 1) := by decide +kernel
theorem dX11_judgeCall_107 : decode cX11_judgeCall 107 = .ok (.iaload, 1) := by decide +kernel
theorem dX11_judgeCall_108 : decode cX11_judgeCall 108 = .ok (.iconst 1, 1) := by decide +kernel
theorem dX11_judgeCall_109 : decode cX11_judgeCall 109 = .ok (.isub, 1) := by decide +kernel
theorem dX11_judgeCall_110 : decode cX11_judgeCall 110 = .ok (.istore_n 3, 1) := by decide +kernel
theorem dX11_judgeCall_111 : decode cX11_judgeCall 111 = .ok (.iload_n 3, 1) := by decide +kernel
theorem dX11_judgeCall_112 : decode cX11_judgeCall 112 = .ok (.ifCond .lt 38, 3) := by decide +kernel
theorem dX11_judgeCall_115 : decode cX11_judgeCall 115 = .ok (.aload_n 0, 1) := by decide +kernel
theorem dX11_judgeCall_116 : decode cX11_judgeCall 116 = .ok (.iconst 1, 1) := by decide +kernel
theorem dX11_judgeCall_117 : decode cX11_judgeCall 117 = .ok (.aload_n 0, 1) := by decide +kernel
theorem dX11_judgeCall_118 : decode cX11_judgeCall 118 = .ok (.getfield 60, 3) := by decide +kernel
theorem dX11_judgeCall_121 : decode cX11_judgeCall 121 = .ok (.aload_n 0, 1) := by decide +kernel
theorem dX11_judgeCall_122 : decode cX11_judgeCall 122 = .ok (.getfield 42, 3) := by decide +kernel
theorem dX11_judgeCall_125 : decode cX11_judgeCall 125 = .ok (.iload_n 1, 1) := by decide +kernel
theorem dX11_judgeCall_126 : decode cX11_judgeCall 126 = .ok (.iaload, 1) := by decide +kernel
theorem dX11_judgeCall_127 : decode cX11_judgeCall 127 = .ok (.iload_n 3, 1) := by decide +kernel
theorem dX11_judgeCall_128 : decode cX11_judgeCall 128 = .ok (.iadd, 1) := by decide +kernel
theorem dX11_judgeCall_129 : decode cX11_judgeCall 129 = .ok (.iaload, 1) := by decide +kernel
theorem dX11_judgeCall_130 : decode cX11_judgeCall 130 = .ok (.aload_n 0, 1) := by decide +kernel
theorem dX11_judgeCall_131 : decode cX11_judgeCall 131 = .ok (.getfield 36, 3) := by decide +kernel
theorem dX11_judgeCall_134 : decode cX11_judgeCall 134 = .ok (.bipush 16, 2) := by decide +kernel
theorem dX11_judgeCall_136 : decode cX11_judgeCall 136 = .ok (.iload_n 2, 1) := by decide +kernel
theorem dX11_judgeCall_137 : decode cX11_judgeCall 137 = .ok (.imul, 1) := by decide +kernel
theorem dX11_judgeCall_138 : decode cX11_judgeCall 138 = .ok (.iload_n 3, 1) := by decide +kernel
theorem dX11_judgeCall_139 : decode cX11_judgeCall 139 = .ok (.iadd, 1) := by decide +kernel
theorem dX11_judgeCall_140 : decode cX11_judgeCall 140 = .ok (.iaload, 1) := by decide +kernel
theorem dX11_judgeCall_141 : decode cX11_judgeCall 141 = .ok (.invokevirtual 322, 3) := by decide +kernel
theorem dX11_judgeCall_144 : decode cX11_judgeCall 144 = .ok (.iinc 3 (-1), 3) := by decide +kernel
theorem dX11_judgeCall_147 : decode cX11_judgeCall 147 = .ok (.goto (-36), 3) := by decide +kernel
theorem dX11_judgeCall_150 : decode cX11_judgeCall 150 = .ok (.return_, 1) := by decide +kernel
noncomputable def fX11_judgeCall_47 (x1 : Int32) (x3 : Int32) (s0 : Int32) (M : mv_M) : Option (((Int32 × Int32 × Int32) ⊕ Unit) × mv_M) :=
  mv_let (x3 + 1) fun v15 =>
  some (.inl (x1, s0, v15), M)
set_option maxRecDepth 100000 in
set_option maxHeartbeats 4000000 in
theorem zX11_judgeCall_47 {l : Launch} {d : Nat} {Q : Unit → mv_M → Prop} (hd : 2 ≤ d) (x1 : Int32) (x3 : Int32) (s0 : Int32) (M : mv_M) (h : mv_ok (fX11_judgeCall_47 x1 x3 s0 M) (mv_pq (fun (s : Int32 × Int32 × Int32) M => mv l mX11_judgeCall d 0 10 [(0, .ref 62), (1, .int s.1), (2, .int s.2.1), (3, .int s.2.2)] [] M (mv_qV Q)) Q)) : mv l mX11_judgeCall d 0 47 [(0, .ref 62), (1, .int x1), (3, .int x3)] [.int s0] M (mv_qV Q) := by
  unfold fX11_judgeCall_47 at h
  refine mv_istore_n [(2, .int s0), (0, .ref 62), (1, .int x1), (3, .int x3)] dX11_judgeCall_47 (by decide) rfl ?_
  obtain ⟨v15, ev15⟩ : ∃ z : Int32, z = x3 + 1 := ⟨_, rfl⟩
  replace h := mv_letE h v15 ev15
  refine mv_iinc v15 3 [(3, .int v15), (2, .int s0), (0, .ref 62), (1, .int x1)] dX11_judgeCall_48 rfl (by rw [ev15]; rfl) (by decide) rfl ?_
  refine mv_goto 10 dX11_judgeCall_51 (by decide) ?_
  refine mv_sub [2, 3, 1, 0] rfl ?_
  exact h
noncomputable def fX11_judgeCall_85 (x1 : Int32) (s0 : Int32) (M : mv_M) : Option (Unit × mv_M) :=
  mv_chk (mv_inb x1 2002) <|
  mv_bind (fX11_stop s0 (M.1 75 x1.toNatClampNeg) M) fun _ M17 =>
  some ((), M17)
set_option maxRecDepth 100000 in
set_option maxHeartbeats 4000000 in
theorem zX11_judgeCall_85 {l : Launch} {d : Nat} {Q : Unit → mv_M → Prop} (hd : 2 ≤ d) (x1 : Int32) (s0 : Int32) (M : mv_M) (h : mv_ok (fX11_judgeCall_85 x1 s0 M) Q) : mv l mX11_judgeCall d 0 85 [(0, .ref 62), (1, .int x1)] [.int s0, .ref 62] M (mv_qV Q) := by
  unfold fX11_judgeCall_85 at h
  refine mv_aload_n 0 dX11_judgeCall_85 rfl ?_
  refine mv_getR 75 fX11_51 (by decide) rfl rfl rfl dX11_judgeCall_86 ?_
  refine mv_iload_n 1 dX11_judgeCall_89 rfl ?_
  obtain ⟨hi16, h⟩ := mv_chkE h
  refine mv_ild (by decide) rfl (mv_inE hi16) dX11_judgeCall_90 ?_
  refine mv_cvV (As := [.int s0, .int (M.1 75 x1.toNatClampNeg)]) (st := []) okX11_stop lX11_205 (by decide) rfl rfl rfl (Nat.le_of_ble_eq_true rfl) rfl (Nat.le_of_ble_eq_true rfl) dX11_judgeCall_91 (by omega) rfl (zX11_stop (d := d - 1) (by omega) s0 (M.1 75 x1.toNatClampNeg) M (mv_bindE h)) (fun _ M17 h => ?_)
  exact mv_vret rfl dX11_judgeCall_94 ⟨rfl, h⟩
noncomputable def fX11_judgeCall_74 (x1 : Int32) (x2 : Int32) (M : mv_M) : Option (Unit × mv_M) :=
  if x2 = (-1) then
    fX11_judgeCall_85 x1 4 M
  else
    fX11_judgeCall_85 x1 5 M
set_option maxRecDepth 100000 in
set_option maxHeartbeats 4000000 in
theorem zX11_judgeCall_74 {l : Launch} {d : Nat} {Q : Unit → mv_M → Prop} (hd : 2 ≤ d) (x1 : Int32) (x2 : Int32) (M : mv_M) (h : mv_ok (fX11_judgeCall_74 x1 x2 M) Q) : mv l mX11_judgeCall d 0 74 [(0, .ref 62), (1, .int x1), (2, .int x2)] [] M (mv_qV Q) := by
  unfold fX11_judgeCall_74 at h
  refine mv_aload_n 0 dX11_judgeCall_74 rfl ?_
  refine mv_iload_n 2 dX11_judgeCall_75 rfl ?_
  refine mv_iconst (-1) dX11_judgeCall_76 (by decide) ?_
  refine mv_icmp_ne 84 dX11_judgeCall_77 (by decide) (fun z => ?_) (fun z => ?_)
  · replace h := mv_ifF z h
    refine mv_iconst 5 dX11_judgeCall_84 (by decide) ?_
    refine mv_sub [0, 1] rfl ?_
    exact zX11_judgeCall_85 hd x1 5 M h
  · replace h := mv_ifT z h
    refine mv_iconst 4 dX11_judgeCall_80 (by decide) ?_
    refine mv_goto 85 dX11_judgeCall_81 (by decide) ?_
    refine mv_sub [0, 1] rfl ?_
    exact zX11_judgeCall_85 hd x1 4 M h
noncomputable def gX11_judgeCall_111 (x1 : Int32) (x2 : Int32) (x3 : Int32) (M : mv_M) : Option (((Int32 × Int32 × Int32) ⊕ Unit) × mv_M) :=
  if x3 < 0 then
    some (.inr (()), M)
  else
    mv_chk (mv_inb x1 2002) <|
    mv_chk (mv_inb ((M.1 72 x1.toNatClampNeg) + x3) 2002) <|
    mv_chk (mv_inb ((16 * x2) + x3) 384) <|
    mv_bind (fX11_task 1 (M.1 78 ((M.1 72 x1.toNatClampNeg) + x3).toNatClampNeg) (M.1 70 ((16 * x2) + x3).toNatClampNeg) M) fun _ M13 =>
    mv_let (x3 - 1) fun v14 =>
    some (.inl (x1, x2, v14), M13)
noncomputable def fX11_judgeCall_111 (x1 : Int32) (x2 : Int32) (x3 : Int32) (M : mv_M) : Option (Unit × mv_M) := mv_loop (fun (s : Int32 × Int32 × Int32) M => gX11_judgeCall_111 s.1 s.2.1 s.2.2 M) (x1, x2, x3) M
set_option maxRecDepth 100000 in
set_option maxHeartbeats 4000000 in
theorem zX11_judgeCall_111 {l : Launch} {d : Nat} {Q : Unit → mv_M → Prop} (hd : 2 ≤ d) (x1 : Int32) (x2 : Int32) (x3 : Int32) (M : mv_M) (h : mv_ok (fX11_judgeCall_111 x1 x2 x3 M) Q) : mv l mX11_judgeCall d 0 111 [(0, .ref 62), (1, .int x1), (2, .int x2), (3, .int x3)] [] M (mv_qV Q) := by
  unfold fX11_judgeCall_111 at h
  refine mv_loopE (A := (fun (s : Int32 × Int32 × Int32) M => mv l mX11_judgeCall d 0 111 [(0, .ref 62), (1, .int s.1), (2, .int s.2.1), (3, .int s.2.2)] [] M (mv_qV Q))) ?_ (x1, x2, x3) M h
  · rintro ⟨x1, x2, x3⟩ M h
    try dsimp only at h
    show mv l mX11_judgeCall d 0 111 [(0, .ref 62), (1, .int x1), (2, .int x2), (3, .int x3)] [] M (mv_qV Q)
    unfold gX11_judgeCall_111 at h
    refine mv_iload_n 3 dX11_judgeCall_111 rfl ?_
    refine mv_if_lt 150 dX11_judgeCall_112 (by decide) (fun z => ?_) (fun z => ?_)
    · replace h := mv_ifT z h
      exact mv_vret rfl dX11_judgeCall_150 ⟨rfl, h⟩
    · replace h := mv_ifF z h
      refine mv_aload_n 0 dX11_judgeCall_115 rfl ?_
      refine mv_iconst 1 dX11_judgeCall_116 (by decide) ?_
      refine mv_aload_n 0 dX11_judgeCall_117 rfl ?_
      refine mv_getR 78 fX11_60 (by decide) rfl rfl rfl dX11_judgeCall_118 ?_
      refine mv_aload_n 0 dX11_judgeCall_121 rfl ?_
      refine mv_getR 72 fX11_42 (by decide) rfl rfl rfl dX11_judgeCall_122 ?_
      refine mv_iload_n 1 dX11_judgeCall_125 rfl ?_
      obtain ⟨hi10, h⟩ := mv_chkE h
      refine mv_ild (by decide) rfl (mv_inE hi10) dX11_judgeCall_126 ?_
      refine mv_iload_n 3 dX11_judgeCall_127 rfl ?_
      refine mv_iadd dX11_judgeCall_128 ?_
      obtain ⟨hi11, h⟩ := mv_chkE h
      refine mv_ild (by decide) rfl (mv_inE hi11) dX11_judgeCall_129 ?_
      refine mv_aload_n 0 dX11_judgeCall_130 rfl ?_
      refine mv_getR 70 fX11_36 (by decide) rfl rfl rfl dX11_judgeCall_131 ?_
      refine mv_bipush 16 dX11_judgeCall_134 (by decide) ?_
      refine mv_iload_n 2 dX11_judgeCall_136 rfl ?_
      refine mv_imul dX11_judgeCall_137 ?_
      refine mv_iload_n 3 dX11_judgeCall_138 rfl ?_
      refine mv_iadd dX11_judgeCall_139 ?_
      obtain ⟨hi12, h⟩ := mv_chkE h
      refine mv_ild (by decide) rfl (mv_inE hi12) dX11_judgeCall_140 ?_
      refine mv_cvV (As := [.int 1, .int (M.1 78 ((M.1 72 x1.toNatClampNeg) + x3).toNatClampNeg), .int (M.1 70 ((16 * x2) + x3).toNatClampNeg)]) (st := []) okX11_task lX11_322 (by decide) rfl rfl rfl (Nat.le_of_ble_eq_true rfl) rfl (Nat.le_of_ble_eq_true rfl) dX11_judgeCall_141 (by omega) rfl (zX11_task (d := d - 1) (by omega) 1 (M.1 78 ((M.1 72 x1.toNatClampNeg) + x3).toNatClampNeg) (M.1 70 ((16 * x2) + x3).toNatClampNeg) M (mv_bindE h)) (fun _ M13 h => ?_)
      obtain ⟨v14, ev14⟩ : ∃ z : Int32, z = x3 - 1 := ⟨_, rfl⟩
      replace h := mv_letE h v14 ev14
      refine mv_iinc v14 3 [(3, .int v14), (0, .ref 62), (1, .int x1), (2, .int x2)] dX11_judgeCall_144 rfl (mv_dec 1 (by decide) ev14) (by decide) rfl ?_
      refine mv_goto 111 dX11_judgeCall_147 (by decide) ?_
      refine mv_sub [1, 2, 3, 0] rfl ?_
      exact h
noncomputable def gX11_judgeCall_10 (x1 : Int32) (x2 : Int32) (x3 : Int32) (M : mv_M) : Option (((Int32 × Int32 × Int32) ⊕ Unit) × mv_M) :=
  if ((12 * (M.1 62 27)) + (M.1 62 28)) ≤ x3 then
    if x2 = (-1) then
      mv_inr (fX11_judgeCall_74 x1 x2 M)
    else
      mv_chk (mv_inb x2 24) <|
      mv_chk (mv_inb x1 2002) <|
      if (M.1 66 x2.toNatClampNeg) = (M.1 73 x1.toNatClampNeg) then
        mv_chk (mv_inb x1 2002) <|
        mv_let (mv_si M 74 x1.toNatClampNeg x2) fun M5 =>
        mv_chk (mv_inb x1 2002) <|
        mv_let ((M5.1 73 x1.toNatClampNeg) - 1) fun v7 =>
        mv_inr (fX11_judgeCall_111 x1 x2 v7 M5)
      else
        mv_inr (fX11_judgeCall_74 x1 x2 M)
  else
    mv_chk (mv_inb x3 24) <|
    mv_chk (mv_inb x1 2002) <|
    if (lg_cmp (M.2.1 64 x3.toNatClampNeg) (M.2.1 77 x1.toNatClampNeg)) = 0 then
      fX11_judgeCall_47 x1 x3 x3 M
    else
      fX11_judgeCall_47 x1 x3 x2 M
noncomputable def fX11_judgeCall_10 (x1 : Int32) (x2 : Int32) (x3 : Int32) (M : mv_M) : Option (Unit × mv_M) := mv_loop (fun (s : Int32 × Int32 × Int32) M => gX11_judgeCall_10 s.1 s.2.1 s.2.2 M) (x1, x2, x3) M
set_option maxRecDepth 100000 in
set_option maxHeartbeats 4000000 in
theorem zX11_judgeCall_10 {l : Launch} {d : Nat} {Q : Unit → mv_M → Prop} (hd : 2 ≤ d) (x1 : Int32) (x2 : Int32) (x3 : Int32) (M : mv_M) (h : mv_ok (fX11_judgeCall_10 x1 x2 x3 M) Q) : mv l mX11_judgeCall d 0 10 [(0, .ref 62), (1, .int x1), (2, .int x2), (3, .int x3)] [] M (mv_qV Q) := by
  unfold fX11_judgeCall_10 at h
  refine mv_loopE (A := (fun (s : Int32 × Int32 × Int32) M => mv l mX11_judgeCall d 0 10 [(0, .ref 62), (1, .int s.1), (2, .int s.2.1), (3, .int s.2.2)] [] M (mv_qV Q))) ?_ (x1, x2, x3) M h
  · rintro ⟨x1, x2, x3⟩ M h
    try dsimp only at h
    show mv l mX11_judgeCall d 0 10 [(0, .ref 62), (1, .int x1), (2, .int x2), (3, .int x3)] [] M (mv_qV Q)
    unfold gX11_judgeCall_10 at h
    refine mv_iload_n 3 dX11_judgeCall_10 rfl ?_
    refine mv_bipush 12 dX11_judgeCall_11 (by decide) ?_
    refine mv_aload_n 0 dX11_judgeCall_13 rfl ?_
    refine mv_getI fX11_310 (by decide) rfl rfl dX11_judgeCall_14 ?_
    refine mv_imul dX11_judgeCall_17 ?_
    refine mv_aload_n 0 dX11_judgeCall_18 rfl ?_
    refine mv_getI fX11_313 (by decide) rfl rfl dX11_judgeCall_19 ?_
    refine mv_iadd dX11_judgeCall_22 ?_
    refine mv_icmp_ge 54 dX11_judgeCall_23 (by decide) (fun z => ?_) (fun z => ?_)
    · replace h := mv_ifT z h
      refine mv_iload_n 2 dX11_judgeCall_54 rfl ?_
      refine mv_iconst (-1) dX11_judgeCall_55 (by decide) ?_
      refine mv_icmp_eq 74 dX11_judgeCall_56 (by decide) (fun z => ?_) (fun z => ?_)
      · replace h := mv_ifT z h
        refine mv_sub [0, 1, 2] rfl ?_
        exact zX11_judgeCall_74 hd x1 x2 M (mv_inrE h)
      · replace h := mv_ifF z h
        refine mv_aload_n 0 dX11_judgeCall_59 rfl ?_
        refine mv_getR 66 fX11_24 (by decide) rfl rfl rfl dX11_judgeCall_60 ?_
        refine mv_iload_n 2 dX11_judgeCall_63 rfl ?_
        obtain ⟨hi2, h⟩ := mv_chkE h
        refine mv_ild (by decide) rfl (mv_inE hi2) dX11_judgeCall_64 ?_
        refine mv_aload_n 0 dX11_judgeCall_65 rfl ?_
        refine mv_getR 73 fX11_45 (by decide) rfl rfl rfl dX11_judgeCall_66 ?_
        refine mv_iload_n 1 dX11_judgeCall_69 rfl ?_
        obtain ⟨hi3, h⟩ := mv_chkE h
        refine mv_ild (by decide) rfl (mv_inE hi3) dX11_judgeCall_70 ?_
        refine mv_icmp_eq 95 dX11_judgeCall_71 (by decide) (fun z => ?_) (fun z => ?_)
        · replace h := mv_ifT z h
          refine mv_aload_n 0 dX11_judgeCall_95 rfl ?_
          refine mv_getR 74 fX11_48 (by decide) rfl rfl rfl dX11_judgeCall_96 ?_
          refine mv_iload_n 1 dX11_judgeCall_99 rfl ?_
          refine mv_iload_n 2 dX11_judgeCall_100 rfl ?_
          obtain ⟨hi4, h⟩ := mv_chkE h
          refine mv_ist (by decide) rfl (mv_inE hi4) dX11_judgeCall_101 (fun M5 eM5 => ?_)
          replace h := mv_letE h M5 eM5
          refine mv_aload_n 0 dX11_judgeCall_102 rfl ?_
          refine mv_getR 73 fX11_45 (by decide) rfl rfl rfl dX11_judgeCall_103 ?_
          refine mv_iload_n 1 dX11_judgeCall_106 rfl ?_
          obtain ⟨hi6, h⟩ := mv_chkE h
          refine mv_ild (by decide) rfl (mv_inE hi6) dX11_judgeCall_107 ?_
          refine mv_iconst 1 dX11_judgeCall_108 (by decide) ?_
          refine mv_isub dX11_judgeCall_109 ?_
          refine mv_topi (fun v7 ev7 => ?_)
          replace h := mv_letE h v7 ev7
          refine mv_istore_n [(3, .int v7), (0, .ref 62), (1, .int x1), (2, .int x2)] dX11_judgeCall_110 (by decide) rfl ?_
          refine mv_sub [1, 2, 3, 0] rfl ?_
          exact zX11_judgeCall_111 hd x1 x2 v7 M5 (mv_inrE h)
        · replace h := mv_ifF z h
          refine mv_sub [0, 1, 2] rfl ?_
          exact zX11_judgeCall_74 hd x1 x2 M (mv_inrE h)
    · replace h := mv_ifF z h
      refine mv_aload_n 0 dX11_judgeCall_26 rfl ?_
      refine mv_getR 64 fX11_17 (by decide) rfl rfl rfl dX11_judgeCall_27 ?_
      refine mv_iload_n 3 dX11_judgeCall_30 rfl ?_
      obtain ⟨hi8, h⟩ := mv_chkE h
      refine mv_lld (by decide) rfl (mv_inE hi8) dX11_judgeCall_31 ?_
      refine mv_aload_n 0 dX11_judgeCall_32 rfl ?_
      refine mv_getR 77 fX11_57 (by decide) rfl rfl rfl dX11_judgeCall_33 ?_
      refine mv_iload_n 1 dX11_judgeCall_36 rfl ?_
      obtain ⟨hi9, h⟩ := mv_chkE h
      refine mv_lld (by decide) rfl (mv_inE hi9) dX11_judgeCall_37 ?_
      refine mv_lcmp dX11_judgeCall_38 ?_
      refine mv_if_ne 46 dX11_judgeCall_39 (by decide) (fun z => ?_) (fun z => ?_)
      · replace h := mv_ifF z h
        refine mv_iload_n 2 dX11_judgeCall_46 rfl ?_
        refine mv_sub [0, 1, 3] rfl ?_
        exact zX11_judgeCall_47 hd x1 x3 x2 M h
      · replace h := mv_ifT z h
        refine mv_iload_n 3 dX11_judgeCall_42 rfl ?_
        refine mv_goto 47 dX11_judgeCall_43 (by decide) ?_
        refine mv_sub [0, 1, 3] rfl ?_
        exact zX11_judgeCall_47 hd x1 x3 x3 M h
noncomputable def fX11_judgeCall (a0 : Int32) (M : mv_M) : Option (Unit × mv_M) :=
  mv_let (12 * (M.1 62 27)) fun v1 =>
  fX11_judgeCall_10 a0 (-1) v1 M
set_option maxRecDepth 100000 in
set_option maxHeartbeats 4000000 in
theorem zX11_judgeCall {l : Launch} {d : Nat} {Q : Unit → mv_M → Prop} (hd : 2 ≤ d) (a0 : Int32) (M : mv_M) (h : mv_ok (fX11_judgeCall a0 M) Q) : mv l mX11_judgeCall d 0 0 (lv_args 0 [.ref 62, .int a0]) [] M (mv_qV Q) := by
  unfold fX11_judgeCall at h
  show mv l mX11_judgeCall d 0 0 [(0, .ref 62), (1, .int a0)] [] M (mv_qV Q)
  refine mv_iconst (-1) dX11_judgeCall_0 (by decide) ?_
  refine mv_istore_n [(2, .int (-1)), (0, .ref 62), (1, .int a0)] dX11_judgeCall_1 (by decide) rfl ?_
  refine mv_bipush 12 dX11_judgeCall_2 (by decide) ?_
  refine mv_aload_n 1 dX11_judgeCall_4 rfl ?_
  refine mv_getI fX11_310 (by decide) rfl rfl dX11_judgeCall_5 ?_
  refine mv_imul dX11_judgeCall_8 ?_
  refine mv_topi (fun v1 ev1 => ?_)
  replace h := mv_letE h v1 ev1
  refine mv_istore_n [(3, .int v1), (2, .int (-1)), (0, .ref 62), (1, .int a0)] dX11_judgeCall_9 (by decide) rfl ?_
  refine mv_sub [2, 3, 1, 0] rfl ?_
  exact zX11_judgeCall_10 hd a0 (-1) v1 M h
theorem dX11_onJudge_0 : decode cX11_onJudge 0 = .ok (.aload_n 0, 1) := by decide +kernel
theorem dX11_onJudge_1 : decode cX11_onJudge 1 = .ok (.iconst 4, 1) := by decide +kernel
theorem dX11_onJudge_2 : decode cX11_onJudge 2 = .ok (.iload_n 1, 1) := by decide +kernel
theorem dX11_onJudge_3 : decode cX11_onJudge 3 = .ok (.iload_n 2, 1) := by decide +kernel
theorem dX11_onJudge_4 : decode cX11_onJudge 4 = .ok (.invokevirtual 322, 3) := by decide +kernel
theorem dX11_onJudge_7 : decode cX11_onJudge 7 = .ok (.aload_n 0, 1) := by decide +kernel
theorem dX11_onJudge_8 : decode cX11_onJudge 8 = .ok (.getfield 39, 3) := by decide +kernel
theorem dX11_onJudge_11 : decode cX11_onJudge 11 = .ok (.iload_n 1, 1) := by decide +kernel
theorem dX11_onJudge_12 : decode cX11_onJudge 12 = .ok (.iaload, 1) := by decide +kernel
theorem dX11_onJudge_13 : decode cX11_onJudge 13 = .ok (.tableswitch 255 1 9 #[88, 115, 149, 149, 255, 255, 51, 198, 206], 51) := by decide +kernel
theorem dX11_onJudge_64 : decode cX11_onJudge 64 = .ok (.aload_n 0, 1) := by decide +kernel
theorem dX11_onJudge_65 : decode cX11_onJudge 65 = .ok (.aload_n 0, 1) := by decide +kernel
theorem dX11_onJudge_66 : decode cX11_onJudge 66 = .ok (.getfield 57, 3) := by decide +kernel
theorem dX11_onJudge_69 : decode cX11_onJudge 69 = .ok (.iload_n 1, 1) := by decide +kernel
theorem dX11_onJudge_70 : decode cX11_onJudge 70 = .ok (.laload, 1) := by decide +kernel
theorem dX11_onJudge_71 : decode cX11_onJudge 71 = .ok (.invokevirtual 335, 3) := by decide +kernel
theorem dX11_onJudge_74 : decode cX11_onJudge 74 = .ok (.istore_n 3, 1) := by decide +kernel
theorem dX11_onJudge_75 : decode cX11_onJudge 75 = .ok (.iload_n 3, 1) := by decide +kernel
theorem dX11_onJudge_76 : decode cX11_onJudge 76 = .ok (.iconst (-1), 1) := by decide +kernel
theorem dX11_onJudge_77 : decode cX11_onJudge 77 = .ok (.if_icmp .ne 14, 3) := by decide +kernel
theorem dX11_onJudge_80 : decode cX11_onJudge 80 = .ok (.aload_n 0, 1) := by decide +kernel
theorem dX11_onJudge_81 : decode cX11_onJudge 81 = .ok (.iconst 4, 1) := by decide +kernel
theorem dX11_onJudge_82 : decode cX11_onJudge 82 = .ok (.aload_n 0, 1) := by decide +kernel
theorem dX11_onJudge_83 : decode cX11_onJudge 83 = .ok (.getfield 51, 3) := by decide +kernel
theorem dX11_onJudge_86 : decode cX11_onJudge 86 = .ok (.iload_n 1, 1) := by decide +kernel
theorem dX11_onJudge_87 : decode cX11_onJudge 87 = .ok (.iaload, 1) := by decide +kernel
theorem dX11_onJudge_88 : decode cX11_onJudge 88 = .ok (.invokevirtual 205, 3) := by decide +kernel
theorem dX11_onJudge_91 : decode cX11_onJudge 91 = .ok (.aload_n 0, 1) := by decide +kernel
theorem dX11_onJudge_92 : decode cX11_onJudge 92 = .ok (.getfield 42, 3) := by decide +kernel
theorem dX11_onJudge_95 : decode cX11_onJudge 95 = .ok (.iload_n 1, 1) := by decide +kernel
theorem dX11_onJudge_96 : decode cX11_onJudge 96 = .ok (.iload_n 3, 1) := by decide +kernel
theorem dX11_onJudge_97 : decode cX11_onJudge 97 = .ok (.iastore, 1) := by decide +kernel
theorem dX11_onJudge_98 : decode cX11_onJudge 98 = .ok (.goto 170, 3) := by decide +kernel
theorem dX11_onJudge_101 : decode cX11_onJudge 101 = .ok (.aload_n 0, 1) := by decide +kernel
theorem dX11_onJudge_102 : decode cX11_onJudge 102 = .ok (.iconst 1, 1) := by decide +kernel
theorem dX11_onJudge_103 : decode cX11_onJudge 103 = .ok (.aload_n 0, 1) := by decide +kernel
theorem dX11_onJudge_104 : decode cX11_onJudge 104 = .ok (.getfield 45, 3) := by decide +kernel
theorem dX11_onJudge_107 : decode cX11_onJudge 107 = .ok (.iload_n 1, 1) := by decide +kernel
theorem dX11_onJudge_108 : decode cX11_onJudge 108 = .ok (.iaload, 1) := by decide +kernel
theorem dX11_onJudge_109 : decode cX11_onJudge 109 = .ok (.iconst 0, 1) := by decide +kernel
theorem dX11_onJudge_110 : decode cX11_onJudge 110 = .ok (.invokevirtual 322, 3) := by decide +kernel
theorem dX11_onJudge_113 : decode cX11_onJudge 113 = .ok (.aload_n 0, 1) := by decide +kernel
theorem dX11_onJudge_114 : decode cX11_onJudge 114 = .ok (.iconst 1, 1) := by decide +kernel
theorem dX11_onJudge_115 : decode cX11_onJudge 115 = .ok (.aload_n 0, 1) := by decide +kernel
theorem dX11_onJudge_116 : decode cX11_onJudge 116 = .ok (.getfield 42, 3) := by decide +kernel
theorem dX11_onJudge_119 : decode cX11_onJudge 119 = .ok (.iload_n 1, 1) := by decide +kernel
theorem dX11_onJudge_120 : decode cX11_onJudge 120 = .ok (.iaload, 1) := by decide +kernel
theorem dX11_onJudge_121 : decode cX11_onJudge 121 = .ok (.iconst 0, 1) := by decide +kernel
theorem dX11_onJudge_122 : decode cX11_onJudge 122 = .ok (.invokevirtual 322, 3) := by decide +kernel
theorem dX11_onJudge_125 : decode cX11_onJudge 125 = .ok (.goto 143, 3) := by decide +kernel
theorem dX11_onJudge_128 : decode cX11_onJudge 128 = .ok (.aload_n 0, 1) := by decide +kernel
theorem dX11_onJudge_129 : decode cX11_onJudge 129 = .ok (.iconst 2, 1) := by decide +kernel
theorem dX11_onJudge_130 : decode cX11_onJudge 130 = .ok (.iload_n 1, 1) := by decide +kernel
theorem dX11_onJudge_131 : decode cX11_onJudge 131 = .ok (.iload_n 2, 1) := by decide +kernel
theorem dX11_onJudge_132 : decode cX11_onJudge 132 = .ok (.invokevirtual 322, 3) := by decide +kernel
theorem dX11_onJudge_135 : decode cX11_onJudge 135 = .ok (.aload_n 0, 1) := by decide +kernel
theorem dX11_onJudge_136 : decode cX11_onJudge 136 = .ok (.iconst 1, 1) := by decide +kernel
theorem dX11_onJudge_137 : decode cX11_onJudge 137 = .ok (.aload_n 0, 1) := by decide +kernel
theorem dX11_onJudge_138 : decode cX11_onJudge 138 = .ok (.getfield 45, 3) := by decide +kernel
theorem dX11_onJudge_141 : decode cX11_onJudge 141 = .ok (.iload_n 1, 1) := by decide +kernel
theorem dX11_onJudge_142 : decode cX11_onJudge 142 = .ok (.iaload, 1) := by decide +kernel
theorem dX11_onJudge_143 : decode cX11_onJudge 143 = .ok (.iload_n 2, 1) := by decide +kernel
theorem dX11_onJudge_144 : decode cX11_onJudge 144 = .ok (.invokevirtual 322, 3) := by decide +kernel
theorem dX11_onJudge_147 : decode cX11_onJudge 147 = .ok (.aload_n 0, 1) := by decide +kernel
theorem dX11_onJudge_148 : decode cX11_onJudge 148 = .ok (.iconst 1, 1) := by decide +kernel
theorem dX11_onJudge_149 : decode cX11_onJudge 149 = .ok (.aload_n 0, 1) := by decide +kernel
theorem dX11_onJudge_150 : decode cX11_onJudge 150 = .ok (.getfield 42, 3) := by decide +kernel
theorem dX11_onJudge_153 : decode cX11_onJudge 153 = .ok (.iload_n 1, 1) := by decide +kernel
theorem dX11_onJudge_154 : decode cX11_onJudge 154 = .ok (.iaload, 1) := by decide +kernel
theorem dX11_onJudge_155 : decode cX11_onJudge 155 = .ok (.iconst 0, 1) := by decide +kernel
theorem dX11_onJudge_156 : decode cX11_onJudge 156 = .ok (.invokevirtual 322, 3) := by decide +kernel
theorem dX11_onJudge_159 : decode cX11_onJudge 159 = .ok (.goto 109, 3) := by decide +kernel
theorem dX11_onJudge_162 : decode cX11_onJudge 162 = .ok (.aload_n 0, 1) := by decide +kernel
theorem dX11_onJudge_163 : decode cX11_onJudge 163 = .ok (.iconst 1, 1) := by decide +kernel
theorem dX11_onJudge_164 : decode cX11_onJudge 164 = .ok (.aload_n 0, 1) := by decide +kernel
theorem dX11_onJudge_165 : decode cX11_onJudge 165 = .ok (.getfield 45, 3) := by decide +kernel
theorem dX11_onJudge_168 : decode cX11_onJudge 168 = .ok (.iload_n 1, 1) := by decide +kernel
theorem dX11_onJudge_169 : decode cX11_onJudge 169 = .ok (.iaload, 1) := by decide +kernel
theorem dX11_onJudge_170 : decode cX11_onJudge 170 = .ok (.iload_n 2, 1) := by decide +kernel
theorem dX11_onJudge_171 : decode cX11_onJudge 171 = .ok (.invokevirtual 322, 3) := by decide +kernel
theorem dX11_onJudge_174 : decode cX11_onJudge 174 = .ok (.aload_n 0, 1) := by decide +kernel
theorem dX11_onJudge_175 : decode cX11_onJudge 175 = .ok (.iconst 3, 1) := by decide +kernel
theorem dX11_onJudge_176 : decode cX11_onJudge 176 = .ok (.iload_n 1, 1) := by decide +kernel
theorem dX11_onJudge_177 : decode cX11_onJudge 177 = .ok (.iconst 0, 1) := by decide +kernel
theorem dX11_onJudge_178 : decode cX11_onJudge 178 = .ok (.invokevirtual 322, 3) := by decide +kernel
theorem dX11_onJudge_181 : decode cX11_onJudge 181 = .ok (.aload_n 0, 1) := by decide +kernel
theorem dX11_onJudge_182 : decode cX11_onJudge 182 = .ok (.iconst 1, 1) := by decide +kernel
theorem dX11_onJudge_183 : decode cX11_onJudge 183 = .ok (.aload_n 0, 1) := by decide +kernel
theorem dX11_onJudge_184 : decode cX11_onJudge 184 = .ok (.getfield 42, 3) := by decide +kernel
theorem dX11_onJudge_187 : decode cX11_onJudge 187 = .ok (.iload_n 1, 1) := by decide +kernel
theorem dX11_onJudge_188 : decode cX11_onJudge 188 = .ok (.iaload, 1) := by decide +kernel
theorem dX11_onJudge_189 : decode cX11_onJudge 189 = .ok (.aload_n 0, 1) := by decide +kernel
theorem dX11_onJudge_190 : decode cX11_onJudge 190 = .ok (.getfield 39, 3) := by decide +kernel
theorem dX11_onJudge_193 : decode cX11_onJudge 193 = .ok (.iload_n 1, 1) := by decide +kernel
theorem dX11_onJudge_194 : decode cX11_onJudge 194 = .ok (.iaload, 1) := by decide +kernel
theorem dX11_onJudge_195 : decode cX11_onJudge 195 = .ok (.iconst 3, 1) := by decide +kernel
theorem dX11_onJudge_196 : decode cX11_onJudge 196 = .ok (.if_icmp .ne 7, 3) := by decide +kernel
theorem dX11_onJudge_199 : decode cX11_onJudge 199 = .ok (.iconst (-1), 1) := by decide +kernel
theorem dX11_onJudge_200 : decode cX11_onJudge 200 = .ok (.goto 5, 3) := by decide +kernel
theorem dX11_onJudge_203 : decode cX11_onJudge 203 = .ok (.bipush (-2), 2) := by decide +kernel
theorem dX11_onJudge_205 : decode cX11_onJudge 205 = .ok (.invokevirtual 322, 3) := by decide +kernel
theorem dX11_onJudge_208 : decode cX11_onJudge 208 = .ok (.goto 60, 3) := by decide +kernel
theorem dX11_onJudge_211 : decode cX11_onJudge 211 = .ok (.aload_n 0, 1) := by decide +kernel
theorem dX11_onJudge_212 : decode cX11_onJudge 212 = .ok (.iload_n 1, 1) := by decide +kernel
theorem dX11_onJudge_213 : decode cX11_onJudge 213 = .ok (.invokevirtual 338, 3) := by decide +kernel
theorem dX11_onJudge_216 : decode cX11_onJudge 216 = .ok (.goto 52, 3) := by decide +kernel
theorem dX11_onJudge_219 : decode cX11_onJudge 219 = .ok (.aload_n 0, 1) := by decide +kernel
theorem dX11_onJudge_220 : decode cX11_onJudge 220 = .ok (.iconst 1, 1) := by decide +kernel
theorem dX11_onJudge_221 : decode cX11_onJudge 221 = .ok (.aload_n 0, 1) := by decide +kernel
theorem dX11_onJudge_222 : decode cX11_onJudge 222 = .ok (.getfield 45, 3) := by decide +kernel
theorem dX11_onJudge_225 : decode cX11_onJudge 225 = .ok (.iload_n 1, 1) := by decide +kernel
theorem dX11_onJudge_226 : decode cX11_onJudge 226 = .ok (.iaload, 1) := by decide +kernel
theorem dX11_onJudge_227 : decode cX11_onJudge 227 = .ok (.iload_n 2, 1) := by decide +kernel
theorem dX11_onJudge_228 : decode cX11_onJudge 228 = .ok (.ifCond .le 10, 3) := by decide +kernel
theorem dX11_onJudge_231 : decode cX11_onJudge 231 = .ok (.iload_n 2, 1) := by decide +kernel
theorem dX11_onJudge_232 : decode cX11_onJudge 232 = .ok (.invokestatic 162, 3) := by decide +kernel
theorem dX11_onJudge_235 : decode cX11_onJudge 235 = .ok (.goto 4, 3) := by decide +kernel
theorem dX11_onJudge_238 : decode cX11_onJudge 238 = .ok (.iconst (-1), 1) := by decide +kernel
theorem dX11_onJudge_239 : decode cX11_onJudge 239 = .ok (.invokevirtual 322, 3) := by decide +kernel
theorem dX11_onJudge_242 : decode cX11_onJudge 242 = .ok (.aload_n 0, 1) := by decide +kernel
theorem dX11_onJudge_243 : decode cX11_onJudge 243 = .ok (.iconst 1, 1) := by decide +kernel
theorem dX11_onJudge_244 : decode cX11_onJudge 244 = .ok (.aload_n 0, 1) := by decide +kernel
theorem dX11_onJudge_245 : decode cX11_onJudge 245 = .ok (.getfield 42, 3) := by decide +kernel
theorem dX11_onJudge_248 : decode cX11_onJudge 248 = .ok (.iload_n 1, 1) := by decide +kernel
theorem dX11_onJudge_249 : decode cX11_onJudge 249 = .ok (.iaload, 1) := by decide +kernel
theorem dX11_onJudge_250 : decode cX11_onJudge 250 = .ok (.iload_n 2, 1) := by decide +kernel
theorem dX11_onJudge_251 : decode cX11_onJudge 251 = .ok (.ifCond .le 10, 3) := by decide +kernel
theorem dX11_onJudge_254 : decode cX11_onJudge 254 = .ok (.iload_n 2, 1) := by decide +kernel
theorem dX11_onJudge_255 : decode cX11_onJudge 255 = .ok (.invokestatic 169, 3) := by decide +kernel
theorem dX11_onJudge_258 : decode cX11_onJudge 258 = .ok (.goto 4, 3) := by decide +kernel
theorem dX11_onJudge_261 : decode cX11_onJudge 261 = .ok (.iconst (-1), 1) := by decide +kernel
theorem dX11_onJudge_262 : decode cX11_onJudge 262 = .ok (.invokevirtual 322, 3) := by decide +kernel
theorem dX11_onJudge_265 : decode cX11_onJudge 265 = .ok (.goto 3, 3) := by decide +kernel
theorem dX11_onJudge_268 : decode cX11_onJudge 268 = .ok (.return_, 1) := by decide +kernel
noncomputable def fX11_onJudge_91 (x1 : Int32) (x3 : Int32) (M : mv_M) : Option (Unit × mv_M) :=
  mv_chk (mv_inb x1 2002) <|
  mv_let (mv_si M 72 x1.toNatClampNeg x3) fun M40 =>
  some ((), M40)
set_option maxRecDepth 100000 in
set_option maxHeartbeats 4000000 in
theorem zX11_onJudge_91 {l : Launch} {d : Nat} {Q : Unit → mv_M → Prop} (hd : 3 ≤ d) (x1 : Int32) (x3 : Int32) (M : mv_M) (h : mv_ok (fX11_onJudge_91 x1 x3 M) Q) : mv l mX11_onJudge d 0 91 [(0, .ref 62), (1, .int x1), (3, .int x3)] [] M (mv_qV Q) := by
  unfold fX11_onJudge_91 at h
  refine mv_aload_n 0 dX11_onJudge_91 rfl ?_
  refine mv_getR 72 fX11_42 (by decide) rfl rfl rfl dX11_onJudge_92 ?_
  refine mv_iload_n 1 dX11_onJudge_95 rfl ?_
  refine mv_iload_n 2 dX11_onJudge_96 rfl ?_
  obtain ⟨hi39, h⟩ := mv_chkE h
  refine mv_ist (by decide) rfl (mv_inE hi39) dX11_onJudge_97 (fun M40 eM40 => ?_)
  replace h := mv_letE h M40 eM40
  refine mv_goto 268 dX11_onJudge_98 (by decide) ?_
  exact mv_vret rfl dX11_onJudge_268 ⟨rfl, h⟩
noncomputable def fX11_onJudge_205 (s0 : Int32) (s1 : Int32) (s2 : Int32) (M : mv_M) : Option (Unit × mv_M) :=
  mv_bind (fX11_task s2 s1 s0 M) fun _ M38 =>
  some ((), M38)
set_option maxRecDepth 100000 in
set_option maxHeartbeats 4000000 in
theorem zX11_onJudge_205 {l : Launch} {d : Nat} {Q : Unit → mv_M → Prop} (hd : 3 ≤ d) (s0 : Int32) (s1 : Int32) (s2 : Int32) (M : mv_M) (h : mv_ok (fX11_onJudge_205 s0 s1 s2 M) Q) : mv l mX11_onJudge d 0 205 [] [.int s0, .int s1, .int s2, .ref 62] M (mv_qV Q) := by
  unfold fX11_onJudge_205 at h
  refine mv_cvV (As := [.int s2, .int s1, .int s0]) (st := []) okX11_task lX11_322 (by decide) rfl rfl rfl (Nat.le_of_ble_eq_true rfl) rfl (Nat.le_of_ble_eq_true rfl) dX11_onJudge_205 (by omega) rfl (zX11_task (d := d - 1) (by omega) s2 s1 s0 M (mv_bindE h)) (fun _ M38 h => ?_)
  refine mv_goto 268 dX11_onJudge_208 (by decide) ?_
  exact mv_vret rfl dX11_onJudge_268 ⟨rfl, h⟩
noncomputable def fX11_onJudge_262 (s0 : Int32) (s1 : Int32) (s2 : Int32) (M : mv_M) : Option (Unit × mv_M) :=
  mv_bind (fX11_task s2 s1 s0 M) fun _ M45 =>
  some ((), M45)
set_option maxRecDepth 100000 in
set_option maxHeartbeats 4000000 in
theorem zX11_onJudge_262 {l : Launch} {d : Nat} {Q : Unit → mv_M → Prop} (hd : 3 ≤ d) (s0 : Int32) (s1 : Int32) (s2 : Int32) (M : mv_M) (h : mv_ok (fX11_onJudge_262 s0 s1 s2 M) Q) : mv l mX11_onJudge d 0 262 [] [.int s0, .int s1, .int s2, .ref 62] M (mv_qV Q) := by
  unfold fX11_onJudge_262 at h
  refine mv_cvV (As := [.int s2, .int s1, .int s0]) (st := []) okX11_task lX11_322 (by decide) rfl rfl rfl (Nat.le_of_ble_eq_true rfl) rfl (Nat.le_of_ble_eq_true rfl) dX11_onJudge_262 (by omega) rfl (zX11_task (d := d - 1) (by omega) s2 s1 s0 M (mv_bindE h)) (fun _ M45 h => ?_)
  refine mv_goto 268 dX11_onJudge_265 (by decide) ?_
  exact mv_vret rfl dX11_onJudge_268 ⟨rfl, h⟩
noncomputable def fX11_onJudge_239 (x1 : Int32) (x2 : Int32) (s0 : Int32) (s1 : Int32) (s2 : Int32) (M : mv_M) : Option (Unit × mv_M) :=
  mv_bind (fX11_task s2 s1 s0 M) fun _ M41 =>
  mv_chk (mv_inb x1 2002) <|
  if x2 ≤ 0 then
    fX11_onJudge_262 (-1) (M41.1 72 x1.toNatClampNeg) 1 M41
  else
    mv_bind (fX11_firstOf x2 M41) fun r43 M44 =>
    fX11_onJudge_262 r43 (M41.1 72 x1.toNatClampNeg) 1 M44
set_option maxRecDepth 100000 in
set_option maxHeartbeats 4000000 in
theorem zX11_onJudge_239 {l : Launch} {d : Nat} {Q : Unit → mv_M → Prop} (hd : 3 ≤ d) (x1 : Int32) (x2 : Int32) (s0 : Int32) (s1 : Int32) (s2 : Int32) (M : mv_M) (h : mv_ok (fX11_onJudge_239 x1 x2 s0 s1 s2 M) Q) : mv l mX11_onJudge d 0 239 [(0, .ref 62), (1, .int x1), (2, .int x2)] [.int s0, .int s1, .int s2, .ref 62] M (mv_qV Q) := by
  unfold fX11_onJudge_239 at h
  refine mv_cvV (As := [.int s2, .int s1, .int s0]) (st := []) okX11_task lX11_322 (by decide) rfl rfl rfl (Nat.le_of_ble_eq_true rfl) rfl (Nat.le_of_ble_eq_true rfl) dX11_onJudge_239 (by omega) rfl (zX11_task (d := d - 1) (by omega) s2 s1 s0 M (mv_bindE h)) (fun _ M41 h => ?_)
  refine mv_aload_n 0 dX11_onJudge_242 rfl ?_
  refine mv_iconst 1 dX11_onJudge_243 (by decide) ?_
  refine mv_aload_n 0 dX11_onJudge_244 rfl ?_
  refine mv_getR 72 fX11_42 (by decide) rfl rfl rfl dX11_onJudge_245 ?_
  refine mv_iload_n 1 dX11_onJudge_248 rfl ?_
  obtain ⟨hi42, h⟩ := mv_chkE h
  refine mv_ild (by decide) rfl (mv_inE hi42) dX11_onJudge_249 ?_
  refine mv_iload_n 2 dX11_onJudge_250 rfl ?_
  refine mv_if_le 261 dX11_onJudge_251 (by decide) (fun z => ?_) (fun z => ?_)
  · replace h := mv_ifT z h
    refine mv_iconst (-1) dX11_onJudge_261 (by decide) ?_
    refine mv_sub [] rfl ?_
    exact zX11_onJudge_262 hd (-1) (M41.1 72 x1.toNatClampNeg) 1 M41 h
  · replace h := mv_ifF z h
    refine mv_iload_n 2 dX11_onJudge_254 rfl ?_
    refine mv_csI (As := [.int x2]) (st := [.int (M41.1 72 x1.toNatClampNeg), .int 1, .ref 62]) okX11_firstOf lX11_169 rfl (Nat.le_of_ble_eq_true rfl) rfl (Nat.le_of_ble_eq_true rfl) dX11_onJudge_255 (by omega) rfl (zX11_firstOf (d := d - 1) (by omega) x2 M41 (mv_bindE h)) (fun r43 M44 h => ?_)
    refine mv_goto 262 dX11_onJudge_258 (by decide) ?_
    refine mv_sub [] rfl ?_
    exact zX11_onJudge_262 hd r43 (M41.1 72 x1.toNatClampNeg) 1 M44 h
noncomputable def fX11_onJudge (a0 : Int32) (a1 : Int32) (M : mv_M) : Option (Unit × mv_M) :=
  mv_bind (fX11_task 4 a0 a1 M) fun _ M1 =>
  mv_chk (mv_inb a0 2002) <|
  if (M1.1 71 a0.toNatClampNeg) = 1 then
    mv_chk (mv_inb a0 2002) <|
    mv_bind (fX11_task 1 (M1.1 73 a0.toNatClampNeg) 0 M1) fun _ M5 =>
    mv_chk (mv_inb a0 2002) <|
    mv_bind (fX11_task 1 (M5.1 72 a0.toNatClampNeg) 0 M5) fun _ M7 =>
    some ((), M7)
  else
    if (M1.1 71 a0.toNatClampNeg) = 2 then
      mv_bind (fX11_task 2 a0 a1 M1) fun _ M9 =>
      mv_chk (mv_inb a0 2002) <|
      mv_bind (fX11_task 1 (M9.1 73 a0.toNatClampNeg) a1 M9) fun _ M11 =>
      mv_chk (mv_inb a0 2002) <|
      mv_bind (fX11_task 1 (M11.1 72 a0.toNatClampNeg) 0 M11) fun _ M13 =>
      some ((), M13)
    else
      if (M1.1 71 a0.toNatClampNeg) = 3 then
        mv_chk (mv_inb a0 2002) <|
        mv_bind (fX11_task 1 (M1.1 73 a0.toNatClampNeg) a1 M1) fun _ M16 =>
        mv_bind (fX11_task 3 a0 0 M16) fun _ M17 =>
        mv_chk (mv_inb a0 2002) <|
        mv_chk (mv_inb a0 2002) <|
        if (M17.1 71 a0.toNatClampNeg) = 3 then
          fX11_onJudge_205 (-1) (M17.1 72 a0.toNatClampNeg) 1 M17
        else
          fX11_onJudge_205 (-2) (M17.1 72 a0.toNatClampNeg) 1 M17
      else
        if (M1.1 71 a0.toNatClampNeg) = 4 then
          mv_chk (mv_inb a0 2002) <|
          mv_bind (fX11_task 1 (M1.1 73 a0.toNatClampNeg) a1 M1) fun _ M22 =>
          mv_bind (fX11_task 3 a0 0 M22) fun _ M23 =>
          mv_chk (mv_inb a0 2002) <|
          mv_chk (mv_inb a0 2002) <|
          if (M23.1 71 a0.toNatClampNeg) = 3 then
            fX11_onJudge_205 (-1) (M23.1 72 a0.toNatClampNeg) 1 M23
          else
            fX11_onJudge_205 (-2) (M23.1 72 a0.toNatClampNeg) 1 M23
        else
          if (M1.1 71 a0.toNatClampNeg) = 7 then
            mv_chk (mv_inb a0 2002) <|
            mv_bind (fX11_meant (M1.2.1 77 a0.toNatClampNeg) M1) fun r28 M29 =>
            if r28 = (-1) then
              mv_chk (mv_inb a0 2002) <|
              mv_bind (fX11_stop 4 (M29.1 75 a0.toNatClampNeg) M29) fun _ M31 =>
              fX11_onJudge_91 a0 r28 M31
            else
              fX11_onJudge_91 a0 r28 M29
          else
            if (M1.1 71 a0.toNatClampNeg) = 8 then
              mv_bind (fX11_judgeCall a0 M1) fun _ M33 =>
              some ((), M33)
            else
              if (M1.1 71 a0.toNatClampNeg) = 9 then
                mv_chk (mv_inb a0 2002) <|
                if a1 ≤ 0 then
                  fX11_onJudge_239 a0 a1 (-1) (M1.1 73 a0.toNatClampNeg) 1 M1
                else
                  mv_bind (fX11_secondOf a1 M1) fun r36 M37 =>
                  fX11_onJudge_239 a0 a1 r36 (M1.1 73 a0.toNatClampNeg) 1 M37
              else
                  some ((), M1)
set_option maxRecDepth 100000 in
set_option maxHeartbeats 4000000 in
theorem zX11_onJudge {l : Launch} {d : Nat} {Q : Unit → mv_M → Prop} (hd : 3 ≤ d) (a0 : Int32) (a1 : Int32) (M : mv_M) (h : mv_ok (fX11_onJudge a0 a1 M) Q) : mv l mX11_onJudge d 0 0 (lv_args 0 [.ref 62, .int a0, .int a1]) [] M (mv_qV Q) := by
  unfold fX11_onJudge at h
  show mv l mX11_onJudge d 0 0 [(0, .ref 62), (1, .int a0), (2, .int a1)] [] M (mv_qV Q)
  refine mv_aload_n 0 dX11_onJudge_0 rfl ?_
  refine mv_iconst 4 dX11_onJudge_1 (by decide) ?_
  refine mv_iload_n 1 dX11_onJudge_2 rfl ?_
  refine mv_iload_n 2 dX11_onJudge_3 rfl ?_
  refine mv_cvV (As := [.int 4, .int a0, .int a1]) (st := []) okX11_task lX11_322 (by decide) rfl rfl rfl (Nat.le_of_ble_eq_true rfl) rfl (Nat.le_of_ble_eq_true rfl) dX11_onJudge_4 (by omega) rfl (zX11_task (d := d - 1) (by omega) 4 a0 a1 M (mv_bindE h)) (fun _ M1 h => ?_)
  refine mv_aload_n 0 dX11_onJudge_7 rfl ?_
  refine mv_getR 71 fX11_39 (by decide) rfl rfl rfl dX11_onJudge_8 ?_
  refine mv_iload_n 1 dX11_onJudge_11 rfl ?_
  obtain ⟨hi2, h⟩ := mv_chkE h
  refine mv_ild (by decide) rfl (mv_inE hi2) dX11_onJudge_12 ?_
  by_cases z3 : (M1.1 71 a0.toNatClampNeg) = 1
  · replace h := mv_ifT z3 h
    refine mv_tableIn (off := 88) 101 dX11_onJudge_13 (by rw [z3]; decide) (by rw [z3]; decide) (by rw [z3]; rfl) (by decide) ?_
    refine mv_aload_n 0 dX11_onJudge_101 rfl ?_
    refine mv_iconst 1 dX11_onJudge_102 (by decide) ?_
    refine mv_aload_n 0 dX11_onJudge_103 rfl ?_
    refine mv_getR 73 fX11_45 (by decide) rfl rfl rfl dX11_onJudge_104 ?_
    refine mv_iload_n 1 dX11_onJudge_107 rfl ?_
    obtain ⟨hi4, h⟩ := mv_chkE h
    refine mv_ild (by decide) rfl (mv_inE hi4) dX11_onJudge_108 ?_
    refine mv_iconst 0 dX11_onJudge_109 (by decide) ?_
    refine mv_cvV (As := [.int 1, .int (M1.1 73 a0.toNatClampNeg), .int 0]) (st := []) okX11_task lX11_322 (by decide) rfl rfl rfl (Nat.le_of_ble_eq_true rfl) rfl (Nat.le_of_ble_eq_true rfl) dX11_onJudge_110 (by omega) rfl (zX11_task (d := d - 1) (by omega) 1 (M1.1 73 a0.toNatClampNeg) 0 M1 (mv_bindE h)) (fun _ M5 h => ?_)
    refine mv_aload_n 0 dX11_onJudge_113 rfl ?_
    refine mv_iconst 1 dX11_onJudge_114 (by decide) ?_
    refine mv_aload_n 0 dX11_onJudge_115 rfl ?_
    refine mv_getR 72 fX11_42 (by decide) rfl rfl rfl dX11_onJudge_116 ?_
    refine mv_iload_n 1 dX11_onJudge_119 rfl ?_
    obtain ⟨hi6, h⟩ := mv_chkE h
    refine mv_ild (by decide) rfl (mv_inE hi6) dX11_onJudge_120 ?_
    refine mv_iconst 0 dX11_onJudge_121 (by decide) ?_
    refine mv_cvV (As := [.int 1, .int (M5.1 72 a0.toNatClampNeg), .int 0]) (st := []) okX11_task lX11_322 (by decide) rfl rfl rfl (Nat.le_of_ble_eq_true rfl) rfl (Nat.le_of_ble_eq_true rfl) dX11_onJudge_122 (by omega) rfl (zX11_task (d := d - 1) (by omega) 1 (M5.1 72 a0.toNatClampNeg) 0 M5 (mv_bindE h)) (fun _ M7 h => ?_)
    refine mv_goto 268 dX11_onJudge_125 (by decide) ?_
    exact mv_vret rfl dX11_onJudge_268 ⟨rfl, h⟩
  · replace h := mv_ifF z3 h
    by_cases z8 : (M1.1 71 a0.toNatClampNeg) = 2
    · replace h := mv_ifT z8 h
      refine mv_tableIn (off := 115) 128 dX11_onJudge_13 (by rw [z8]; decide) (by rw [z8]; decide) (by rw [z8]; rfl) (by decide) ?_
      refine mv_aload_n 0 dX11_onJudge_128 rfl ?_
      refine mv_iconst 2 dX11_onJudge_129 (by decide) ?_
      refine mv_iload_n 1 dX11_onJudge_130 rfl ?_
      refine mv_iload_n 2 dX11_onJudge_131 rfl ?_
      refine mv_cvV (As := [.int 2, .int a0, .int a1]) (st := []) okX11_task lX11_322 (by decide) rfl rfl rfl (Nat.le_of_ble_eq_true rfl) rfl (Nat.le_of_ble_eq_true rfl) dX11_onJudge_132 (by omega) rfl (zX11_task (d := d - 1) (by omega) 2 a0 a1 M1 (mv_bindE h)) (fun _ M9 h => ?_)
      refine mv_aload_n 0 dX11_onJudge_135 rfl ?_
      refine mv_iconst 1 dX11_onJudge_136 (by decide) ?_
      refine mv_aload_n 0 dX11_onJudge_137 rfl ?_
      refine mv_getR 73 fX11_45 (by decide) rfl rfl rfl dX11_onJudge_138 ?_
      refine mv_iload_n 1 dX11_onJudge_141 rfl ?_
      obtain ⟨hi10, h⟩ := mv_chkE h
      refine mv_ild (by decide) rfl (mv_inE hi10) dX11_onJudge_142 ?_
      refine mv_iload_n 2 dX11_onJudge_143 rfl ?_
      refine mv_cvV (As := [.int 1, .int (M9.1 73 a0.toNatClampNeg), .int a1]) (st := []) okX11_task lX11_322 (by decide) rfl rfl rfl (Nat.le_of_ble_eq_true rfl) rfl (Nat.le_of_ble_eq_true rfl) dX11_onJudge_144 (by omega) rfl (zX11_task (d := d - 1) (by omega) 1 (M9.1 73 a0.toNatClampNeg) a1 M9 (mv_bindE h)) (fun _ M11 h => ?_)
      refine mv_aload_n 0 dX11_onJudge_147 rfl ?_
      refine mv_iconst 1 dX11_onJudge_148 (by decide) ?_
      refine mv_aload_n 0 dX11_onJudge_149 rfl ?_
      refine mv_getR 72 fX11_42 (by decide) rfl rfl rfl dX11_onJudge_150 ?_
      refine mv_iload_n 1 dX11_onJudge_153 rfl ?_
      obtain ⟨hi12, h⟩ := mv_chkE h
      refine mv_ild (by decide) rfl (mv_inE hi12) dX11_onJudge_154 ?_
      refine mv_iconst 0 dX11_onJudge_155 (by decide) ?_
      refine mv_cvV (As := [.int 1, .int (M11.1 72 a0.toNatClampNeg), .int 0]) (st := []) okX11_task lX11_322 (by decide) rfl rfl rfl (Nat.le_of_ble_eq_true rfl) rfl (Nat.le_of_ble_eq_true rfl) dX11_onJudge_156 (by omega) rfl (zX11_task (d := d - 1) (by omega) 1 (M11.1 72 a0.toNatClampNeg) 0 M11 (mv_bindE h)) (fun _ M13 h => ?_)
      refine mv_goto 268 dX11_onJudge_159 (by decide) ?_
      exact mv_vret rfl dX11_onJudge_268 ⟨rfl, h⟩
    · replace h := mv_ifF z8 h
      by_cases z14 : (M1.1 71 a0.toNatClampNeg) = 3
      · replace h := mv_ifT z14 h
        refine mv_tableIn (off := 149) 162 dX11_onJudge_13 (by rw [z14]; decide) (by rw [z14]; decide) (by rw [z14]; rfl) (by decide) ?_
        refine mv_aload_n 0 dX11_onJudge_162 rfl ?_
        refine mv_iconst 1 dX11_onJudge_163 (by decide) ?_
        refine mv_aload_n 0 dX11_onJudge_164 rfl ?_
        refine mv_getR 73 fX11_45 (by decide) rfl rfl rfl dX11_onJudge_165 ?_
        refine mv_iload_n 1 dX11_onJudge_168 rfl ?_
        obtain ⟨hi15, h⟩ := mv_chkE h
        refine mv_ild (by decide) rfl (mv_inE hi15) dX11_onJudge_169 ?_
        refine mv_iload_n 2 dX11_onJudge_170 rfl ?_
        refine mv_cvV (As := [.int 1, .int (M1.1 73 a0.toNatClampNeg), .int a1]) (st := []) okX11_task lX11_322 (by decide) rfl rfl rfl (Nat.le_of_ble_eq_true rfl) rfl (Nat.le_of_ble_eq_true rfl) dX11_onJudge_171 (by omega) rfl (zX11_task (d := d - 1) (by omega) 1 (M1.1 73 a0.toNatClampNeg) a1 M1 (mv_bindE h)) (fun _ M16 h => ?_)
        refine mv_aload_n 0 dX11_onJudge_174 rfl ?_
        refine mv_iconst 3 dX11_onJudge_175 (by decide) ?_
        refine mv_iload_n 1 dX11_onJudge_176 rfl ?_
        refine mv_iconst 0 dX11_onJudge_177 (by decide) ?_
        refine mv_cvV (As := [.int 3, .int a0, .int 0]) (st := []) okX11_task lX11_322 (by decide) rfl rfl rfl (Nat.le_of_ble_eq_true rfl) rfl (Nat.le_of_ble_eq_true rfl) dX11_onJudge_178 (by omega) rfl (zX11_task (d := d - 1) (by omega) 3 a0 0 M16 (mv_bindE h)) (fun _ M17 h => ?_)
        refine mv_aload_n 0 dX11_onJudge_181 rfl ?_
        refine mv_iconst 1 dX11_onJudge_182 (by decide) ?_
        refine mv_aload_n 0 dX11_onJudge_183 rfl ?_
        refine mv_getR 72 fX11_42 (by decide) rfl rfl rfl dX11_onJudge_184 ?_
        refine mv_iload_n 1 dX11_onJudge_187 rfl ?_
        obtain ⟨hi18, h⟩ := mv_chkE h
        refine mv_ild (by decide) rfl (mv_inE hi18) dX11_onJudge_188 ?_
        refine mv_aload_n 0 dX11_onJudge_189 rfl ?_
        refine mv_getR 71 fX11_39 (by decide) rfl rfl rfl dX11_onJudge_190 ?_
        refine mv_iload_n 1 dX11_onJudge_193 rfl ?_
        obtain ⟨hi19, h⟩ := mv_chkE h
        refine mv_ild (by decide) rfl (mv_inE hi19) dX11_onJudge_194 ?_
        refine mv_iconst 3 dX11_onJudge_195 (by decide) ?_
        refine mv_icmp_ne 203 dX11_onJudge_196 (by decide) (fun z => ?_) (fun z => ?_)
        · replace h := mv_ifF z h
          refine mv_bipush (-2) dX11_onJudge_203 (by decide) ?_
          refine mv_sub [] rfl ?_
          exact zX11_onJudge_205 hd (-2) (M17.1 72 a0.toNatClampNeg) 1 M17 h
        · replace h := mv_ifT z h
          refine mv_iconst (-1) dX11_onJudge_199 (by decide) ?_
          refine mv_goto 205 dX11_onJudge_200 (by decide) ?_
          refine mv_sub [] rfl ?_
          exact zX11_onJudge_205 hd (-1) (M17.1 72 a0.toNatClampNeg) 1 M17 h
      · replace h := mv_ifF z14 h
        by_cases z20 : (M1.1 71 a0.toNatClampNeg) = 4
        · replace h := mv_ifT z20 h
          refine mv_tableIn (off := 149) 162 dX11_onJudge_13 (by rw [z20]; decide) (by rw [z20]; decide) (by rw [z20]; rfl) (by decide) ?_
          refine mv_aload_n 0 dX11_onJudge_162 rfl ?_
          refine mv_iconst 1 dX11_onJudge_163 (by decide) ?_
          refine mv_aload_n 0 dX11_onJudge_164 rfl ?_
          refine mv_getR 73 fX11_45 (by decide) rfl rfl rfl dX11_onJudge_165 ?_
          refine mv_iload_n 1 dX11_onJudge_168 rfl ?_
          obtain ⟨hi21, h⟩ := mv_chkE h
          refine mv_ild (by decide) rfl (mv_inE hi21) dX11_onJudge_169 ?_
          refine mv_iload_n 2 dX11_onJudge_170 rfl ?_
          refine mv_cvV (As := [.int 1, .int (M1.1 73 a0.toNatClampNeg), .int a1]) (st := []) okX11_task lX11_322 (by decide) rfl rfl rfl (Nat.le_of_ble_eq_true rfl) rfl (Nat.le_of_ble_eq_true rfl) dX11_onJudge_171 (by omega) rfl (zX11_task (d := d - 1) (by omega) 1 (M1.1 73 a0.toNatClampNeg) a1 M1 (mv_bindE h)) (fun _ M22 h => ?_)
          refine mv_aload_n 0 dX11_onJudge_174 rfl ?_
          refine mv_iconst 3 dX11_onJudge_175 (by decide) ?_
          refine mv_iload_n 1 dX11_onJudge_176 rfl ?_
          refine mv_iconst 0 dX11_onJudge_177 (by decide) ?_
          refine mv_cvV (As := [.int 3, .int a0, .int 0]) (st := []) okX11_task lX11_322 (by decide) rfl rfl rfl (Nat.le_of_ble_eq_true rfl) rfl (Nat.le_of_ble_eq_true rfl) dX11_onJudge_178 (by omega) rfl (zX11_task (d := d - 1) (by omega) 3 a0 0 M22 (mv_bindE h)) (fun _ M23 h => ?_)
          refine mv_aload_n 0 dX11_onJudge_181 rfl ?_
          refine mv_iconst 1 dX11_onJudge_182 (by decide) ?_
          refine mv_aload_n 0 dX11_onJudge_183 rfl ?_
          refine mv_getR 72 fX11_42 (by decide) rfl rfl rfl dX11_onJudge_184 ?_
          refine mv_iload_n 1 dX11_onJudge_187 rfl ?_
          obtain ⟨hi24, h⟩ := mv_chkE h
          refine mv_ild (by decide) rfl (mv_inE hi24) dX11_onJudge_188 ?_
          refine mv_aload_n 0 dX11_onJudge_189 rfl ?_
          refine mv_getR 71 fX11_39 (by decide) rfl rfl rfl dX11_onJudge_190 ?_
          refine mv_iload_n 1 dX11_onJudge_193 rfl ?_
          obtain ⟨hi25, h⟩ := mv_chkE h
          refine mv_ild (by decide) rfl (mv_inE hi25) dX11_onJudge_194 ?_
          refine mv_iconst 3 dX11_onJudge_195 (by decide) ?_
          refine mv_icmp_ne 203 dX11_onJudge_196 (by decide) (fun z => ?_) (fun z => ?_)
          · replace h := mv_ifF z h
            refine mv_bipush (-2) dX11_onJudge_203 (by decide) ?_
            refine mv_sub [] rfl ?_
            exact zX11_onJudge_205 hd (-2) (M23.1 72 a0.toNatClampNeg) 1 M23 h
          · replace h := mv_ifT z h
            refine mv_iconst (-1) dX11_onJudge_199 (by decide) ?_
            refine mv_goto 205 dX11_onJudge_200 (by decide) ?_
            refine mv_sub [] rfl ?_
            exact zX11_onJudge_205 hd (-1) (M23.1 72 a0.toNatClampNeg) 1 M23 h
        · replace h := mv_ifF z20 h
          by_cases z26 : (M1.1 71 a0.toNatClampNeg) = 7
          · replace h := mv_ifT z26 h
            refine mv_tableIn (off := 51) 64 dX11_onJudge_13 (by rw [z26]; decide) (by rw [z26]; decide) (by rw [z26]; rfl) (by decide) ?_
            refine mv_aload_n 0 dX11_onJudge_64 rfl ?_
            refine mv_aload_n 0 dX11_onJudge_65 rfl ?_
            refine mv_getR 77 fX11_57 (by decide) rfl rfl rfl dX11_onJudge_66 ?_
            refine mv_iload_n 1 dX11_onJudge_69 rfl ?_
            obtain ⟨hi27, h⟩ := mv_chkE h
            refine mv_lld (by decide) rfl (mv_inE hi27) dX11_onJudge_70 ?_
            refine mv_cvI (As := [.long (M1.2.1 77 a0.toNatClampNeg)]) (st := []) okX11_meant lX11_335 (by decide) rfl rfl rfl (Nat.le_of_ble_eq_true rfl) rfl (Nat.le_of_ble_eq_true rfl) dX11_onJudge_71 (by omega) rfl (zX11_meant (d := d - 1) (by omega) (M1.2.1 77 a0.toNatClampNeg) M1 (mv_bindE h)) (fun r28 M29 h => ?_)
            refine mv_istore_n [(3, .int r28), (0, .ref 62), (1, .int a0), (2, .int a1)] dX11_onJudge_74 (by decide) rfl ?_
            refine mv_iload_n 0 dX11_onJudge_75 rfl ?_
            refine mv_iconst (-1) dX11_onJudge_76 (by decide) ?_
            refine mv_icmp_ne 91 dX11_onJudge_77 (by decide) (fun z => ?_) (fun z => ?_)
            · replace h := mv_ifF z h
              refine mv_sub [1, 2, 0] rfl ?_
              exact zX11_onJudge_91 hd a0 r28 M29 h
            · replace h := mv_ifT z h
              refine mv_aload_n 1 dX11_onJudge_80 rfl ?_
              refine mv_iconst 4 dX11_onJudge_81 (by decide) ?_
              refine mv_aload_n 1 dX11_onJudge_82 rfl ?_
              refine mv_getR 75 fX11_51 (by decide) rfl rfl rfl dX11_onJudge_83 ?_
              refine mv_iload_n 2 dX11_onJudge_86 rfl ?_
              obtain ⟨hi30, h⟩ := mv_chkE h
              refine mv_ild (by decide) rfl (mv_inE hi30) dX11_onJudge_87 ?_
              refine mv_cvV (As := [.int 4, .int (M29.1 75 a0.toNatClampNeg)]) (st := []) okX11_stop lX11_205 (by decide) rfl rfl rfl (Nat.le_of_ble_eq_true rfl) rfl (Nat.le_of_ble_eq_true rfl) dX11_onJudge_88 (by omega) rfl (zX11_stop (d := d - 1) (by omega) 4 (M29.1 75 a0.toNatClampNeg) M29 (mv_bindE h)) (fun _ M31 h => ?_)
              refine mv_sub [1, 2, 0] rfl ?_
              exact zX11_onJudge_91 hd a0 r28 M31 h
          · replace h := mv_ifF z26 h
            by_cases z32 : (M1.1 71 a0.toNatClampNeg) = 8
            · replace h := mv_ifT z32 h
              refine mv_tableIn (off := 198) 211 dX11_onJudge_13 (by rw [z32]; decide) (by rw [z32]; decide) (by rw [z32]; rfl) (by decide) ?_
              refine mv_aload_n 0 dX11_onJudge_211 rfl ?_
              refine mv_iload_n 1 dX11_onJudge_212 rfl ?_
              refine mv_cvV (As := [.int a0]) (st := []) okX11_judgeCall lX11_338 (by decide) rfl rfl rfl (Nat.le_of_ble_eq_true rfl) rfl (Nat.le_of_ble_eq_true rfl) dX11_onJudge_213 (by omega) rfl (zX11_judgeCall (d := d - 1) (by omega) a0 M1 (mv_bindE h)) (fun _ M33 h => ?_)
              refine mv_goto 268 dX11_onJudge_216 (by decide) ?_
              exact mv_vret rfl dX11_onJudge_268 ⟨rfl, h⟩
            · replace h := mv_ifF z32 h
              by_cases z34 : (M1.1 71 a0.toNatClampNeg) = 9
              · replace h := mv_ifT z34 h
                refine mv_tableIn (off := 206) 219 dX11_onJudge_13 (by rw [z34]; decide) (by rw [z34]; decide) (by rw [z34]; rfl) (by decide) ?_
                refine mv_aload_n 0 dX11_onJudge_219 rfl ?_
                refine mv_iconst 1 dX11_onJudge_220 (by decide) ?_
                refine mv_aload_n 0 dX11_onJudge_221 rfl ?_
                refine mv_getR 73 fX11_45 (by decide) rfl rfl rfl dX11_onJudge_222 ?_
                refine mv_iload_n 1 dX11_onJudge_225 rfl ?_
                obtain ⟨hi35, h⟩ := mv_chkE h
                refine mv_ild (by decide) rfl (mv_inE hi35) dX11_onJudge_226 ?_
                refine mv_iload_n 2 dX11_onJudge_227 rfl ?_
                refine mv_if_le 238 dX11_onJudge_228 (by decide) (fun z => ?_) (fun z => ?_)
                · replace h := mv_ifT z h
                  refine mv_iconst (-1) dX11_onJudge_238 (by decide) ?_
                  refine mv_sub [0, 1, 2] rfl ?_
                  exact zX11_onJudge_239 hd a0 a1 (-1) (M1.1 73 a0.toNatClampNeg) 1 M1 h
                · replace h := mv_ifF z h
                  refine mv_iload_n 2 dX11_onJudge_231 rfl ?_
                  refine mv_csI (As := [.int a1]) (st := [.int (M1.1 73 a0.toNatClampNeg), .int 1, .ref 62]) okX11_secondOf lX11_162 rfl (Nat.le_of_ble_eq_true rfl) rfl (Nat.le_of_ble_eq_true rfl) dX11_onJudge_232 (by omega) rfl (zX11_secondOf (d := d - 1) (by omega) a1 M1 (mv_bindE h)) (fun r36 M37 h => ?_)
                  refine mv_goto 239 dX11_onJudge_235 (by decide) ?_
                  refine mv_sub [0, 1, 2] rfl ?_
                  exact zX11_onJudge_239 hd a0 a1 r36 (M1.1 73 a0.toNatClampNeg) 1 M37 h
              · replace h := mv_ifF z34 h
                have hdef : mv l mX11_onJudge d 0 268 [(0, .ref 62), (1, .int a0), (2, .int a1)] [] M1 (mv_qV Q) := by
                  exact mv_vret rfl dX11_onJudge_268 ⟨rfl, h⟩
                by_cases hr : ((M1.1 71 a0.toNatClampNeg)).toInt < 1 ∨ 9 < ((M1.1 71 a0.toNatClampNeg)).toInt
                · exact mv_tableOut 268 dX11_onJudge_13 hr (by decide) hdef
                · have hg : ((M1.1 71 a0.toNatClampNeg)).toInt = 5 ∨ ((M1.1 71 a0.toNatClampNeg)).toInt = 6 := by have q0 := mv_ne 1 (v := 1) (by decide) z3; have q1 := mv_ne 2 (v := 2) (by decide) z8; have q2 := mv_ne 3 (v := 3) (by decide) z14; have q3 := mv_ne 4 (v := 4) (by decide) z20; have q4 := mv_ne 7 (v := 7) (by decide) z26; have q5 := mv_ne 8 (v := 8) (by decide) z32; have q6 := mv_ne 9 (v := 9) (by decide) z34; omega
                  exact mv_tableIn (off := 255) 268 dX11_onJudge_13 (by omega) (by omega) (by rcases hg with q | q <;> rw [q] <;> rfl) (by decide) hdef
theorem dX11_onShut_0 : decode cX11_onShut 0 = .ok (.aload_n 0, 1) := by decide +kernel
theorem dX11_onShut_1 : decode cX11_onShut 1 = .ok (.getfield 39, 3) := by decide +kernel
theorem dX11_onShut_4 : decode cX11_onShut 4 = .ok (.iload_n 1, 1) := by decide +kernel
theorem dX11_onShut_5 : decode cX11_onShut 5 = .ok (.iaload, 1) := by decide +kernel
theorem dX11_onShut_6 : decode cX11_onShut 6 = .ok (.istore_n 3, 1) := by decide +kernel
theorem dX11_onShut_7 : decode cX11_onShut 7 = .ok (.aload_n 0, 1) := by decide +kernel
theorem dX11_onShut_8 : decode cX11_onShut 8 = .ok (.dup, 1) := by decide +kernel
theorem dX11_onShut_9 : decode cX11_onShut 9 = .ok (.getfield 319, 3) := by decide +kernel
theorem dX11_onShut_12 : decode cX11_onShut 12 = .ok (.iload_n 3, 1) := by decide +kernel
theorem dX11_onShut_13 : decode cX11_onShut 13 = .ok (.iconst 3, 1) := by decide +kernel
theorem dX11_onShut_14 : decode cX11_onShut 14 = .ok (.if_icmp .ne 7, 3) := by decide +kernel
theorem dX11_onShut_17 : decode cX11_onShut 17 = .ok (.iconst 1, 1) := by decide +kernel
theorem dX11_onShut_18 : decode cX11_onShut 18 = .ok (.goto 13, 3) := by decide +kernel
theorem dX11_onShut_21 : decode cX11_onShut 21 = .ok (.iload_n 3, 1) := by decide +kernel
theorem dX11_onShut_22 : decode cX11_onShut 22 = .ok (.iconst 4, 1) := by decide +kernel
theorem dX11_onShut_23 : decode cX11_onShut 23 = .ok (.if_icmp .ne 7, 3) := by decide +kernel
theorem dX11_onShut_26 : decode cX11_onShut 26 = .ok (.iconst 2, 1) := by decide +kernel
theorem dX11_onShut_27 : decode cX11_onShut 27 = .ok (.goto 4, 3) := by decide +kernel
theorem dX11_onShut_30 : decode cX11_onShut 30 = .ok (.iconst 0, 1) := by decide +kernel
theorem dX11_onShut_31 : decode cX11_onShut 31 = .ok (.isub, 1) := by decide +kernel
theorem dX11_onShut_32 : decode cX11_onShut 32 = .ok (.putfield 319, 3) := by decide +kernel
theorem dX11_onShut_35 : decode cX11_onShut 35 = .ok (.iload_n 3, 1) := by decide +kernel
theorem dX11_onShut_36 : decode cX11_onShut 36 = .ok (.bipush 6, 2) := by decide +kernel
theorem dX11_onShut_38 : decode cX11_onShut 38 = .ok (.if_icmp .ne 12, 3) := by decide +kernel
theorem dX11_onShut_41 : decode cX11_onShut 41 = .ok (.aload_n 0, 1) := by decide +kernel
theorem dX11_onShut_42 : decode cX11_onShut 42 = .ok (.getfield 42, 3) := by decide +kernel
theorem dX11_onShut_45 : decode cX11_onShut 45 = .ok (.iload_n 1, 1) := by decide +kernel
theorem dX11_onShut_46 : decode cX11_onShut 46 = .ok (.iaload, 1) := by decide +kernel
theorem dX11_onShut_47 : decode cX11_onShut 47 = .ok (.goto 115, 3) := by decide +kernel
theorem dX11_onShut_50 : decode cX11_onShut 50 = .ok (.iload_n 3, 1) := by decide +kernel
theorem dX11_onShut_51 : decode cX11_onShut 51 = .ok (.bipush 7, 2) := by decide +kernel
theorem dX11_onShut_53 : decode cX11_onShut 53 = .ok (.if_icmp .ne 25, 3) := by decide +kernel
theorem dX11_onShut_56 : decode cX11_onShut 56 = .ok (.aload_n 0, 1) := by decide +kernel
theorem dX11_onShut_57 : decode cX11_onShut 57 = .ok (.getfield 36, 3) := by decide +kernel
theorem dX11_onShut_60 : decode cX11_onShut 60 = .ok (.bipush 16, 2) := by decide +kernel
theorem dX11_onShut_62 : decode cX11_onShut 62 = .ok (.aload_n 0, 1) := by decide +kernel
theorem dX11_onShut_63 : decode cX11_onShut 63 = .ok (.getfield 239, 3) := by decide +kernel
theorem dX11_onShut_66 : decode cX11_onShut 66 = .ok (.imul, 1) := by decide +kernel
theorem dX11_onShut_67 : decode cX11_onShut 67 = .ok (.aload_n 0, 1) := by decide +kernel
theorem dX11_onShut_68 : decode cX11_onShut 68 = .ok (.getfield 42, 3) := by decide +kernel
theorem dX11_onShut_71 : decode cX11_onShut 71 = .ok (.iload_n 1, 1) := by decide +kernel
theorem dX11_onShut_72 : decode cX11_onShut 72 = .ok (.iaload, 1) := by decide +kernel
theorem dX11_onShut_73 : decode cX11_onShut 73 = .ok (.iadd, 1) := by decide +kernel
theorem dX11_onShut_74 : decode cX11_onShut 74 = .ok (.iaload, 1) := by decide +kernel
theorem dX11_onShut_75 : decode cX11_onShut 75 = .ok (.goto 87, 3) := by decide +kernel
theorem dX11_onShut_78 : decode cX11_onShut 78 = .ok (.iload_n 3, 1) := by decide +kernel
theorem dX11_onShut_79 : decode cX11_onShut 79 = .ok (.iconst 2, 1) := by decide +kernel
theorem dX11_onShut_80 : decode cX11_onShut 80 = .ok (.if_icmp .eq 13, 3) := by decide +kernel
theorem dX11_onShut_83 : decode cX11_onShut 83 = .ok (.iload_n 3, 1) := by decide +kernel
theorem dX11_onShut_84 : decode cX11_onShut 84 = .ok (.iconst 3, 1) := by decide +kernel
theorem dX11_onShut_85 : decode cX11_onShut 85 = .ok (.if_icmp .eq 8, 3) := by decide +kernel
theorem dX11_onShut_88 : decode cX11_onShut 88 = .ok (.iload_n 3, 1) := by decide +kernel
theorem dX11_onShut_89 : decode cX11_onShut 89 = .ok (.iconst 4, 1) := by decide +kernel
theorem dX11_onShut_90 : decode cX11_onShut 90 = .ok (.if_icmp .ne 17, 3) := by decide +kernel
theorem dX11_onShut_93 : decode cX11_onShut 93 = .ok (.aload_n 0, 1) := by decide +kernel
theorem dX11_onShut_94 : decode cX11_onShut 94 = .ok (.getfield 54, 3) := by decide +kernel
theorem dX11_onShut_97 : decode cX11_onShut 97 = .ok (.aload_n 0, 1) := by decide +kernel
theorem dX11_onShut_98 : decode cX11_onShut 98 = .ok (.getfield 45, 3) := by decide +kernel
theorem dX11_onShut_101 : decode cX11_onShut 101 = .ok (.iload_n 1, 1) := by decide +kernel
theorem dX11_onShut_102 : decode cX11_onShut 102 = .ok (.iaload, 1) := by decide +kernel
theorem dX11_onShut_103 : decode cX11_onShut 103 = .ok (.iaload, 1) := by decide +kernel
theorem dX11_onShut_104 : decode cX11_onShut 104 = .ok (.goto 58, 3) := by decide +kernel
theorem dX11_onShut_107 : decode cX11_onShut 107 = .ok (.iload_n 3, 1) := by decide +kernel
theorem dX11_onShut_108 : decode cX11_onShut 108 = .ok (.bipush 8, 2) := by decide +kernel
theorem dX11_onShut_110 : decode cX11_onShut 110 = .ok (.if_icmp .ne 17, 3) := by decide +kernel
theorem dX11_onShut_113 : decode cX11_onShut 113 = .ok (.aload_n 0, 1) := by decide +kernel
theorem dX11_onShut_114 : decode cX11_onShut 114 = .ok (.getfield 21, 3) := by decide +kernel
theorem dX11_onShut_117 : decode cX11_onShut 117 = .ok (.aload_n 0, 1) := by decide +kernel
theorem dX11_onShut_118 : decode cX11_onShut 118 = .ok (.getfield 48, 3) := by decide +kernel
theorem dX11_onShut_121 : decode cX11_onShut 121 = .ok (.iload_n 1, 1) := by decide +kernel
theorem dX11_onShut_122 : decode cX11_onShut 122 = .ok (.iaload, 1) := by decide +kernel
theorem dX11_onShut_123 : decode cX11_onShut 123 = .ok (.iaload, 1) := by decide +kernel
theorem dX11_onShut_124 : decode cX11_onShut 124 = .ok (.goto 38, 3) := by decide +kernel
theorem dX11_onShut_127 : decode cX11_onShut 127 = .ok (.iload_n 3, 1) := by decide +kernel
theorem dX11_onShut_128 : decode cX11_onShut 128 = .ok (.bipush 9, 2) := by decide +kernel
theorem dX11_onShut_130 : decode cX11_onShut 130 = .ok (.if_icmp .ne 31, 3) := by decide +kernel
theorem dX11_onShut_133 : decode cX11_onShut 133 = .ok (.aload_n 0, 1) := by decide +kernel
theorem dX11_onShut_134 : decode cX11_onShut 134 = .ok (.getfield 54, 3) := by decide +kernel
theorem dX11_onShut_137 : decode cX11_onShut 137 = .ok (.aload_n 0, 1) := by decide +kernel
theorem dX11_onShut_138 : decode cX11_onShut 138 = .ok (.getfield 42, 3) := by decide +kernel
theorem dX11_onShut_141 : decode cX11_onShut 141 = .ok (.iload_n 1, 1) := by decide +kernel
theorem dX11_onShut_142 : decode cX11_onShut 142 = .ok (.iaload, 1) := by decide +kernel
theorem dX11_onShut_143 : decode cX11_onShut 143 = .ok (.iaload, 1) := by decide +kernel
theorem dX11_onShut_144 : decode cX11_onShut 144 = .ok (.aload_n 0, 1) := by decide +kernel
theorem dX11_onShut_145 : decode cX11_onShut 145 = .ok (.getfield 54, 3) := by decide +kernel
theorem dX11_onShut_148 : decode cX11_onShut 148 = .ok (.aload_n 0, 1) := by decide +kernel
theorem dX11_onShut_149 : decode cX11_onShut 149 = .ok (.getfield 45, 3) := by decide +kernel
theorem dX11_onShut_152 : decode cX11_onShut 152 = .ok (.iload_n 1, 1) := by decide +kernel
theorem dX11_onShut_153 : decode cX11_onShut 153 = .ok (.iaload, 1) := by decide +kernel
theorem dX11_onShut_154 : decode cX11_onShut 154 = .ok (.iaload, 1) := by decide +kernel
theorem dX11_onShut_155 : decode cX11_onShut 155 = .ok (.invokestatic 273, 3) := by decide +kernel
theorem dX11_onShut_158 : decode cX11_onShut 158 = .ok (.goto 4, 3) := by decide +kernel
theorem dX11_onShut_161 : decode cX11_onShut 161 = .ok (.iconst 0, 1) := by decide +kernel
theorem dX11_onShut_162 : decode cX11_onShut 162 = .ok (.istore 4, 2) := by decide +kernel
theorem dX11_onShut_164 : decode cX11_onShut 164 = .ok (.iload 4, 2) := by decide +kernel
theorem dX11_onShut_166 : decode cX11_onShut 166 = .ok (.iconst (-1), 1) := by decide +kernel
theorem dX11_onShut_167 : decode cX11_onShut 167 = .ok (.if_icmp .eq 24, 3) := by decide +kernel
theorem dX11_onShut_170 : decode cX11_onShut 170 = .ok (.iload_n 2, 1) := by decide +kernel
theorem dX11_onShut_171 : decode cX11_onShut 171 = .ok (.ifCond .lt 9, 3) := by decide +kernel
theorem dX11_onShut_174 : decode cX11_onShut 174 = .ok (.iload 4, 2) := by decide +kernel
theorem dX11_onShut_176 : decode cX11_onShut 176 = .ok (.iload_n 2, 1) := by decide +kernel
theorem dX11_onShut_177 : decode cX11_onShut 177 = .ok (.if_icmp .ne 14, 3) := by decide +kernel
theorem dX11_onShut_180 : decode cX11_onShut 180 = .ok (.iload_n 2, 1) := by decide +kernel
theorem dX11_onShut_181 : decode cX11_onShut 181 = .ok (.bipush (-2), 2) := by decide +kernel
theorem dX11_onShut_183 : decode cX11_onShut 183 = .ok (.if_icmp .ne 19, 3) := by decide +kernel
theorem dX11_onShut_186 : decode cX11_onShut 186 = .ok (.iload 4, 2) := by decide +kernel
theorem dX11_onShut_188 : decode cX11_onShut 188 = .ok (.ifCond .ne 14, 3) := by decide +kernel
theorem dX11_onShut_191 : decode cX11_onShut 191 = .ok (.aload_n 0, 1) := by decide +kernel
theorem dX11_onShut_192 : decode cX11_onShut 192 = .ok (.iconst 5, 1) := by decide +kernel
theorem dX11_onShut_193 : decode cX11_onShut 193 = .ok (.aload_n 0, 1) := by decide +kernel
theorem dX11_onShut_194 : decode cX11_onShut 194 = .ok (.getfield 51, 3) := by decide +kernel
theorem dX11_onShut_197 : decode cX11_onShut 197 = .ok (.iload_n 1, 1) := by decide +kernel
theorem dX11_onShut_198 : decode cX11_onShut 198 = .ok (.iaload, 1) := by decide +kernel
theorem dX11_onShut_199 : decode cX11_onShut 199 = .ok (.invokevirtual 205, 3) := by decide +kernel
theorem dX11_onShut_202 : decode cX11_onShut 202 = .ok (.aload_n 0, 1) := by decide +kernel
theorem dX11_onShut_203 : decode cX11_onShut 203 = .ok (.getfield 54, 3) := by decide +kernel
theorem dX11_onShut_206 : decode cX11_onShut 206 = .ok (.iload_n 1, 1) := by decide +kernel
theorem dX11_onShut_207 : decode cX11_onShut 207 = .ok (.iload 4, 2) := by decide +kernel
theorem dX11_onShut_209 : decode cX11_onShut 209 = .ok (.iastore, 1) := by decide +kernel
theorem dX11_onShut_210 : decode cX11_onShut 210 = .ok (.return_, 1) := by decide +kernel
noncomputable def fX11_onShut_202 (x1 : Int32) (x4 : Int32) (M : mv_M) : Option (Unit × mv_M) :=
  mv_chk (mv_inb x1 2002) <|
  mv_let (mv_si M 76 x1.toNatClampNeg x4) fun M20 =>
  some ((), M20)
set_option maxRecDepth 100000 in
set_option maxHeartbeats 4000000 in
theorem zX11_onShut_202 {l : Launch} {d : Nat} {Q : Unit → mv_M → Prop} (hd : 1 ≤ d) (x1 : Int32) (x4 : Int32) (M : mv_M) (h : mv_ok (fX11_onShut_202 x1 x4 M) Q) : mv l mX11_onShut d 0 202 [(0, .ref 62), (1, .int x1), (4, .int x4)] [] M (mv_qV Q) := by
  unfold fX11_onShut_202 at h
  refine mv_aload_n 0 dX11_onShut_202 rfl ?_
  refine mv_getR 76 fX11_54 (by decide) rfl rfl rfl dX11_onShut_203 ?_
  refine mv_iload_n 1 dX11_onShut_206 rfl ?_
  refine mv_iload 2 dX11_onShut_207 rfl ?_
  obtain ⟨hi19, h⟩ := mv_chkE h
  refine mv_ist (by decide) rfl (mv_inE hi19) dX11_onShut_209 (fun M20 eM20 => ?_)
  replace h := mv_letE h M20 eM20
  exact mv_vret rfl dX11_onShut_210 ⟨rfl, h⟩
noncomputable def fX11_onShut_191 (x1 : Int32) (x4 : Int32) (M : mv_M) : Option (Unit × mv_M) :=
  mv_chk (mv_inb x1 2002) <|
  mv_bind (fX11_stop 5 (M.1 75 x1.toNatClampNeg) M) fun _ M18 =>
  fX11_onShut_202 x1 x4 M18
set_option maxRecDepth 100000 in
set_option maxHeartbeats 4000000 in
theorem zX11_onShut_191 {l : Launch} {d : Nat} {Q : Unit → mv_M → Prop} (hd : 1 ≤ d) (x1 : Int32) (x4 : Int32) (M : mv_M) (h : mv_ok (fX11_onShut_191 x1 x4 M) Q) : mv l mX11_onShut d 0 191 [(0, .ref 62), (1, .int x1), (4, .int x4)] [] M (mv_qV Q) := by
  unfold fX11_onShut_191 at h
  refine mv_aload_n 0 dX11_onShut_191 rfl ?_
  refine mv_iconst 5 dX11_onShut_192 (by decide) ?_
  refine mv_aload_n 0 dX11_onShut_193 rfl ?_
  refine mv_getR 75 fX11_51 (by decide) rfl rfl rfl dX11_onShut_194 ?_
  refine mv_iload_n 1 dX11_onShut_197 rfl ?_
  obtain ⟨hi17, h⟩ := mv_chkE h
  refine mv_ild (by decide) rfl (mv_inE hi17) dX11_onShut_198 ?_
  refine mv_cvV (As := [.int 5, .int (M.1 75 x1.toNatClampNeg)]) (st := []) okX11_stop lX11_205 (by decide) rfl rfl rfl (Nat.le_of_ble_eq_true rfl) rfl (Nat.le_of_ble_eq_true rfl) dX11_onShut_199 (by omega) rfl (zX11_stop (d := d - 1) (by omega) 5 (M.1 75 x1.toNatClampNeg) M (mv_bindE h)) (fun _ M18 h => ?_)
  refine mv_sub [0, 1, 2] rfl ?_
  exact zX11_onShut_202 hd x1 x4 M18 h
noncomputable def fX11_onShut_180 (x1 : Int32) (x2 : Int32) (x4 : Int32) (M : mv_M) : Option (Unit × mv_M) :=
  if x2 = (-2) then
    if x4 = 0 then
      fX11_onShut_191 x1 x4 M
    else
      fX11_onShut_202 x1 x4 M
  else
    fX11_onShut_202 x1 x4 M
set_option maxRecDepth 100000 in
set_option maxHeartbeats 4000000 in
theorem zX11_onShut_180 {l : Launch} {d : Nat} {Q : Unit → mv_M → Prop} (hd : 1 ≤ d) (x1 : Int32) (x2 : Int32) (x4 : Int32) (M : mv_M) (h : mv_ok (fX11_onShut_180 x1 x2 x4 M) Q) : mv l mX11_onShut d 0 180 [(0, .ref 62), (1, .int x1), (2, .int x2), (4, .int x4)] [] M (mv_qV Q) := by
  unfold fX11_onShut_180 at h
  refine mv_iload_n 2 dX11_onShut_180 rfl ?_
  refine mv_bipush (-2) dX11_onShut_181 (by decide) ?_
  refine mv_icmp_ne 202 dX11_onShut_183 (by decide) (fun z => ?_) (fun z => ?_)
  · replace h := mv_ifF z h
    refine mv_sub [0, 1, 3] rfl ?_
    exact zX11_onShut_202 hd x1 x4 M h
  · replace h := mv_ifT z h
    refine mv_iload 3 dX11_onShut_186 rfl ?_
    refine mv_if_ne 202 dX11_onShut_188 (by decide) (fun z => ?_) (fun z => ?_)
    · replace h := mv_ifF z h
      refine mv_sub [0, 1, 3] rfl ?_
      exact zX11_onShut_202 hd x1 x4 M h
    · replace h := mv_ifT z h
      refine mv_sub [0, 1, 3] rfl ?_
      exact zX11_onShut_191 hd x1 x4 M h
noncomputable def fX11_onShut_162 (x1 : Int32) (x2 : Int32) (s0 : Int32) (M : mv_M) : Option (Unit × mv_M) :=
  if s0 = (-1) then
    fX11_onShut_191 x1 s0 M
  else
    if x2 < 0 then
      fX11_onShut_180 x1 x2 s0 M
    else
      if s0 = x2 then
        fX11_onShut_180 x1 x2 s0 M
      else
        fX11_onShut_191 x1 s0 M
set_option maxRecDepth 100000 in
set_option maxHeartbeats 4000000 in
theorem zX11_onShut_162 {l : Launch} {d : Nat} {Q : Unit → mv_M → Prop} (hd : 1 ≤ d) (x1 : Int32) (x2 : Int32) (s0 : Int32) (M : mv_M) (h : mv_ok (fX11_onShut_162 x1 x2 s0 M) Q) : mv l mX11_onShut d 0 162 [(0, .ref 62), (1, .int x1), (2, .int x2)] [.int s0] M (mv_qV Q) := by
  unfold fX11_onShut_162 at h
  refine mv_istore [(4, .int s0), (0, .ref 62), (1, .int x1), (2, .int x2)] dX11_onShut_162 (by decide) rfl ?_
  refine mv_iload 0 dX11_onShut_164 rfl ?_
  refine mv_iconst (-1) dX11_onShut_166 (by decide) ?_
  refine mv_icmp_eq 191 dX11_onShut_167 (by decide) (fun z => ?_) (fun z => ?_)
  · replace h := mv_ifT z h
    refine mv_sub [1, 2, 0] rfl ?_
    exact zX11_onShut_191 hd x1 s0 M h
  · replace h := mv_ifF z h
    refine mv_iload_n 3 dX11_onShut_170 rfl ?_
    refine mv_if_lt 180 dX11_onShut_171 (by decide) (fun z => ?_) (fun z => ?_)
    · replace h := mv_ifT z h
      refine mv_sub [1, 2, 3, 0] rfl ?_
      exact zX11_onShut_180 hd x1 x2 s0 M h
    · replace h := mv_ifF z h
      refine mv_iload 0 dX11_onShut_174 rfl ?_
      refine mv_iload_n 3 dX11_onShut_176 rfl ?_
      refine mv_icmp_ne 191 dX11_onShut_177 (by decide) (fun z => ?_) (fun z => ?_)
      · replace h := mv_ifF z h
        refine mv_sub [1, 2, 0] rfl ?_
        exact zX11_onShut_191 hd x1 s0 M h
      · replace h := mv_ifT z h
        refine mv_sub [1, 2, 3, 0] rfl ?_
        exact zX11_onShut_180 hd x1 x2 s0 M h
noncomputable def fX11_onShut_93 (x1 : Int32) (x2 : Int32) (M : mv_M) : Option (Unit × mv_M) :=
  mv_chk (mv_inb x1 2002) <|
  mv_chk (mv_inb (M.1 73 x1.toNatClampNeg) 2002) <|
  fX11_onShut_162 x1 x2 (M.1 76 (M.1 73 x1.toNatClampNeg).toNatClampNeg) M
set_option maxRecDepth 100000 in
set_option maxHeartbeats 4000000 in
theorem zX11_onShut_93 {l : Launch} {d : Nat} {Q : Unit → mv_M → Prop} (hd : 1 ≤ d) (x1 : Int32) (x2 : Int32) (M : mv_M) (h : mv_ok (fX11_onShut_93 x1 x2 M) Q) : mv l mX11_onShut d 0 93 [(0, .ref 62), (1, .int x1), (2, .int x2)] [] M (mv_qV Q) := by
  unfold fX11_onShut_93 at h
  refine mv_aload_n 0 dX11_onShut_93 rfl ?_
  refine mv_getR 76 fX11_54 (by decide) rfl rfl rfl dX11_onShut_94 ?_
  refine mv_aload_n 0 dX11_onShut_97 rfl ?_
  refine mv_getR 73 fX11_45 (by decide) rfl rfl rfl dX11_onShut_98 ?_
  refine mv_iload_n 1 dX11_onShut_101 rfl ?_
  obtain ⟨hi15, h⟩ := mv_chkE h
  refine mv_ild (by decide) rfl (mv_inE hi15) dX11_onShut_102 ?_
  obtain ⟨hi16, h⟩ := mv_chkE h
  refine mv_ild (by decide) rfl (mv_inE hi16) dX11_onShut_103 ?_
  refine mv_goto 162 dX11_onShut_104 (by decide) ?_
  refine mv_sub [0, 1, 2] rfl ?_
  exact zX11_onShut_162 hd x1 x2 (M.1 76 (M.1 73 x1.toNatClampNeg).toNatClampNeg) M h
noncomputable def fX11_onShut_31 (x1 : Int32) (x2 : Int32) (x3 : Int32) (s0 : Int32) (s1 : Int32) (M : mv_M) : Option (Unit × mv_M) :=
  mv_let (mv_si M 62 44 (s1 - s0)) fun M3 =>
  if x3 = 6 then
    mv_chk (mv_inb x1 2002) <|
    fX11_onShut_162 x1 x2 (M3.1 72 x1.toNatClampNeg) M3
  else
    if x3 = 7 then
      mv_chk (mv_inb x1 2002) <|
      mv_chk (mv_inb ((16 * (M3.1 62 33)) + (M3.1 72 x1.toNatClampNeg)) 384) <|
      fX11_onShut_162 x1 x2 (M3.1 70 ((16 * (M3.1 62 33)) + (M3.1 72 x1.toNatClampNeg)).toNatClampNeg) M3
    else
      if x3 = 2 then
        fX11_onShut_93 x1 x2 M3
      else
        if x3 = 3 then
          fX11_onShut_93 x1 x2 M3
        else
          if x3 = 4 then
            fX11_onShut_93 x1 x2 M3
          else
            if x3 = 8 then
              mv_chk (mv_inb x1 2002) <|
              mv_chk (mv_inb (M3.1 74 x1.toNatClampNeg) 24) <|
              fX11_onShut_162 x1 x2 (M3.1 65 (M3.1 74 x1.toNatClampNeg).toNatClampNeg) M3
            else
              if x3 = 9 then
                mv_chk (mv_inb x1 2002) <|
                mv_chk (mv_inb (M3.1 72 x1.toNatClampNeg) 2002) <|
                mv_chk (mv_inb x1 2002) <|
                mv_chk (mv_inb (M3.1 73 x1.toNatClampNeg) 2002) <|
                mv_bind (fX11_pairOf (M3.1 76 (M3.1 72 x1.toNatClampNeg).toNatClampNeg) (M3.1 76 (M3.1 73 x1.toNatClampNeg).toNatClampNeg) M3) fun r8 M9 =>
                fX11_onShut_162 x1 x2 r8 M9
              else
                fX11_onShut_162 x1 x2 0 M3
set_option maxRecDepth 100000 in
set_option maxHeartbeats 4000000 in
theorem zX11_onShut_31 {l : Launch} {d : Nat} {Q : Unit → mv_M → Prop} (hd : 1 ≤ d) (x1 : Int32) (x2 : Int32) (x3 : Int32) (s0 : Int32) (s1 : Int32) (M : mv_M) (h : mv_ok (fX11_onShut_31 x1 x2 x3 s0 s1 M) Q) : mv l mX11_onShut d 0 31 [(0, .ref 62), (1, .int x1), (2, .int x2), (3, .int x3)] [.int s0, .int s1, .ref 62] M (mv_qV Q) := by
  unfold fX11_onShut_31 at h
  refine mv_isub dX11_onShut_31 ?_
  refine mv_putI fX11_319 (by decide) rfl rfl dX11_onShut_32 (fun M3 eM3 => ?_)
  replace h := mv_letE h M3 eM3
  refine mv_iload_n 3 dX11_onShut_35 rfl ?_
  refine mv_bipush 6 dX11_onShut_36 (by decide) ?_
  refine mv_icmp_ne 50 dX11_onShut_38 (by decide) (fun z => ?_) (fun z => ?_)
  · replace h := mv_ifF z h
    refine mv_iload_n 3 dX11_onShut_50 rfl ?_
    refine mv_bipush 7 dX11_onShut_51 (by decide) ?_
    refine mv_icmp_ne 78 dX11_onShut_53 (by decide) (fun z => ?_) (fun z => ?_)
    · replace h := mv_ifF z h
      refine mv_iload_n 3 dX11_onShut_78 rfl ?_
      refine mv_iconst 2 dX11_onShut_79 (by decide) ?_
      refine mv_icmp_eq 93 dX11_onShut_80 (by decide) (fun z => ?_) (fun z => ?_)
      · replace h := mv_ifT z h
        refine mv_sub [0, 1, 2] rfl ?_
        exact zX11_onShut_93 hd x1 x2 M3 h
      · replace h := mv_ifF z h
        refine mv_iload_n 3 dX11_onShut_83 rfl ?_
        refine mv_iconst 3 dX11_onShut_84 (by decide) ?_
        refine mv_icmp_eq 93 dX11_onShut_85 (by decide) (fun z => ?_) (fun z => ?_)
        · replace h := mv_ifT z h
          refine mv_sub [0, 1, 2] rfl ?_
          exact zX11_onShut_93 hd x1 x2 M3 h
        · replace h := mv_ifF z h
          refine mv_iload_n 3 dX11_onShut_88 rfl ?_
          refine mv_iconst 4 dX11_onShut_89 (by decide) ?_
          refine mv_icmp_ne 107 dX11_onShut_90 (by decide) (fun z => ?_) (fun z => ?_)
          · replace h := mv_ifF z h
            refine mv_iload_n 3 dX11_onShut_107 rfl ?_
            refine mv_bipush 8 dX11_onShut_108 (by decide) ?_
            refine mv_icmp_ne 127 dX11_onShut_110 (by decide) (fun z => ?_) (fun z => ?_)
            · replace h := mv_ifF z h
              refine mv_iload_n 3 dX11_onShut_127 rfl ?_
              refine mv_bipush 9 dX11_onShut_128 (by decide) ?_
              refine mv_icmp_ne 161 dX11_onShut_130 (by decide) (fun z => ?_) (fun z => ?_)
              · replace h := mv_ifF z h
                refine mv_iconst 0 dX11_onShut_161 (by decide) ?_
                refine mv_sub [0, 1, 2] rfl ?_
                exact zX11_onShut_162 hd x1 x2 0 M3 h
              · replace h := mv_ifT z h
                refine mv_aload_n 0 dX11_onShut_133 rfl ?_
                refine mv_getR 76 fX11_54 (by decide) rfl rfl rfl dX11_onShut_134 ?_
                refine mv_aload_n 0 dX11_onShut_137 rfl ?_
                refine mv_getR 72 fX11_42 (by decide) rfl rfl rfl dX11_onShut_138 ?_
                refine mv_iload_n 1 dX11_onShut_141 rfl ?_
                obtain ⟨hi4, h⟩ := mv_chkE h
                refine mv_ild (by decide) rfl (mv_inE hi4) dX11_onShut_142 ?_
                obtain ⟨hi5, h⟩ := mv_chkE h
                refine mv_ild (by decide) rfl (mv_inE hi5) dX11_onShut_143 ?_
                refine mv_aload_n 0 dX11_onShut_144 rfl ?_
                refine mv_getR 76 fX11_54 (by decide) rfl rfl rfl dX11_onShut_145 ?_
                refine mv_aload_n 0 dX11_onShut_148 rfl ?_
                refine mv_getR 73 fX11_45 (by decide) rfl rfl rfl dX11_onShut_149 ?_
                refine mv_iload_n 1 dX11_onShut_152 rfl ?_
                obtain ⟨hi6, h⟩ := mv_chkE h
                refine mv_ild (by decide) rfl (mv_inE hi6) dX11_onShut_153 ?_
                obtain ⟨hi7, h⟩ := mv_chkE h
                refine mv_ild (by decide) rfl (mv_inE hi7) dX11_onShut_154 ?_
                refine mv_csI (As := [.int (M3.1 76 (M3.1 72 x1.toNatClampNeg).toNatClampNeg), .int (M3.1 76 (M3.1 73 x1.toNatClampNeg).toNatClampNeg)]) (st := []) okX11_pairOf lX11_273 rfl (Nat.le_of_ble_eq_true rfl) rfl (Nat.le_of_ble_eq_true rfl) dX11_onShut_155 (by omega) rfl (zX11_pairOf (d := d - 1) (by omega) (M3.1 76 (M3.1 72 x1.toNatClampNeg).toNatClampNeg) (M3.1 76 (M3.1 73 x1.toNatClampNeg).toNatClampNeg) M3 (mv_bindE h)) (fun r8 M9 h => ?_)
                refine mv_goto 162 dX11_onShut_158 (by decide) ?_
                refine mv_sub [0, 1, 2] rfl ?_
                exact zX11_onShut_162 hd x1 x2 r8 M9 h
            · replace h := mv_ifT z h
              refine mv_aload_n 0 dX11_onShut_113 rfl ?_
              refine mv_getR 65 fX11_21 (by decide) rfl rfl rfl dX11_onShut_114 ?_
              refine mv_aload_n 0 dX11_onShut_117 rfl ?_
              refine mv_getR 74 fX11_48 (by decide) rfl rfl rfl dX11_onShut_118 ?_
              refine mv_iload_n 1 dX11_onShut_121 rfl ?_
              obtain ⟨hi10, h⟩ := mv_chkE h
              refine mv_ild (by decide) rfl (mv_inE hi10) dX11_onShut_122 ?_
              obtain ⟨hi11, h⟩ := mv_chkE h
              refine mv_ild (by decide) rfl (mv_inE hi11) dX11_onShut_123 ?_
              refine mv_goto 162 dX11_onShut_124 (by decide) ?_
              refine mv_sub [0, 1, 2] rfl ?_
              exact zX11_onShut_162 hd x1 x2 (M3.1 65 (M3.1 74 x1.toNatClampNeg).toNatClampNeg) M3 h
          · replace h := mv_ifT z h
            refine mv_sub [0, 1, 2] rfl ?_
            exact zX11_onShut_93 hd x1 x2 M3 h
    · replace h := mv_ifT z h
      refine mv_aload_n 0 dX11_onShut_56 rfl ?_
      refine mv_getR 70 fX11_36 (by decide) rfl rfl rfl dX11_onShut_57 ?_
      refine mv_bipush 16 dX11_onShut_60 (by decide) ?_
      refine mv_aload_n 0 dX11_onShut_62 rfl ?_
      refine mv_getI fX11_239 (by decide) rfl rfl dX11_onShut_63 ?_
      refine mv_imul dX11_onShut_66 ?_
      refine mv_aload_n 0 dX11_onShut_67 rfl ?_
      refine mv_getR 72 fX11_42 (by decide) rfl rfl rfl dX11_onShut_68 ?_
      refine mv_iload_n 1 dX11_onShut_71 rfl ?_
      obtain ⟨hi12, h⟩ := mv_chkE h
      refine mv_ild (by decide) rfl (mv_inE hi12) dX11_onShut_72 ?_
      refine mv_iadd dX11_onShut_73 ?_
      obtain ⟨hi13, h⟩ := mv_chkE h
      refine mv_ild (by decide) rfl (mv_inE hi13) dX11_onShut_74 ?_
      refine mv_goto 162 dX11_onShut_75 (by decide) ?_
      refine mv_sub [0, 1, 2] rfl ?_
      exact zX11_onShut_162 hd x1 x2 (M3.1 70 ((16 * (M3.1 62 33)) + (M3.1 72 x1.toNatClampNeg)).toNatClampNeg) M3 h
  · replace h := mv_ifT z h
    refine mv_aload_n 0 dX11_onShut_41 rfl ?_
    refine mv_getR 72 fX11_42 (by decide) rfl rfl rfl dX11_onShut_42 ?_
    refine mv_iload_n 1 dX11_onShut_45 rfl ?_
    obtain ⟨hi14, h⟩ := mv_chkE h
    refine mv_ild (by decide) rfl (mv_inE hi14) dX11_onShut_46 ?_
    refine mv_goto 162 dX11_onShut_47 (by decide) ?_
    refine mv_sub [0, 1, 2] rfl ?_
    exact zX11_onShut_162 hd x1 x2 (M3.1 72 x1.toNatClampNeg) M3 h
noncomputable def fX11_onShut (a0 : Int32) (a1 : Int32) (M : mv_M) : Option (Unit × mv_M) :=
  mv_chk (mv_inb a0 2002) <|
  mv_let (M.1 71 a0.toNatClampNeg) fun v2 =>
  if v2 = 3 then
    fX11_onShut_31 a0 a1 v2 1 (M.1 62 44) M
  else
    if v2 = 4 then
      fX11_onShut_31 a0 a1 v2 2 (M.1 62 44) M
    else
      fX11_onShut_31 a0 a1 v2 0 (M.1 62 44) M
set_option maxRecDepth 100000 in
set_option maxHeartbeats 4000000 in
theorem zX11_onShut {l : Launch} {d : Nat} {Q : Unit → mv_M → Prop} (hd : 1 ≤ d) (a0 : Int32) (a1 : Int32) (M : mv_M) (h : mv_ok (fX11_onShut a0 a1 M) Q) : mv l mX11_onShut d 0 0 (lv_args 0 [.ref 62, .int a0, .int a1]) [] M (mv_qV Q) := by
  unfold fX11_onShut at h
  show mv l mX11_onShut d 0 0 [(0, .ref 62), (1, .int a0), (2, .int a1)] [] M (mv_qV Q)
  refine mv_aload_n 0 dX11_onShut_0 rfl ?_
  refine mv_getR 71 fX11_39 (by decide) rfl rfl rfl dX11_onShut_1 ?_
  refine mv_iload_n 1 dX11_onShut_4 rfl ?_
  obtain ⟨hi1, h⟩ := mv_chkE h
  refine mv_ild (by decide) rfl (mv_inE hi1) dX11_onShut_5 ?_
  refine mv_topi (fun v2 ev2 => ?_)
  replace h := mv_letE h v2 ev2
  refine mv_istore_n [(3, .int v2), (0, .ref 62), (1, .int a0), (2, .int a1)] dX11_onShut_6 (by decide) rfl ?_
  refine mv_aload_n 1 dX11_onShut_7 rfl ?_
  refine mv_dup dX11_onShut_8 rfl ?_
  refine mv_getI fX11_319 (by decide) rfl rfl dX11_onShut_9 ?_
  refine mv_iload_n 0 dX11_onShut_12 rfl ?_
  refine mv_iconst 3 dX11_onShut_13 (by decide) ?_
  refine mv_icmp_ne 21 dX11_onShut_14 (by decide) (fun z => ?_) (fun z => ?_)
  · replace h := mv_ifF z h
    refine mv_iload_n 0 dX11_onShut_21 rfl ?_
    refine mv_iconst 4 dX11_onShut_22 (by decide) ?_
    refine mv_icmp_ne 30 dX11_onShut_23 (by decide) (fun z => ?_) (fun z => ?_)
    · replace h := mv_ifF z h
      refine mv_iconst 0 dX11_onShut_30 (by decide) ?_
      refine mv_sub [1, 2, 3, 0] rfl ?_
      exact zX11_onShut_31 hd a0 a1 v2 0 (M.1 62 44) M h
    · replace h := mv_ifT z h
      refine mv_iconst 2 dX11_onShut_26 (by decide) ?_
      refine mv_goto 31 dX11_onShut_27 (by decide) ?_
      refine mv_sub [1, 2, 3, 0] rfl ?_
      exact zX11_onShut_31 hd a0 a1 v2 2 (M.1 62 44) M h
  · replace h := mv_ifT z h
    refine mv_iconst 1 dX11_onShut_17 (by decide) ?_
    refine mv_goto 31 dX11_onShut_18 (by decide) ?_
    refine mv_sub [1, 2, 3, 0] rfl ?_
    exact zX11_onShut_31 hd a0 a1 v2 1 (M.1 62 44) M h
