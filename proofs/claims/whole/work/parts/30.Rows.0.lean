theorem dX5_forget_0 : decode cX5_forget 0 = .ok (.aload_n 0, 1) := by decide +kernel
theorem dX5_forget_1 : decode cX5_forget 1 = .ok (.iconst 0, 1) := by decide +kernel
theorem dX5_forget_2 : decode cX5_forget 2 = .ok (.putfield 9, 3) := by decide +kernel
theorem dX5_forget_5 : decode cX5_forget 5 = .ok (.return_, 1) := by decide +kernel
noncomputable def fX5_forget (M : mv_M) : Option (Unit × mv_M) :=
  mv_let (mv_si M 5 0 0) fun M1 =>
  some ((), M1)
set_option maxRecDepth 100000 in
set_option maxHeartbeats 4000000 in
theorem zX5_forget {l : Launch} {d : Nat} {Q : Unit → mv_M → Prop} (hd : 0 ≤ d) (M : mv_M) (h : mv_ok (fX5_forget M) Q) : mv l mX5_forget d 0 0 (lv_args 0 [.ref 5]) [] M (mv_qV Q) := by
  unfold fX5_forget at h
  show mv l mX5_forget d 0 0 [(0, .ref 5)] [] M (mv_qV Q)
  refine mv_aload_n 0 dX5_forget_0 rfl ?_
  refine mv_iconst 0 dX5_forget_1 (by decide) ?_
  refine mv_putZ fX5_9 (by decide) (by decide) rfl rfl dX5_forget_2 (fun M1 eM1 => ?_)
  replace h := mv_letE h M1 eM1
  exact mv_vret rfl dX5_forget_5 ⟨rfl, h⟩
theorem dX5_rowOf_0 : decode cX5_rowOf 0 = .ok (.iload_n 1, 1) := by decide +kernel
theorem dX5_rowOf_1 : decode cX5_rowOf 1 = .ok (.ifCond .lt 19, 3) := by decide +kernel
theorem dX5_rowOf_4 : decode cX5_rowOf 4 = .ok (.iload_n 1, 1) := by decide +kernel
theorem dX5_rowOf_5 : decode cX5_rowOf 5 = .ok (.bipush 12, 2) := by decide +kernel
theorem dX5_rowOf_7 : decode cX5_rowOf 7 = .ok (.if_icmp .ge 13, 3) := by decide +kernel
theorem dX5_rowOf_10 : decode cX5_rowOf 10 = .ok (.iload_n 2, 1) := by decide +kernel
theorem dX5_rowOf_11 : decode cX5_rowOf 11 = .ok (.ifCond .lt 9, 3) := by decide +kernel
theorem dX5_rowOf_14 : decode cX5_rowOf 14 = .ok (.iload_n 2, 1) := by decide +kernel
theorem dX5_rowOf_15 : decode cX5_rowOf 15 = .ok (.bipush 26, 2) := by decide +kernel
theorem dX5_rowOf_17 : decode cX5_rowOf 17 = .ok (.if_icmp .lt 5, 3) := by decide +kernel
theorem dX5_rowOf_20 : decode cX5_rowOf 20 = .ok (.iconst (-1), 1) := by decide +kernel
theorem dX5_rowOf_21 : decode cX5_rowOf 21 = .ok (.ireturn, 1) := by decide +kernel
theorem dX5_rowOf_22 : decode cX5_rowOf 22 = .ok (.iload_n 1, 1) := by decide +kernel
theorem dX5_rowOf_23 : decode cX5_rowOf 23 = .ok (.bipush 26, 2) := by decide +kernel
theorem dX5_rowOf_25 : decode cX5_rowOf 25 = .ok (.imul, 1) := by decide +kernel
theorem dX5_rowOf_26 : decode cX5_rowOf 26 = .ok (.iload_n 2, 1) := by decide +kernel
theorem dX5_rowOf_27 : decode cX5_rowOf 27 = .ok (.iadd, 1) := by decide +kernel
theorem dX5_rowOf_28 : decode cX5_rowOf 28 = .ok (.ireturn, 1) := by decide +kernel
noncomputable def fX5_rowOf (a0 : Int32) (a1 : Int32) (M : mv_M) : Option (Int32 × mv_M) :=
  if a0 < 0 then
    some ((-1), M)
  else
    if 12 ≤ a0 then
      some ((-1), M)
    else
      if a1 < 0 then
        some ((-1), M)
      else
        if a1 < 26 then
          some ((a0 * 26) + a1, M)
        else
          some ((-1), M)
set_option maxRecDepth 100000 in
set_option maxHeartbeats 4000000 in
theorem zX5_rowOf {l : Launch} {d : Nat} {Q : Int32 → mv_M → Prop} (hd : 0 ≤ d) (a0 : Int32) (a1 : Int32) (M : mv_M) (h : mv_ok (fX5_rowOf a0 a1 M) Q) : mv l mX5_rowOf d 0 0 (lv_args 0 [.ref 5, .int a0, .int a1]) [] M (mv_qI Q) := by
  unfold fX5_rowOf at h
  show mv l mX5_rowOf d 0 0 [(0, .ref 5), (1, .int a0), (2, .int a1)] [] M (mv_qI Q)
  refine mv_iload_n 1 dX5_rowOf_0 rfl ?_
  refine mv_if_lt 20 dX5_rowOf_1 (by decide) (fun z => ?_) (fun z => ?_)
  · replace h := mv_ifT z h
    refine mv_iconst (-1) dX5_rowOf_20 (by decide) ?_
    exact mv_iret rfl dX5_rowOf_21 ⟨_, rfl, h⟩
  · replace h := mv_ifF z h
    refine mv_iload_n 1 dX5_rowOf_4 rfl ?_
    refine mv_bipush 12 dX5_rowOf_5 (by decide) ?_
    refine mv_icmp_ge 20 dX5_rowOf_7 (by decide) (fun z => ?_) (fun z => ?_)
    · replace h := mv_ifT z h
      refine mv_iconst (-1) dX5_rowOf_20 (by decide) ?_
      exact mv_iret rfl dX5_rowOf_21 ⟨_, rfl, h⟩
    · replace h := mv_ifF z h
      refine mv_iload_n 2 dX5_rowOf_10 rfl ?_
      refine mv_if_lt 20 dX5_rowOf_11 (by decide) (fun z => ?_) (fun z => ?_)
      · replace h := mv_ifT z h
        refine mv_iconst (-1) dX5_rowOf_20 (by decide) ?_
        exact mv_iret rfl dX5_rowOf_21 ⟨_, rfl, h⟩
      · replace h := mv_ifF z h
        refine mv_iload_n 2 dX5_rowOf_14 rfl ?_
        refine mv_bipush 26 dX5_rowOf_15 (by decide) ?_
        refine mv_icmp_lt 22 dX5_rowOf_17 (by decide) (fun z => ?_) (fun z => ?_)
        · replace h := mv_ifT z h
          refine mv_iload_n 1 dX5_rowOf_22 rfl ?_
          refine mv_bipush 26 dX5_rowOf_23 (by decide) ?_
          refine mv_imul dX5_rowOf_25 ?_
          refine mv_iload_n 2 dX5_rowOf_26 rfl ?_
          refine mv_iadd dX5_rowOf_27 ?_
          exact mv_iret rfl dX5_rowOf_28 ⟨_, rfl, h⟩
        · replace h := mv_ifF z h
          refine mv_iconst (-1) dX5_rowOf_20 (by decide) ?_
          exact mv_iret rfl dX5_rowOf_21 ⟨_, rfl, h⟩
theorem dX5_takeFirstSheet_0 : decode cX5_takeFirstSheet 0 = .ok (.aload_n 0, 1) := by decide +kernel
theorem dX5_takeFirstSheet_1 : decode cX5_takeFirstSheet 1 = .ok (.aload_n 0, 1) := by decide +kernel
theorem dX5_takeFirstSheet_2 : decode cX5_takeFirstSheet 2 = .ok (.getfield 51, 3) := by decide +kernel
theorem dX5_takeFirstSheet_5 : decode cX5_takeFirstSheet 5 = .ok (.iload_n 1, 1) := by decide +kernel
theorem dX5_takeFirstSheet_6 : decode cX5_takeFirstSheet 6 = .ok (.invokevirtual 29, 3) := by decide +kernel
theorem dX5_takeFirstSheet_9 : decode cX5_takeFirstSheet 9 = .ok (.istore_n 2, 1) := by decide +kernel
theorem dX5_takeFirstSheet_10 : decode cX5_takeFirstSheet 10 = .ok (.iload_n 2, 1) := by decide +kernel
theorem dX5_takeFirstSheet_11 : decode cX5_takeFirstSheet 11 = .ok (.iconst (-1), 1) := by decide +kernel
theorem dX5_takeFirstSheet_12 : decode cX5_takeFirstSheet 12 = .ok (.if_icmp .ne 5, 3) := by decide +kernel
theorem dX5_takeFirstSheet_15 : decode cX5_takeFirstSheet 15 = .ok (.iconst 0, 1) := by decide +kernel
theorem dX5_takeFirstSheet_16 : decode cX5_takeFirstSheet 16 = .ok (.ireturn, 1) := by decide +kernel
theorem dX5_takeFirstSheet_17 : decode cX5_takeFirstSheet 17 = .ok (.aload_n 0, 1) := by decide +kernel
theorem dX5_takeFirstSheet_18 : decode cX5_takeFirstSheet 18 = .ok (.getfield 19, 3) := by decide +kernel
theorem dX5_takeFirstSheet_21 : decode cX5_takeFirstSheet 21 = .ok (.iload_n 2, 1) := by decide +kernel
theorem dX5_takeFirstSheet_22 : decode cX5_takeFirstSheet 22 = .ok (.baload, 1) := by decide +kernel
theorem dX5_takeFirstSheet_23 : decode cX5_takeFirstSheet 23 = .ok (.aload_n 0, 1) := by decide +kernel
theorem dX5_takeFirstSheet_24 : decode cX5_takeFirstSheet 24 = .ok (.getfield 26, 3) := by decide +kernel
theorem dX5_takeFirstSheet_27 : decode cX5_takeFirstSheet 27 = .ok (.iconst 0, 1) := by decide +kernel
theorem dX5_takeFirstSheet_28 : decode cX5_takeFirstSheet 28 = .ok (.baload, 1) := by decide +kernel
theorem dX5_takeFirstSheet_29 : decode cX5_takeFirstSheet 29 = .ok (.if_icmp .eq 7, 3) := by decide +kernel
theorem dX5_takeFirstSheet_32 : decode cX5_takeFirstSheet 32 = .ok (.iconst 1, 1) := by decide +kernel
theorem dX5_takeFirstSheet_33 : decode cX5_takeFirstSheet 33 = .ok (.goto 4, 3) := by decide +kernel
theorem dX5_takeFirstSheet_36 : decode cX5_takeFirstSheet 36 = .ok (.iconst 0, 1) := by decide +kernel
theorem dX5_takeFirstSheet_37 : decode cX5_takeFirstSheet 37 = .ok (.istore_n 3, 1) := by decide +kernel
theorem dX5_takeFirstSheet_38 : decode cX5_takeFirstSheet 38 = .ok (.aload_n 0, 1) := by decide +kernel
theorem dX5_takeFirstSheet_39 : decode cX5_takeFirstSheet 39 = .ok (.getfield 19, 3) := by decide +kernel
theorem dX5_takeFirstSheet_42 : decode cX5_takeFirstSheet 42 = .ok (.iload_n 2, 1) := by decide +kernel
theorem dX5_takeFirstSheet_43 : decode cX5_takeFirstSheet 43 = .ok (.aload_n 0, 1) := by decide +kernel
theorem dX5_takeFirstSheet_44 : decode cX5_takeFirstSheet 44 = .ok (.getfield 26, 3) := by decide +kernel
theorem dX5_takeFirstSheet_47 : decode cX5_takeFirstSheet 47 = .ok (.iconst 0, 1) := by decide +kernel
theorem dX5_takeFirstSheet_48 : decode cX5_takeFirstSheet 48 = .ok (.baload, 1) := by decide +kernel
theorem dX5_takeFirstSheet_49 : decode cX5_takeFirstSheet 49 = .ok (.bastore, 1) := by decide +kernel
theorem dX5_takeFirstSheet_50 : decode cX5_takeFirstSheet 50 = .ok (.iconst 0, 1) := by decide +kernel
theorem dX5_takeFirstSheet_51 : decode cX5_takeFirstSheet 51 = .ok (.istore 4, 2) := by decide +kernel
theorem dX5_takeFirstSheet_53 : decode cX5_takeFirstSheet 53 = .ok (.iload 4, 2) := by decide +kernel
theorem dX5_takeFirstSheet_55 : decode cX5_takeFirstSheet 55 = .ok (.aload_n 0, 1) := by decide +kernel
theorem dX5_takeFirstSheet_56 : decode cX5_takeFirstSheet 56 = .ok (.getfield 33, 3) := by decide +kernel
theorem dX5_takeFirstSheet_59 : decode cX5_takeFirstSheet 59 = .ok (.getfield 77, 3) := by decide +kernel
theorem dX5_takeFirstSheet_62 : decode cX5_takeFirstSheet 62 = .ok (.aload_n 0, 1) := by decide +kernel
theorem dX5_takeFirstSheet_63 : decode cX5_takeFirstSheet 63 = .ok (.getfield 51, 3) := by decide +kernel
theorem dX5_takeFirstSheet_66 : decode cX5_takeFirstSheet 66 = .ok (.iaload, 1) := by decide +kernel
theorem dX5_takeFirstSheet_67 : decode cX5_takeFirstSheet 67 = .ok (.if_icmp .ge 85, 3) := by decide +kernel
theorem dX5_takeFirstSheet_70 : decode cX5_takeFirstSheet 70 = .ok (.aload_n 0, 1) := by decide +kernel
theorem dX5_takeFirstSheet_71 : decode cX5_takeFirstSheet 71 = .ok (.getfield 26, 3) := by decide +kernel
theorem dX5_takeFirstSheet_74 : decode cX5_takeFirstSheet 74 = .ok (.iconst 0, 1) := by decide +kernel
theorem dX5_takeFirstSheet_75 : decode cX5_takeFirstSheet 75 = .ok (.baload, 1) := by decide +kernel
theorem dX5_takeFirstSheet_76 : decode cX5_takeFirstSheet 76 = .ok (.ifCond .eq 22, 3) := by decide +kernel
theorem dX5_takeFirstSheet_79 : decode cX5_takeFirstSheet 79 = .ok (.aload_n 0, 1) := by decide +kernel
theorem dX5_takeFirstSheet_80 : decode cX5_takeFirstSheet 80 = .ok (.getfield 33, 3) := by decide +kernel
theorem dX5_takeFirstSheet_83 : decode cX5_takeFirstSheet 83 = .ok (.aload_n 0, 1) := by decide +kernel
theorem dX5_takeFirstSheet_84 : decode cX5_takeFirstSheet 84 = .ok (.getfield 51, 3) := by decide +kernel
theorem dX5_takeFirstSheet_87 : decode cX5_takeFirstSheet 87 = .ok (.iload 4, 2) := by decide +kernel
theorem dX5_takeFirstSheet_89 : decode cX5_takeFirstSheet 89 = .ok (.invokevirtual 80, 3) := by decide +kernel
theorem dX5_takeFirstSheet_92 : decode cX5_takeFirstSheet 92 = .ok (.invokestatic 83, 3) := by decide +kernel
theorem dX5_takeFirstSheet_95 : decode cX5_takeFirstSheet 95 = .ok (.goto 10, 3) := by decide +kernel
theorem dX5_takeFirstSheet_98 : decode cX5_takeFirstSheet 98 = .ok (.aload_n 0, 1) := by decide +kernel
theorem dX5_takeFirstSheet_99 : decode cX5_takeFirstSheet 99 = .ok (.getfield 23, 3) := by decide +kernel
theorem dX5_takeFirstSheet_102 : decode cX5_takeFirstSheet 102 = .ok (.iload 4, 2) := by decide +kernel
theorem dX5_takeFirstSheet_104 : decode cX5_takeFirstSheet 104 = .ok (.iaload, 1) := by decide +kernel
theorem dX5_takeFirstSheet_105 : decode cX5_takeFirstSheet 105 = .ok (.istore 5, 2) := by decide +kernel
theorem dX5_takeFirstSheet_107 : decode cX5_takeFirstSheet 107 = .ok (.iload_n 3, 1) := by decide +kernel
theorem dX5_takeFirstSheet_108 : decode cX5_takeFirstSheet 108 = .ok (.ifCond .ne 19, 3) := by decide +kernel
theorem dX5_takeFirstSheet_111 : decode cX5_takeFirstSheet 111 = .ok (.aload_n 0, 1) := by decide +kernel
theorem dX5_takeFirstSheet_112 : decode cX5_takeFirstSheet 112 = .ok (.getfield 15, 3) := by decide +kernel
theorem dX5_takeFirstSheet_115 : decode cX5_takeFirstSheet 115 = .ok (.iload_n 2, 1) := by decide +kernel
theorem dX5_takeFirstSheet_116 : decode cX5_takeFirstSheet 116 = .ok (.iconst 4, 1) := by decide +kernel
theorem dX5_takeFirstSheet_117 : decode cX5_takeFirstSheet 117 = .ok (.imul, 1) := by decide +kernel
theorem dX5_takeFirstSheet_118 : decode cX5_takeFirstSheet 118 = .ok (.iload 4, 2) := by decide +kernel
theorem dX5_takeFirstSheet_120 : decode cX5_takeFirstSheet 120 = .ok (.iadd, 1) := by decide +kernel
theorem dX5_takeFirstSheet_121 : decode cX5_takeFirstSheet 121 = .ok (.iaload, 1) := by decide +kernel
theorem dX5_takeFirstSheet_122 : decode cX5_takeFirstSheet 122 = .ok (.iload 5, 2) := by decide +kernel
theorem dX5_takeFirstSheet_124 : decode cX5_takeFirstSheet 124 = .ok (.if_icmp .eq 7, 3) := by decide +kernel
theorem dX5_takeFirstSheet_127 : decode cX5_takeFirstSheet 127 = .ok (.iconst 1, 1) := by decide +kernel
theorem dX5_takeFirstSheet_128 : decode cX5_takeFirstSheet 128 = .ok (.goto 4, 3) := by decide +kernel
theorem dX5_takeFirstSheet_131 : decode cX5_takeFirstSheet 131 = .ok (.iconst 0, 1) := by decide +kernel
theorem dX5_takeFirstSheet_132 : decode cX5_takeFirstSheet 132 = .ok (.istore_n 3, 1) := by decide +kernel
theorem dX5_takeFirstSheet_133 : decode cX5_takeFirstSheet 133 = .ok (.aload_n 0, 1) := by decide +kernel
theorem dX5_takeFirstSheet_134 : decode cX5_takeFirstSheet 134 = .ok (.getfield 15, 3) := by decide +kernel
theorem dX5_takeFirstSheet_137 : decode cX5_takeFirstSheet 137 = .ok (.iload_n 2, 1) := by decide +kernel
theorem dX5_takeFirstSheet_138 : decode cX5_takeFirstSheet 138 = .ok (.iconst 4, 1) := by decide +kernel
theorem dX5_takeFirstSheet_139 : decode cX5_takeFirstSheet 139 = .ok (.imul, 1) := by decide +kernel
theorem dX5_takeFirstSheet_140 : decode cX5_takeFirstSheet 140 = .ok (.iload 4, 2) := by decide +kernel
theorem dX5_takeFirstSheet_142 : decode cX5_takeFirstSheet 142 = .ok (.iadd, 1) := by decide +kernel
theorem dX5_takeFirstSheet_143 : decode cX5_takeFirstSheet 143 = .ok (.iload 5, 2) := by decide +kernel
theorem dX5_takeFirstSheet_145 : decode cX5_takeFirstSheet 145 = .ok (.iastore, 1) := by decide +kernel
theorem dX5_takeFirstSheet_146 : decode cX5_takeFirstSheet 146 = .ok (.iinc 4 1, 3) := by decide +kernel
theorem dX5_takeFirstSheet_149 : decode cX5_takeFirstSheet 149 = .ok (.goto (-96), 3) := by decide +kernel
theorem dX5_takeFirstSheet_152 : decode cX5_takeFirstSheet 152 = .ok (.iload_n 3, 1) := by decide +kernel
theorem dX5_takeFirstSheet_153 : decode cX5_takeFirstSheet 153 = .ok (.ireturn, 1) := by decide +kernel
noncomputable def fX5_takeFirstSheet_132 (x2 : Int32) (x4 : Int32) (x5 : Int32) (s0 : Int32) (M : mv_M) : Option (((Int32 × Int32 × Int32) ⊕ Int32) × mv_M) :=
  mv_chk (mv_inb ((x2 * 4) + x4) 1248) <|
  mv_let (mv_si M 44 ((x2 * 4) + x4).toNatClampNeg x5) fun M17 =>
  mv_let (x4 + 1) fun v18 =>
  some (.inl (x2, s0, v18), M17)
set_option maxRecDepth 100000 in
set_option maxHeartbeats 4000000 in
theorem zX5_takeFirstSheet_132 {l : Launch} {d : Nat} {Q : Int32 → mv_M → Prop} (hd : 3 ≤ d) (x2 : Int32) (x4 : Int32) (x5 : Int32) (s0 : Int32) (M : mv_M) (h : mv_ok (fX5_takeFirstSheet_132 x2 x4 x5 s0 M) (mv_pq (fun (s : Int32 × Int32 × Int32) M => mv l mX5_takeFirstSheet d 0 53 [(0, .ref 5), (2, .int s.1), (3, .int s.2.1), (4, .int s.2.2)] [] M (mv_qI Q)) Q)) : mv l mX5_takeFirstSheet d 0 132 [(0, .ref 5), (2, .int x2), (4, .int x4), (5, .int x5)] [.int s0] M (mv_qI Q) := by
  unfold fX5_takeFirstSheet_132 at h
  refine mv_istore_n [(3, .int s0), (0, .ref 5), (2, .int x2), (4, .int x4), (5, .int x5)] dX5_takeFirstSheet_132 (by decide) rfl ?_
  refine mv_aload_n 1 dX5_takeFirstSheet_133 rfl ?_
  refine mv_getR 44 fX5_15 (by decide) rfl rfl rfl dX5_takeFirstSheet_134 ?_
  refine mv_iload_n 2 dX5_takeFirstSheet_137 rfl ?_
  refine mv_iconst 4 dX5_takeFirstSheet_138 (by decide) ?_
  refine mv_imul dX5_takeFirstSheet_139 ?_
  refine mv_iload 3 dX5_takeFirstSheet_140 rfl ?_
  refine mv_iadd dX5_takeFirstSheet_142 ?_
  refine mv_iload 4 dX5_takeFirstSheet_143 rfl ?_
  obtain ⟨hi16, h⟩ := mv_chkE h
  refine mv_ist (by decide) rfl (mv_inE hi16) dX5_takeFirstSheet_145 (fun M17 eM17 => ?_)
  replace h := mv_letE h M17 eM17
  obtain ⟨v18, ev18⟩ : ∃ z : Int32, z = x4 + 1 := ⟨_, rfl⟩
  replace h := mv_letE h v18 ev18
  refine mv_iinc v18 3 [(4, .int v18), (3, .int s0), (0, .ref 5), (2, .int x2), (5, .int x5)] dX5_takeFirstSheet_146 rfl (by rw [ev18]; rfl) (by decide) rfl ?_
  refine mv_goto 53 dX5_takeFirstSheet_149 (by decide) ?_
  refine mv_sub [2, 3, 1, 0] rfl ?_
  exact h
noncomputable def fX5_takeFirstSheet_127 (x2 : Int32) (x4 : Int32) (x5 : Int32) (M : mv_M) : Option (((Int32 × Int32 × Int32) ⊕ Int32) × mv_M) :=
  fX5_takeFirstSheet_132 x2 x4 x5 1 M
set_option maxRecDepth 100000 in
set_option maxHeartbeats 4000000 in
theorem zX5_takeFirstSheet_127 {l : Launch} {d : Nat} {Q : Int32 → mv_M → Prop} (hd : 3 ≤ d) (x2 : Int32) (x4 : Int32) (x5 : Int32) (M : mv_M) (h : mv_ok (fX5_takeFirstSheet_127 x2 x4 x5 M) (mv_pq (fun (s : Int32 × Int32 × Int32) M => mv l mX5_takeFirstSheet d 0 53 [(0, .ref 5), (2, .int s.1), (3, .int s.2.1), (4, .int s.2.2)] [] M (mv_qI Q)) Q)) : mv l mX5_takeFirstSheet d 0 127 [(0, .ref 5), (2, .int x2), (4, .int x4), (5, .int x5)] [] M (mv_qI Q) := by
  unfold fX5_takeFirstSheet_127 at h
  refine mv_iconst 1 dX5_takeFirstSheet_127 (by decide) ?_
  refine mv_goto 132 dX5_takeFirstSheet_128 (by decide) ?_
  refine mv_sub [0, 1, 2, 3] rfl ?_
  exact zX5_takeFirstSheet_132 hd x2 x4 x5 1 M h
noncomputable def fX5_takeFirstSheet_105 (x2 : Int32) (x3 : Int32) (x4 : Int32) (s0 : Int32) (M : mv_M) : Option (((Int32 × Int32 × Int32) ⊕ Int32) × mv_M) :=
  if x3 = 0 then
    mv_chk (mv_inb ((x2 * 4) + x4) 1248) <|
    if (M.1 44 ((x2 * 4) + x4).toNatClampNeg) = s0 then
      fX5_takeFirstSheet_132 x2 x4 s0 0 M
    else
      fX5_takeFirstSheet_127 x2 x4 s0 M
  else
    fX5_takeFirstSheet_127 x2 x4 s0 M
set_option maxRecDepth 100000 in
set_option maxHeartbeats 4000000 in
theorem zX5_takeFirstSheet_105 {l : Launch} {d : Nat} {Q : Int32 → mv_M → Prop} (hd : 3 ≤ d) (x2 : Int32) (x3 : Int32) (x4 : Int32) (s0 : Int32) (M : mv_M) (h : mv_ok (fX5_takeFirstSheet_105 x2 x3 x4 s0 M) (mv_pq (fun (s : Int32 × Int32 × Int32) M => mv l mX5_takeFirstSheet d 0 53 [(0, .ref 5), (2, .int s.1), (3, .int s.2.1), (4, .int s.2.2)] [] M (mv_qI Q)) Q)) : mv l mX5_takeFirstSheet d 0 105 [(0, .ref 5), (2, .int x2), (3, .int x3), (4, .int x4)] [.int s0] M (mv_qI Q) := by
  unfold fX5_takeFirstSheet_105 at h
  refine mv_istore [(5, .int s0), (0, .ref 5), (2, .int x2), (3, .int x3), (4, .int x4)] dX5_takeFirstSheet_105 (by decide) rfl ?_
  refine mv_iload_n 3 dX5_takeFirstSheet_107 rfl ?_
  refine mv_if_ne 127 dX5_takeFirstSheet_108 (by decide) (fun z => ?_) (fun z => ?_)
  · replace h := mv_ifF z h
    refine mv_sub [1, 2, 4, 0] rfl ?_
    exact zX5_takeFirstSheet_127 hd x2 x4 s0 M h
  · replace h := mv_ifT z h
    refine mv_aload_n 1 dX5_takeFirstSheet_111 rfl ?_
    refine mv_getR 44 fX5_15 (by decide) rfl rfl rfl dX5_takeFirstSheet_112 ?_
    refine mv_iload_n 2 dX5_takeFirstSheet_115 rfl ?_
    refine mv_iconst 4 dX5_takeFirstSheet_116 (by decide) ?_
    refine mv_imul dX5_takeFirstSheet_117 ?_
    refine mv_iload 4 dX5_takeFirstSheet_118 rfl ?_
    refine mv_iadd dX5_takeFirstSheet_120 ?_
    obtain ⟨hi15, h⟩ := mv_chkE h
    refine mv_ild (by decide) rfl (mv_inE hi15) dX5_takeFirstSheet_121 ?_
    refine mv_iload 0 dX5_takeFirstSheet_122 rfl ?_
    refine mv_icmp_eq 131 dX5_takeFirstSheet_124 (by decide) (fun z => ?_) (fun z => ?_)
    · replace h := mv_ifT z h
      refine mv_iconst 0 dX5_takeFirstSheet_131 (by decide) ?_
      refine mv_sub [1, 2, 4, 0] rfl ?_
      exact zX5_takeFirstSheet_132 hd x2 x4 s0 0 M h
    · replace h := mv_ifF z h
      refine mv_sub [1, 2, 4, 0] rfl ?_
      exact zX5_takeFirstSheet_127 hd x2 x4 s0 M h
noncomputable def gX5_takeFirstSheet_53 (x2 : Int32) (x3 : Int32) (x4 : Int32) (M : mv_M) : Option (((Int32 × Int32 × Int32) ⊕ Int32) × mv_M) :=
  mv_getp (M.2.2 5 1) fun b6 =>
  mv_chk (mv_inb (M.1 5 2) 12) <|
  if (M.1 (b6 + 2) (M.1 5 2).toNatClampNeg) ≤ x4 then
    mv_chk (mv_bt x3) <|
    some (.inr (x3), M)
  else
    if (M.1 47 (0 : Int32).toNatClampNeg) = 0 then
      mv_chk (mv_inb x4 1344) <|
      fX5_takeFirstSheet_105 x2 x3 x4 (M.1 46 x4.toNatClampNeg) M
    else
      mv_getp (M.2.2 5 1) fun b10 =>
      mv_bind (fX4_nameType b10 (M.1 5 2) x4 M) fun r11 M12 =>
      mv_bind (fX6_allOf r11 M12) fun r13 M14 =>
      fX5_takeFirstSheet_105 x2 x3 x4 r13 M14
noncomputable def fX5_takeFirstSheet_53 (x2 : Int32) (x3 : Int32) (x4 : Int32) (M : mv_M) : Option (Int32 × mv_M) := mv_loop (fun (s : Int32 × Int32 × Int32) M => gX5_takeFirstSheet_53 s.1 s.2.1 s.2.2 M) (x2, x3, x4) M
set_option maxRecDepth 100000 in
set_option maxHeartbeats 4000000 in
theorem zX5_takeFirstSheet_53 {l : Launch} {d : Nat} {Q : Int32 → mv_M → Prop} (hd : 3 ≤ d) (x2 : Int32) (x3 : Int32) (x4 : Int32) (M : mv_M) (h : mv_ok (fX5_takeFirstSheet_53 x2 x3 x4 M) Q) : mv l mX5_takeFirstSheet d 0 53 [(0, .ref 5), (2, .int x2), (3, .int x3), (4, .int x4)] [] M (mv_qI Q) := by
  unfold fX5_takeFirstSheet_53 at h
  refine mv_loopE (A := (fun (s : Int32 × Int32 × Int32) M => mv l mX5_takeFirstSheet d 0 53 [(0, .ref 5), (2, .int s.1), (3, .int s.2.1), (4, .int s.2.2)] [] M (mv_qI Q))) ?_ (x2, x3, x4) M h
  · rintro ⟨x2, x3, x4⟩ M h
    try dsimp only at h
    show mv l mX5_takeFirstSheet d 0 53 [(0, .ref 5), (2, .int x2), (3, .int x3), (4, .int x4)] [] M (mv_qI Q)
    unfold gX5_takeFirstSheet_53 at h
    refine mv_iload 3 dX5_takeFirstSheet_53 rfl ?_
    refine mv_aload_n 0 dX5_takeFirstSheet_55 rfl ?_
    obtain ⟨b6, eb6, hb6, h⟩ := mv_getpE h
    refine mv_getP b6 fX5_33 (by decide) rfl rfl eb6 dX5_takeFirstSheet_56 ?_
    refine mv_getR (b6 + 2) fX5_77 (mv_pN (t := 0) hb6 (by decide)) (by rcases hb6 with rfl | rfl <;> rfl) rfl (by rcases hb6 with rfl | rfl <;> rfl) dX5_takeFirstSheet_59 ?_
    refine mv_aload_n 0 dX5_takeFirstSheet_62 rfl ?_
    refine mv_getI fX5_51 (by decide) rfl rfl dX5_takeFirstSheet_63 ?_
    obtain ⟨hi7, h⟩ := mv_chkE h
    refine mv_ild (mv_pN (t := 2) hb6 (by decide)) (by rcases hb6 with rfl | rfl <;> rfl) (mv_inE hi7) dX5_takeFirstSheet_66 ?_
    refine mv_icmp_ge 152 dX5_takeFirstSheet_67 (by decide) (fun z => ?_) (fun z => ?_)
    · replace h := mv_ifT z h
      refine mv_iload_n 2 dX5_takeFirstSheet_152 rfl ?_
      obtain ⟨hz8, h⟩ := mv_chkE h
      exact mv_zret (mv_btE hz8) rfl dX5_takeFirstSheet_153 ⟨_, rfl, h⟩
    · replace h := mv_ifF z h
      refine mv_aload_n 0 dX5_takeFirstSheet_70 rfl ?_
      refine mv_getR 47 fX5_26 (by decide) rfl rfl rfl dX5_takeFirstSheet_71 ?_
      refine mv_iconst 0 dX5_takeFirstSheet_74 (by decide) ?_
      refine mv_zld (by decide) rfl (mv_inE (by decide)) dX5_takeFirstSheet_75 ?_
      refine mv_if_eq 98 dX5_takeFirstSheet_76 (by decide) (fun z => ?_) (fun z => ?_)
      · replace h := mv_ifT z h
        refine mv_aload_n 0 dX5_takeFirstSheet_98 rfl ?_
        refine mv_getR 46 fX5_23 (by decide) rfl rfl rfl dX5_takeFirstSheet_99 ?_
        refine mv_iload 3 dX5_takeFirstSheet_102 rfl ?_
        obtain ⟨hi9, h⟩ := mv_chkE h
        refine mv_ild (by decide) rfl (mv_inE hi9) dX5_takeFirstSheet_104 ?_
        refine mv_sub [0, 1, 2, 3] rfl ?_
        exact zX5_takeFirstSheet_105 hd x2 x3 x4 (M.1 46 x4.toNatClampNeg) M h
      · replace h := mv_ifF z h
        refine mv_aload_n 0 dX5_takeFirstSheet_79 rfl ?_
        obtain ⟨b10, eb10, hb10, h⟩ := mv_getpE h
        refine mv_getP b10 fX5_33 (by decide) rfl rfl eb10 dX5_takeFirstSheet_80 ?_
        refine mv_aload_n 0 dX5_takeFirstSheet_83 rfl ?_
        refine mv_getI fX5_51 (by decide) rfl rfl dX5_takeFirstSheet_84 ?_
        refine mv_iload 3 dX5_takeFirstSheet_87 rfl ?_
        refine mv_cvI (As := [.int (M.1 5 2), .int x4]) (st := []) okX4_nameType lX5_80 (mv_pN (t := 0) hb10 (by decide)) (by rcases hb10 with rfl | rfl <;> rfl) rfl rfl (Nat.le_of_ble_eq_true rfl) rfl (Nat.le_of_ble_eq_true rfl) dX5_takeFirstSheet_89 (by omega) rfl (zX4_nameType (d := d - 1) (by omega) b10 (M.1 5 2) x4 M hb10 (mv_bindE h)) (fun r11 M12 h => ?_)
        refine mv_csI (As := [.int r11]) (st := []) okX6_allOf lX5_83 rfl (Nat.le_of_ble_eq_true rfl) rfl (Nat.le_of_ble_eq_true rfl) dX5_takeFirstSheet_92 (by omega) rfl (zX6_allOf (d := d - 1) (by omega) r11 M12 (mv_bindE h)) (fun r13 M14 h => ?_)
        refine mv_goto 105 dX5_takeFirstSheet_95 (by decide) ?_
        refine mv_sub [0, 1, 2, 3] rfl ?_
        exact zX5_takeFirstSheet_105 hd x2 x3 x4 r13 M14 h
noncomputable def fX5_takeFirstSheet_37 (x2 : Int32) (s0 : Int32) (M : mv_M) : Option (Int32 × mv_M) :=
  mv_chk (mv_inb x2 312) <|
  mv_let (mv_si M 45 x2.toNatClampNeg (vp_nar .boolean (M.1 47 (0 : Int32).toNatClampNeg))) fun M5 =>
  fX5_takeFirstSheet_53 x2 s0 0 M5
set_option maxRecDepth 100000 in
set_option maxHeartbeats 4000000 in
theorem zX5_takeFirstSheet_37 {l : Launch} {d : Nat} {Q : Int32 → mv_M → Prop} (hd : 3 ≤ d) (x2 : Int32) (s0 : Int32) (M : mv_M) (h : mv_ok (fX5_takeFirstSheet_37 x2 s0 M) Q) : mv l mX5_takeFirstSheet d 0 37 [(0, .ref 5), (2, .int x2)] [.int s0] M (mv_qI Q) := by
  unfold fX5_takeFirstSheet_37 at h
  refine mv_istore_n [(3, .int s0), (0, .ref 5), (2, .int x2)] dX5_takeFirstSheet_37 (by decide) rfl ?_
  refine mv_aload_n 1 dX5_takeFirstSheet_38 rfl ?_
  refine mv_getR 45 fX5_19 (by decide) rfl rfl rfl dX5_takeFirstSheet_39 ?_
  refine mv_iload_n 2 dX5_takeFirstSheet_42 rfl ?_
  refine mv_aload_n 1 dX5_takeFirstSheet_43 rfl ?_
  refine mv_getR 47 fX5_26 (by decide) rfl rfl rfl dX5_takeFirstSheet_44 ?_
  refine mv_iconst 0 dX5_takeFirstSheet_47 (by decide) ?_
  refine mv_zld (by decide) rfl (mv_inE (by decide)) dX5_takeFirstSheet_48 ?_
  obtain ⟨hi4, h⟩ := mv_chkE h
  refine mv_zst (by decide) rfl (mv_inE hi4) dX5_takeFirstSheet_49 (fun M5 eM5 => ?_)
  replace h := mv_letE h M5 eM5
  refine mv_iconst 0 dX5_takeFirstSheet_50 (by decide) ?_
  refine mv_istore [(4, .int 0), (3, .int s0), (0, .ref 5), (2, .int x2)] dX5_takeFirstSheet_51 (by decide) rfl ?_
  refine mv_sub [2, 3, 1, 0] rfl ?_
  exact zX5_takeFirstSheet_53 hd x2 s0 0 M5 h
noncomputable def fX5_takeFirstSheet (a0 : Int32) (M : mv_M) : Option (Int32 × mv_M) :=
  mv_bind (fX5_rowOf (M.1 5 2) a0 M) fun r1 M2 =>
  if r1 = (-1) then
    some (0, M2)
  else
    mv_chk (mv_inb r1 312) <|
    if (M2.1 45 r1.toNatClampNeg) = (M2.1 47 (0 : Int32).toNatClampNeg) then
      fX5_takeFirstSheet_37 r1 0 M2
    else
      fX5_takeFirstSheet_37 r1 1 M2
set_option maxRecDepth 100000 in
set_option maxHeartbeats 4000000 in
theorem zX5_takeFirstSheet {l : Launch} {d : Nat} {Q : Int32 → mv_M → Prop} (hd : 3 ≤ d) (a0 : Int32) (M : mv_M) (h : mv_ok (fX5_takeFirstSheet a0 M) Q) : mv l mX5_takeFirstSheet d 0 0 (lv_args 0 [.ref 5, .int a0]) [] M (mv_qI Q) := by
  unfold fX5_takeFirstSheet at h
  show mv l mX5_takeFirstSheet d 0 0 [(0, .ref 5), (1, .int a0)] [] M (mv_qI Q)
  refine mv_aload_n 0 dX5_takeFirstSheet_0 rfl ?_
  refine mv_aload_n 0 dX5_takeFirstSheet_1 rfl ?_
  refine mv_getI fX5_51 (by decide) rfl rfl dX5_takeFirstSheet_2 ?_
  refine mv_iload_n 1 dX5_takeFirstSheet_5 rfl ?_
  refine mv_cvI (As := [.int (M.1 5 2), .int a0]) (st := []) okX5_rowOf lX5_29 (by decide) rfl rfl rfl (Nat.le_of_ble_eq_true rfl) rfl (Nat.le_of_ble_eq_true rfl) dX5_takeFirstSheet_6 (by omega) rfl (zX5_rowOf (d := d - 1) (by omega) (M.1 5 2) a0 M (mv_bindE h)) (fun r1 M2 h => ?_)
  refine mv_istore_n [(2, .int r1), (0, .ref 5), (1, .int a0)] dX5_takeFirstSheet_9 (by decide) rfl ?_
  refine mv_iload_n 0 dX5_takeFirstSheet_10 rfl ?_
  refine mv_iconst (-1) dX5_takeFirstSheet_11 (by decide) ?_
  refine mv_icmp_ne 17 dX5_takeFirstSheet_12 (by decide) (fun z => ?_) (fun z => ?_)
  · replace h := mv_ifF z h
    refine mv_aload_n 1 dX5_takeFirstSheet_17 rfl ?_
    refine mv_getR 45 fX5_19 (by decide) rfl rfl rfl dX5_takeFirstSheet_18 ?_
    refine mv_iload_n 0 dX5_takeFirstSheet_21 rfl ?_
    obtain ⟨hi3, h⟩ := mv_chkE h
    refine mv_zld (by decide) rfl (mv_inE hi3) dX5_takeFirstSheet_22 ?_
    refine mv_aload_n 1 dX5_takeFirstSheet_23 rfl ?_
    refine mv_getR 47 fX5_26 (by decide) rfl rfl rfl dX5_takeFirstSheet_24 ?_
    refine mv_iconst 0 dX5_takeFirstSheet_27 (by decide) ?_
    refine mv_zld (by decide) rfl (mv_inE (by decide)) dX5_takeFirstSheet_28 ?_
    refine mv_icmp_eq 36 dX5_takeFirstSheet_29 (by decide) (fun z => ?_) (fun z => ?_)
    · replace h := mv_ifT z h
      refine mv_iconst 0 dX5_takeFirstSheet_36 (by decide) ?_
      refine mv_sub [1, 0] rfl ?_
      exact zX5_takeFirstSheet_37 hd r1 0 M2 h
    · replace h := mv_ifF z h
      refine mv_iconst 1 dX5_takeFirstSheet_32 (by decide) ?_
      refine mv_goto 37 dX5_takeFirstSheet_33 (by decide) ?_
      refine mv_sub [1, 0] rfl ?_
      exact zX5_takeFirstSheet_37 hd r1 1 M2 h
  · replace h := mv_ifT z h
    refine mv_iconst 0 dX5_takeFirstSheet_15 (by decide) ?_
    exact mv_zret (by decide) rfl dX5_takeFirstSheet_16 ⟨_, rfl, h⟩
theorem dX5_killAll_0 : decode cX5_killAll 0 = .ok (.iconst 0, 1) := by decide +kernel
theorem dX5_killAll_1 : decode cX5_killAll 1 = .ok (.istore_n 1, 1) := by decide +kernel
theorem dX5_killAll_2 : decode cX5_killAll 2 = .ok (.iload_n 1, 1) := by decide +kernel
theorem dX5_killAll_3 : decode cX5_killAll 3 = .ok (.aload_n 0, 1) := by decide +kernel
theorem dX5_killAll_4 : decode cX5_killAll 4 = .ok (.getfield 33, 3) := by decide +kernel
theorem dX5_killAll_7 : decode cX5_killAll 7 = .ok (.getfield 45, 3) := by decide +kernel
theorem dX5_killAll_10 : decode cX5_killAll 10 = .ok (.if_icmp .ge 56, 3) := by decide +kernel
theorem dX5_killAll_13 : decode cX5_killAll 13 = .ok (.aload_n 0, 1) := by decide +kernel
theorem dX5_killAll_14 : decode cX5_killAll 14 = .ok (.iload_n 1, 1) := by decide +kernel
theorem dX5_killAll_15 : decode cX5_killAll 15 = .ok (.putfield 51, 3) := by decide +kernel
theorem dX5_killAll_18 : decode cX5_killAll 18 = .ok (.aload_n 0, 1) := by decide +kernel
theorem dX5_killAll_19 : decode cX5_killAll 19 = .ok (.getfield 33, 3) := by decide +kernel
theorem dX5_killAll_22 : decode cX5_killAll 22 = .ok (.getfield 54, 3) := by decide +kernel
theorem dX5_killAll_25 : decode cX5_killAll 25 = .ok (.aload_n 0, 1) := by decide +kernel
theorem dX5_killAll_26 : decode cX5_killAll 26 = .ok (.getfield 51, 3) := by decide +kernel
theorem dX5_killAll_29 : decode cX5_killAll 29 = .ok (.iaload, 1) := by decide +kernel
theorem dX5_killAll_30 : decode cX5_killAll 30 = .ok (.invokestatic 57, 3) := by decide +kernel
theorem dX5_killAll_33 : decode cX5_killAll 33 = .ok (.istore_n 2, 1) := by decide +kernel
theorem dX5_killAll_34 : decode cX5_killAll 34 = .ok (.iconst 1, 1) := by decide +kernel
theorem dX5_killAll_35 : decode cX5_killAll 35 = .ok (.istore_n 3, 1) := by decide +kernel
theorem dX5_killAll_36 : decode cX5_killAll 36 = .ok (.iload_n 3, 1) := by decide +kernel
theorem dX5_killAll_37 : decode cX5_killAll 37 = .ok (.iload_n 2, 1) := by decide +kernel
theorem dX5_killAll_38 : decode cX5_killAll 38 = .ok (.if_icmp .ge 22, 3) := by decide +kernel
theorem dX5_killAll_41 : decode cX5_killAll 41 = .ok (.aload_n 0, 1) := by decide +kernel
theorem dX5_killAll_42 : decode cX5_killAll 42 = .ok (.getfield 26, 3) := by decide +kernel
theorem dX5_killAll_45 : decode cX5_killAll 45 = .ok (.iconst 0, 1) := by decide +kernel
theorem dX5_killAll_46 : decode cX5_killAll 46 = .ok (.iconst 1, 1) := by decide +kernel
theorem dX5_killAll_47 : decode cX5_killAll 47 = .ok (.bastore, 1) := by decide +kernel
theorem dX5_killAll_48 : decode cX5_killAll 48 = .ok (.aload_n 0, 1) := by decide +kernel
theorem dX5_killAll_49 : decode cX5_killAll 49 = .ok (.iload_n 3, 1) := by decide +kernel
theorem dX5_killAll_50 : decode cX5_killAll 50 = .ok (.invokevirtual 74, 3) := by decide +kernel
theorem dX5_killAll_53 : decode cX5_killAll 53 = .ok (.pop, 1) := by decide +kernel
theorem dX5_killAll_54 : decode cX5_killAll 54 = .ok (.iinc 3 1, 3) := by decide +kernel
theorem dX5_killAll_57 : decode cX5_killAll 57 = .ok (.goto (-21), 3) := by decide +kernel
theorem dX5_killAll_60 : decode cX5_killAll 60 = .ok (.iinc 1 1, 3) := by decide +kernel
theorem dX5_killAll_63 : decode cX5_killAll 63 = .ok (.goto (-61), 3) := by decide +kernel
theorem dX5_killAll_66 : decode cX5_killAll 66 = .ok (.return_, 1) := by decide +kernel
noncomputable def gX5_killAll_36 (x1 : Int32) (x2 : Int32) (x3 : Int32) (M : mv_M) : Option (((Int32 × Int32 × Int32) ⊕ ((Int32) ⊕ Unit)) × mv_M) :=
  if x2 ≤ x3 then
    mv_let (x1 + 1) fun v7 =>
    some (.inr (.inl v7), M)
  else
    mv_let (mv_si M 47 (0 : Int32).toNatClampNeg (vp_nar .boolean 1)) fun M8 =>
    mv_bind (fX5_takeFirstSheet x3 M8) fun r9 M10 =>
    mv_let (x3 + 1) fun v11 =>
    some (.inl (x1, x2, v11), M10)
noncomputable def fX5_killAll_36 (x1 : Int32) (x2 : Int32) (x3 : Int32) (M : mv_M) : Option (((Int32) ⊕ Unit) × mv_M) := mv_loop (fun (s : Int32 × Int32 × Int32) M => gX5_killAll_36 s.1 s.2.1 s.2.2 M) (x1, x2, x3) M
set_option maxRecDepth 100000 in
set_option maxHeartbeats 4000000 in
theorem zX5_killAll_36 {l : Launch} {d : Nat} {Q : Unit → mv_M → Prop} (hd : 4 ≤ d) (x1 : Int32) (x2 : Int32) (x3 : Int32) (M : mv_M) (h : mv_ok (fX5_killAll_36 x1 x2 x3 M) (mv_pq (fun (s : Int32) M => mv l mX5_killAll d 0 2 [(0, .ref 5), (1, .int s)] [] M (mv_qV Q)) Q)) : mv l mX5_killAll d 0 36 [(0, .ref 5), (1, .int x1), (2, .int x2), (3, .int x3)] [] M (mv_qV Q) := by
  unfold fX5_killAll_36 at h
  refine mv_loopE (A := (fun (s : Int32 × Int32 × Int32) M => mv l mX5_killAll d 0 36 [(0, .ref 5), (1, .int s.1), (2, .int s.2.1), (3, .int s.2.2)] [] M (mv_qV Q))) ?_ (x1, x2, x3) M h
  · rintro ⟨x1, x2, x3⟩ M h
    try dsimp only at h
    show mv l mX5_killAll d 0 36 [(0, .ref 5), (1, .int x1), (2, .int x2), (3, .int x3)] [] M (mv_qV Q)
    unfold gX5_killAll_36 at h
    refine mv_iload_n 3 dX5_killAll_36 rfl ?_
    refine mv_iload_n 2 dX5_killAll_37 rfl ?_
    refine mv_icmp_ge 60 dX5_killAll_38 (by decide) (fun z => ?_) (fun z => ?_)
    · replace h := mv_ifT z h
      obtain ⟨v7, ev7⟩ : ∃ z : Int32, z = x1 + 1 := ⟨_, rfl⟩
      replace h := mv_letE h v7 ev7
      refine mv_iinc v7 1 [(1, .int v7), (0, .ref 5), (2, .int x2), (3, .int x3)] dX5_killAll_60 rfl (by rw [ev7]; rfl) (by decide) rfl ?_
      refine mv_goto 2 dX5_killAll_63 (by decide) ?_
      refine mv_sub [1, 0] rfl ?_
      exact h
    · replace h := mv_ifF z h
      refine mv_aload_n 0 dX5_killAll_41 rfl ?_
      refine mv_getR 47 fX5_26 (by decide) rfl rfl rfl dX5_killAll_42 ?_
      refine mv_iconst 0 dX5_killAll_45 (by decide) ?_
      refine mv_iconst 1 dX5_killAll_46 (by decide) ?_
      refine mv_zst (by decide) rfl (mv_inE (by decide)) dX5_killAll_47 (fun M8 eM8 => ?_)
      replace h := mv_letE h M8 eM8
      refine mv_aload_n 0 dX5_killAll_48 rfl ?_
      refine mv_iload_n 3 dX5_killAll_49 rfl ?_
      refine mv_cvI (As := [.int x3]) (st := []) okX5_takeFirstSheet lX5_74 (by decide) rfl rfl rfl (Nat.le_of_ble_eq_true rfl) rfl (Nat.le_of_ble_eq_true rfl) dX5_killAll_50 (by omega) rfl (zX5_takeFirstSheet (d := d - 1) (by omega) x3 M8 (mv_bindE h)) (fun r9 M10 h => ?_)
      refine mv_pop dX5_killAll_53 rfl ?_
      obtain ⟨v11, ev11⟩ : ∃ z : Int32, z = x3 + 1 := ⟨_, rfl⟩
      replace h := mv_letE h v11 ev11
      refine mv_iinc v11 3 [(3, .int v11), (0, .ref 5), (1, .int x1), (2, .int x2)] dX5_killAll_54 rfl (by rw [ev11]; rfl) (by decide) rfl ?_
      refine mv_goto 36 dX5_killAll_57 (by decide) ?_
      refine mv_sub [1, 2, 3, 0] rfl ?_
      exact h
noncomputable def gX5_killAll_2 (x1 : Int32) (M : mv_M) : Option (((Int32) ⊕ Unit) × mv_M) :=
  mv_getp (M.2.2 5 1) fun b1 =>
  if (M.1 b1 0) ≤ x1 then
    some (.inr (()), M)
  else
    mv_let (mv_si M 5 2 x1) fun M2 =>
    mv_getp (M2.2.2 5 1) fun b3 =>
    mv_chk (mv_inb (M2.1 5 2) 12) <|
    mv_bind (fX6_demandsOf (M2.1 (b3 + 4) (M2.1 5 2).toNatClampNeg) M2) fun r5 M6 =>
    fX5_killAll_36 x1 r5 1 M6
noncomputable def fX5_killAll_2 (x1 : Int32) (M : mv_M) : Option (Unit × mv_M) := mv_loop (fun (s : Int32) M => gX5_killAll_2 s M) x1 M
set_option maxRecDepth 100000 in
set_option maxHeartbeats 4000000 in
theorem zX5_killAll_2 {l : Launch} {d : Nat} {Q : Unit → mv_M → Prop} (hd : 4 ≤ d) (x1 : Int32) (M : mv_M) (h : mv_ok (fX5_killAll_2 x1 M) Q) : mv l mX5_killAll d 0 2 [(0, .ref 5), (1, .int x1)] [] M (mv_qV Q) := by
  unfold fX5_killAll_2 at h
  refine mv_loopE (A := (fun (s : Int32) M => mv l mX5_killAll d 0 2 [(0, .ref 5), (1, .int s)] [] M (mv_qV Q))) ?_ x1 M h
  · intro x1 M h
    try dsimp only at h
    show mv l mX5_killAll d 0 2 [(0, .ref 5), (1, .int x1)] [] M (mv_qV Q)
    unfold gX5_killAll_2 at h
    refine mv_iload_n 1 dX5_killAll_2 rfl ?_
    refine mv_aload_n 0 dX5_killAll_3 rfl ?_
    obtain ⟨b1, eb1, hb1, h⟩ := mv_getpE h
    refine mv_getP b1 fX5_33 (by decide) rfl rfl eb1 dX5_killAll_4 ?_
    refine mv_getI fX5_45 (mv_pN (t := 0) hb1 (by decide)) (by rcases hb1 with rfl | rfl <;> rfl) rfl dX5_killAll_7 ?_
    refine mv_icmp_ge 66 dX5_killAll_10 (by decide) (fun z => ?_) (fun z => ?_)
    · replace h := mv_ifT z h
      exact mv_vret rfl dX5_killAll_66 ⟨rfl, h⟩
    · replace h := mv_ifF z h
      refine mv_aload_n 0 dX5_killAll_13 rfl ?_
      refine mv_iload_n 1 dX5_killAll_14 rfl ?_
      refine mv_putI fX5_51 (by decide) rfl rfl dX5_killAll_15 (fun M2 eM2 => ?_)
      replace h := mv_letE h M2 eM2
      refine mv_aload_n 0 dX5_killAll_18 rfl ?_
      obtain ⟨b3, eb3, hb3, h⟩ := mv_getpE h
      refine mv_getP b3 fX5_33 (by decide) rfl rfl eb3 dX5_killAll_19 ?_
      refine mv_getR (b3 + 4) fX5_54 (mv_pN (t := 0) hb3 (by decide)) (by rcases hb3 with rfl | rfl <;> rfl) rfl (by rcases hb3 with rfl | rfl <;> rfl) dX5_killAll_22 ?_
      refine mv_aload_n 0 dX5_killAll_25 rfl ?_
      refine mv_getI fX5_51 (by decide) rfl rfl dX5_killAll_26 ?_
      obtain ⟨hi4, h⟩ := mv_chkE h
      refine mv_ild (mv_pN (t := 4) hb3 (by decide)) (by rcases hb3 with rfl | rfl <;> rfl) (mv_inE hi4) dX5_killAll_29 ?_
      refine mv_csI (As := [.int (M2.1 (b3 + 4) (M2.1 5 2).toNatClampNeg)]) (st := []) okX6_demandsOf lX5_57 rfl (Nat.le_of_ble_eq_true rfl) rfl (Nat.le_of_ble_eq_true rfl) dX5_killAll_30 (by omega) rfl (zX6_demandsOf (d := d - 1) (by omega) (M2.1 (b3 + 4) (M2.1 5 2).toNatClampNeg) M2 (mv_bindE h)) (fun r5 M6 h => ?_)
      refine mv_istore_n [(2, .int r5), (0, .ref 5), (1, .int x1)] dX5_killAll_33 (by decide) rfl ?_
      refine mv_iconst 1 dX5_killAll_34 (by decide) ?_
      refine mv_istore_n [(3, .int 1), (2, .int r5), (0, .ref 5), (1, .int x1)] dX5_killAll_35 (by decide) rfl ?_
      refine mv_sub [2, 3, 1, 0] rfl ?_
      exact zX5_killAll_36 hd x1 r5 1 M6 h
noncomputable def fX5_killAll (M : mv_M) : Option (Unit × mv_M) :=
  fX5_killAll_2 0 M
set_option maxRecDepth 100000 in
set_option maxHeartbeats 4000000 in
theorem zX5_killAll {l : Launch} {d : Nat} {Q : Unit → mv_M → Prop} (hd : 4 ≤ d) (M : mv_M) (h : mv_ok (fX5_killAll M) Q) : mv l mX5_killAll d 0 0 (lv_args 0 [.ref 5]) [] M (mv_qV Q) := by
  unfold fX5_killAll at h
  show mv l mX5_killAll d 0 0 [(0, .ref 5)] [] M (mv_qV Q)
  refine mv_iconst 0 dX5_killAll_0 (by decide) ?_
  refine mv_istore_n [(1, .int 0), (0, .ref 5)] dX5_killAll_1 (by decide) rfl ?_
  refine mv_sub [1, 0] rfl ?_
  exact zX5_killAll_2 hd 0 M h
theorem dX5_takeEither_0 : decode cX5_takeEither 0 = .ok (.iload_n 1, 1) := by decide +kernel
theorem dX5_takeEither_1 : decode cX5_takeEither 1 = .ok (.bipush 16, 2) := by decide +kernel
theorem dX5_takeEither_3 : decode cX5_takeEither 3 = .ok (.imul, 1) := by decide +kernel
theorem dX5_takeEither_4 : decode cX5_takeEither 4 = .ok (.istore_n 2, 1) := by decide +kernel
theorem dX5_takeEither_5 : decode cX5_takeEither 5 = .ok (.aload_n 0, 1) := by decide +kernel
theorem dX5_takeEither_6 : decode cX5_takeEither 6 = .ok (.getfield 26, 3) := by decide +kernel
theorem dX5_takeEither_9 : decode cX5_takeEither 9 = .ok (.iload_n 1, 1) := by decide +kernel
theorem dX5_takeEither_10 : decode cX5_takeEither 10 = .ok (.iconst 1, 1) := by decide +kernel
theorem dX5_takeEither_11 : decode cX5_takeEither 11 = .ok (.iadd, 1) := by decide +kernel
theorem dX5_takeEither_12 : decode cX5_takeEither 12 = .ok (.baload, 1) := by decide +kernel
theorem dX5_takeEither_13 : decode cX5_takeEither 13 = .ok (.ifCond .eq 4, 3) := by decide +kernel
theorem dX5_takeEither_16 : decode cX5_takeEither 16 = .ok (.return_, 1) := by decide +kernel
theorem dX5_takeEither_17 : decode cX5_takeEither 17 = .ok (.iconst 0, 1) := by decide +kernel
theorem dX5_takeEither_18 : decode cX5_takeEither 18 = .ok (.istore_n 3, 1) := by decide +kernel
theorem dX5_takeEither_19 : decode cX5_takeEither 19 = .ok (.iload_n 3, 1) := by decide +kernel
theorem dX5_takeEither_20 : decode cX5_takeEither 20 = .ok (.aload_n 0, 1) := by decide +kernel
theorem dX5_takeEither_21 : decode cX5_takeEither 21 = .ok (.getfield 33, 3) := by decide +kernel
theorem dX5_takeEither_24 : decode cX5_takeEither 24 = .ok (.getfield 100, 3) := by decide +kernel
theorem dX5_takeEither_27 : decode cX5_takeEither 27 = .ok (.aload_n 0, 1) := by decide +kernel
theorem dX5_takeEither_28 : decode cX5_takeEither 28 = .ok (.getfield 51, 3) := by decide +kernel
theorem dX5_takeEither_31 : decode cX5_takeEither 31 = .ok (.iaload, 1) := by decide +kernel
theorem dX5_takeEither_32 : decode cX5_takeEither 32 = .ok (.if_icmp .ge 73, 3) := by decide +kernel
theorem dX5_takeEither_35 : decode cX5_takeEither 35 = .ok (.aload_n 0, 1) := by decide +kernel
theorem dX5_takeEither_36 : decode cX5_takeEither 36 = .ok (.getfield 23, 3) := by decide +kernel
theorem dX5_takeEither_39 : decode cX5_takeEither 39 = .ok (.iload_n 2, 1) := by decide +kernel
theorem dX5_takeEither_40 : decode cX5_takeEither 40 = .ok (.bipush 16, 2) := by decide +kernel
theorem dX5_takeEither_42 : decode cX5_takeEither 42 = .ok (.iadd, 1) := by decide +kernel
theorem dX5_takeEither_43 : decode cX5_takeEither 43 = .ok (.iload_n 3, 1) := by decide +kernel
theorem dX5_takeEither_44 : decode cX5_takeEither 44 = .ok (.iadd, 1) := by decide +kernel
theorem dX5_takeEither_45 : decode cX5_takeEither 45 = .ok (.iaload, 1) := by decide +kernel
theorem dX5_takeEither_46 : decode cX5_takeEither 46 = .ok (.istore 4, 2) := by decide +kernel
theorem dX5_takeEither_48 : decode cX5_takeEither 48 = .ok (.aload_n 0, 1) := by decide +kernel
theorem dX5_takeEither_49 : decode cX5_takeEither 49 = .ok (.getfield 23, 3) := by decide +kernel
theorem dX5_takeEither_52 : decode cX5_takeEither 52 = .ok (.iload_n 2, 1) := by decide +kernel
theorem dX5_takeEither_53 : decode cX5_takeEither 53 = .ok (.iload_n 3, 1) := by decide +kernel
theorem dX5_takeEither_54 : decode cX5_takeEither 54 = .ok (.iadd, 1) := by decide +kernel
theorem dX5_takeEither_55 : decode cX5_takeEither 55 = .ok (.iaload, 1) := by decide +kernel
theorem dX5_takeEither_56 : decode cX5_takeEither 56 = .ok (.istore 5, 2) := by decide +kernel
theorem dX5_takeEither_58 : decode cX5_takeEither 58 = .ok (.aload_n 0, 1) := by decide +kernel
theorem dX5_takeEither_59 : decode cX5_takeEither 59 = .ok (.getfield 23, 3) := by decide +kernel
theorem dX5_takeEither_62 : decode cX5_takeEither 62 = .ok (.iload_n 2, 1) := by decide +kernel
theorem dX5_takeEither_63 : decode cX5_takeEither 63 = .ok (.iload_n 3, 1) := by decide +kernel
theorem dX5_takeEither_64 : decode cX5_takeEither 64 = .ok (.iadd, 1) := by decide +kernel
theorem dX5_takeEither_65 : decode cX5_takeEither 65 = .ok (.aload_n 0, 1) := by decide +kernel
theorem dX5_takeEither_66 : decode cX5_takeEither 66 = .ok (.getfield 26, 3) := by decide +kernel
theorem dX5_takeEither_69 : decode cX5_takeEither 69 = .ok (.iload_n 1, 1) := by decide +kernel
theorem dX5_takeEither_70 : decode cX5_takeEither 70 = .ok (.baload, 1) := by decide +kernel
theorem dX5_takeEither_71 : decode cX5_takeEither 71 = .ok (.ifCond .eq 8, 3) := by decide +kernel
theorem dX5_takeEither_74 : decode cX5_takeEither 74 = .ok (.iload 4, 2) := by decide +kernel
theorem dX5_takeEither_76 : decode cX5_takeEither 76 = .ok (.goto 22, 3) := by decide +kernel
theorem dX5_takeEither_79 : decode cX5_takeEither 79 = .ok (.aload_n 0, 1) := by decide +kernel
theorem dX5_takeEither_80 : decode cX5_takeEither 80 = .ok (.getfield 33, 3) := by decide +kernel
theorem dX5_takeEither_83 : decode cX5_takeEither 83 = .ok (.aload_n 0, 1) := by decide +kernel
theorem dX5_takeEither_84 : decode cX5_takeEither 84 = .ok (.getfield 51, 3) := by decide +kernel
theorem dX5_takeEither_87 : decode cX5_takeEither 87 = .ok (.iload_n 3, 1) := by decide +kernel
theorem dX5_takeEither_88 : decode cX5_takeEither 88 = .ok (.invokevirtual 80, 3) := by decide +kernel
theorem dX5_takeEither_91 : decode cX5_takeEither 91 = .ok (.iload 5, 2) := by decide +kernel
theorem dX5_takeEither_93 : decode cX5_takeEither 93 = .ok (.iload 4, 2) := by decide +kernel
theorem dX5_takeEither_95 : decode cX5_takeEither 95 = .ok (.invokestatic 94, 3) := by decide +kernel
theorem dX5_takeEither_98 : decode cX5_takeEither 98 = .ok (.iastore, 1) := by decide +kernel
theorem dX5_takeEither_99 : decode cX5_takeEither 99 = .ok (.iinc 3 1, 3) := by decide +kernel
theorem dX5_takeEither_102 : decode cX5_takeEither 102 = .ok (.goto (-83), 3) := by decide +kernel
theorem dX5_takeEither_105 : decode cX5_takeEither 105 = .ok (.aload_n 0, 1) := by decide +kernel
theorem dX5_takeEither_106 : decode cX5_takeEither 106 = .ok (.getfield 26, 3) := by decide +kernel
theorem dX5_takeEither_109 : decode cX5_takeEither 109 = .ok (.iload_n 1, 1) := by decide +kernel
theorem dX5_takeEither_110 : decode cX5_takeEither 110 = .ok (.iconst 0, 1) := by decide +kernel
theorem dX5_takeEither_111 : decode cX5_takeEither 111 = .ok (.bastore, 1) := by decide +kernel
theorem dX5_takeEither_112 : decode cX5_takeEither 112 = .ok (.return_, 1) := by decide +kernel
noncomputable def fX5_takeEither_98 (x1 : Int32) (x2 : Int32) (x3 : Int32) (s0 : Int32) (s1 : Int32) (M : mv_M) : Option (((Int32 × Int32 × Int32) ⊕ Unit) × mv_M) :=
  mv_chk (mv_inb s1 1344) <|
  mv_let (mv_si M 46 s1.toNatClampNeg s0) fun M18 =>
  mv_let (x3 + 1) fun v19 =>
  some (.inl (x1, x2, v19), M18)
set_option maxRecDepth 100000 in
set_option maxHeartbeats 4000000 in
theorem zX5_takeEither_98 {l : Launch} {d : Nat} {Q : Unit → mv_M → Prop} (hd : 16 ≤ d) (x1 : Int32) (x2 : Int32) (x3 : Int32) (s0 : Int32) (s1 : Int32) (M : mv_M) (h : mv_ok (fX5_takeEither_98 x1 x2 x3 s0 s1 M) (mv_pq (fun (s : Int32 × Int32 × Int32) M => mv l mX5_takeEither d 0 19 [(0, .ref 5), (1, .int s.1), (2, .int s.2.1), (3, .int s.2.2)] [] M (mv_qV Q)) Q)) : mv l mX5_takeEither d 0 98 [(0, .ref 5), (1, .int x1), (2, .int x2), (3, .int x3)] [.int s0, .int s1, .ref 46] M (mv_qV Q) := by
  unfold fX5_takeEither_98 at h
  obtain ⟨hi17, h⟩ := mv_chkE h
  refine mv_ist (by decide) rfl (mv_inE hi17) dX5_takeEither_98 (fun M18 eM18 => ?_)
  replace h := mv_letE h M18 eM18
  obtain ⟨v19, ev19⟩ : ∃ z : Int32, z = x3 + 1 := ⟨_, rfl⟩
  replace h := mv_letE h v19 ev19
  refine mv_iinc v19 3 [(3, .int v19), (0, .ref 5), (1, .int x1), (2, .int x2)] dX5_takeEither_99 rfl (by rw [ev19]; rfl) (by decide) rfl ?_
  refine mv_goto 19 dX5_takeEither_102 (by decide) ?_
  refine mv_sub [1, 2, 3, 0] rfl ?_
  exact h
noncomputable def gX5_takeEither_19 (x1 : Int32) (x2 : Int32) (x3 : Int32) (M : mv_M) : Option (((Int32 × Int32 × Int32) ⊕ Unit) × mv_M) :=
  mv_getp (M.2.2 5 1) fun b3 =>
  mv_chk (mv_inb (M.1 5 2) 12) <|
  if (M.1 (b3 + 3) (M.1 5 2).toNatClampNeg) ≤ x3 then
    mv_chk (mv_inb x1 84) <|
    mv_let (mv_si M 47 x1.toNatClampNeg (vp_nar .boolean 0)) fun M6 =>
    some (.inr (()), M6)
  else
    mv_chk (mv_inb ((x2 + 16) + x3) 1344) <|
    mv_let (M.1 46 ((x2 + 16) + x3).toNatClampNeg) fun v8 =>
    mv_chk (mv_inb (x2 + x3) 1344) <|
    mv_let (M.1 46 (x2 + x3).toNatClampNeg) fun v10 =>
    mv_chk (mv_inb x1 84) <|
    if (M.1 47 x1.toNatClampNeg) = 0 then
      mv_getp (M.2.2 5 1) fun b12 =>
      mv_bind (fX4_nameType b12 (M.1 5 2) x3 M) fun r13 M14 =>
      mv_bind (tX6_either r13 v10 v8 M14) fun r15 M16 =>
      fX5_takeEither_98 x1 x2 x3 r15 (x2 + x3) M16
    else
      fX5_takeEither_98 x1 x2 x3 v8 (x2 + x3) M
noncomputable def fX5_takeEither_19 (x1 : Int32) (x2 : Int32) (x3 : Int32) (M : mv_M) : Option (Unit × mv_M) := mv_loop (fun (s : Int32 × Int32 × Int32) M => gX5_takeEither_19 s.1 s.2.1 s.2.2 M) (x1, x2, x3) M
set_option maxRecDepth 100000 in
set_option maxHeartbeats 4000000 in
theorem zX5_takeEither_19 {l : Launch} {d : Nat} {Q : Unit → mv_M → Prop} (hd : 16 ≤ d) (x1 : Int32) (x2 : Int32) (x3 : Int32) (M : mv_M) (h : mv_ok (fX5_takeEither_19 x1 x2 x3 M) Q) : mv l mX5_takeEither d 0 19 [(0, .ref 5), (1, .int x1), (2, .int x2), (3, .int x3)] [] M (mv_qV Q) := by
  unfold fX5_takeEither_19 at h
  refine mv_loopE (A := (fun (s : Int32 × Int32 × Int32) M => mv l mX5_takeEither d 0 19 [(0, .ref 5), (1, .int s.1), (2, .int s.2.1), (3, .int s.2.2)] [] M (mv_qV Q))) ?_ (x1, x2, x3) M h
  · rintro ⟨x1, x2, x3⟩ M h
    try dsimp only at h
    show mv l mX5_takeEither d 0 19 [(0, .ref 5), (1, .int x1), (2, .int x2), (3, .int x3)] [] M (mv_qV Q)
    unfold gX5_takeEither_19 at h
    refine mv_iload_n 3 dX5_takeEither_19 rfl ?_
    refine mv_aload_n 0 dX5_takeEither_20 rfl ?_
    obtain ⟨b3, eb3, hb3, h⟩ := mv_getpE h
    refine mv_getP b3 fX5_33 (by decide) rfl rfl eb3 dX5_takeEither_21 ?_
    refine mv_getR (b3 + 3) fX5_100 (mv_pN (t := 0) hb3 (by decide)) (by rcases hb3 with rfl | rfl <;> rfl) rfl (by rcases hb3 with rfl | rfl <;> rfl) dX5_takeEither_24 ?_
    refine mv_aload_n 0 dX5_takeEither_27 rfl ?_
    refine mv_getI fX5_51 (by decide) rfl rfl dX5_takeEither_28 ?_
    obtain ⟨hi4, h⟩ := mv_chkE h
    refine mv_ild (mv_pN (t := 3) hb3 (by decide)) (by rcases hb3 with rfl | rfl <;> rfl) (mv_inE hi4) dX5_takeEither_31 ?_
    refine mv_icmp_ge 105 dX5_takeEither_32 (by decide) (fun z => ?_) (fun z => ?_)
    · replace h := mv_ifT z h
      refine mv_aload_n 0 dX5_takeEither_105 rfl ?_
      refine mv_getR 47 fX5_26 (by decide) rfl rfl rfl dX5_takeEither_106 ?_
      refine mv_iload_n 1 dX5_takeEither_109 rfl ?_
      refine mv_iconst 0 dX5_takeEither_110 (by decide) ?_
      obtain ⟨hi5, h⟩ := mv_chkE h
      refine mv_zst (by decide) rfl (mv_inE hi5) dX5_takeEither_111 (fun M6 eM6 => ?_)
      replace h := mv_letE h M6 eM6
      exact mv_vret rfl dX5_takeEither_112 ⟨rfl, h⟩
    · replace h := mv_ifF z h
      refine mv_aload_n 0 dX5_takeEither_35 rfl ?_
      refine mv_getR 46 fX5_23 (by decide) rfl rfl rfl dX5_takeEither_36 ?_
      refine mv_iload_n 2 dX5_takeEither_39 rfl ?_
      refine mv_bipush 16 dX5_takeEither_40 (by decide) ?_
      refine mv_iadd dX5_takeEither_42 ?_
      refine mv_iload_n 3 dX5_takeEither_43 rfl ?_
      refine mv_iadd dX5_takeEither_44 ?_
      obtain ⟨hi7, h⟩ := mv_chkE h
      refine mv_ild (by decide) rfl (mv_inE hi7) dX5_takeEither_45 ?_
      refine mv_topi (fun v8 ev8 => ?_)
      replace h := mv_letE h v8 ev8
      refine mv_istore [(4, .int v8), (0, .ref 5), (1, .int x1), (2, .int x2), (3, .int x3)] dX5_takeEither_46 (by decide) rfl ?_
      refine mv_aload_n 1 dX5_takeEither_48 rfl ?_
      refine mv_getR 46 fX5_23 (by decide) rfl rfl rfl dX5_takeEither_49 ?_
      refine mv_iload_n 3 dX5_takeEither_52 rfl ?_
      refine mv_iload_n 4 dX5_takeEither_53 rfl ?_
      refine mv_iadd dX5_takeEither_54 ?_
      obtain ⟨hi9, h⟩ := mv_chkE h
      refine mv_ild (by decide) rfl (mv_inE hi9) dX5_takeEither_55 ?_
      refine mv_topi (fun v10 ev10 => ?_)
      replace h := mv_letE h v10 ev10
      refine mv_istore [(5, .int v10), (4, .int v8), (0, .ref 5), (1, .int x1), (2, .int x2), (3, .int x3)] dX5_takeEither_56 (by decide) rfl ?_
      refine mv_aload_n 2 dX5_takeEither_58 rfl ?_
      refine mv_getR 46 fX5_23 (by decide) rfl rfl rfl dX5_takeEither_59 ?_
      refine mv_iload_n 4 dX5_takeEither_62 rfl ?_
      refine mv_iload_n 5 dX5_takeEither_63 rfl ?_
      refine mv_iadd dX5_takeEither_64 ?_
      refine mv_aload_n 2 dX5_takeEither_65 rfl ?_
      refine mv_getR 47 fX5_26 (by decide) rfl rfl rfl dX5_takeEither_66 ?_
      refine mv_iload_n 3 dX5_takeEither_69 rfl ?_
      obtain ⟨hi11, h⟩ := mv_chkE h
      refine mv_zld (by decide) rfl (mv_inE hi11) dX5_takeEither_70 ?_
      refine mv_if_eq 79 dX5_takeEither_71 (by decide) (fun z => ?_) (fun z => ?_)
      · replace h := mv_ifT z h
        refine mv_aload_n 2 dX5_takeEither_79 rfl ?_
        obtain ⟨b12, eb12, hb12, h⟩ := mv_getpE h
        refine mv_getP b12 fX5_33 (by decide) rfl rfl eb12 dX5_takeEither_80 ?_
        refine mv_aload_n 2 dX5_takeEither_83 rfl ?_
        refine mv_getI fX5_51 (by decide) rfl rfl dX5_takeEither_84 ?_
        refine mv_iload_n 5 dX5_takeEither_87 rfl ?_
        refine mv_cvI (As := [.int (M.1 5 2), .int x3]) (st := [.int (x2 + x3), .ref 46]) okX4_nameType lX5_80 (mv_pN (t := 0) hb12 (by decide)) (by rcases hb12 with rfl | rfl <;> rfl) rfl rfl (Nat.le_of_ble_eq_true rfl) rfl (Nat.le_of_ble_eq_true rfl) dX5_takeEither_88 (by omega) rfl (zX4_nameType (d := d - 1) (by omega) b12 (M.1 5 2) x3 M hb12 (mv_bindE h)) (fun r13 M14 h => ?_)
        refine mv_iload 0 dX5_takeEither_91 rfl ?_
        refine mv_iload 1 dX5_takeEither_93 rfl ?_
        refine mv_csI (As := [.int r13, .int v10, .int v8]) (st := [.int (x2 + x3), .ref 46]) okX6_either lX5_94 rfl (Nat.le_of_ble_eq_true rfl) rfl (Nat.le_of_ble_eq_true rfl) dX5_takeEither_95 (by omega) rfl (ztX6_either (d := d - 1) (by omega) r13 v10 v8 M14 (mv_bindE h)) (fun r15 M16 h => ?_)
        refine mv_sub [2, 3, 4, 5] rfl ?_
        exact zX5_takeEither_98 hd x1 x2 x3 r15 (x2 + x3) M16 h
      · replace h := mv_ifF z h
        refine mv_iload 1 dX5_takeEither_74 rfl ?_
        refine mv_goto 98 dX5_takeEither_76 (by decide) ?_
        refine mv_sub [2, 3, 4, 5] rfl ?_
        exact zX5_takeEither_98 hd x1 x2 x3 v8 (x2 + x3) M h
noncomputable def fX5_takeEither (a0 : Int32) (M : mv_M) : Option (Unit × mv_M) :=
  mv_let (a0 * 16) fun v1 =>
  mv_chk (mv_inb (a0 + 1) 84) <|
  if (M.1 47 (a0 + 1).toNatClampNeg) = 0 then
    fX5_takeEither_19 a0 v1 0 M
  else
    some ((), M)
set_option maxRecDepth 100000 in
set_option maxHeartbeats 4000000 in
theorem zX5_takeEither {l : Launch} {d : Nat} {Q : Unit → mv_M → Prop} (hd : 16 ≤ d) (a0 : Int32) (M : mv_M) (h : mv_ok (fX5_takeEither a0 M) Q) : mv l mX5_takeEither d 0 0 (lv_args 0 [.ref 5, .int a0]) [] M (mv_qV Q) := by
  unfold fX5_takeEither at h
  show mv l mX5_takeEither d 0 0 [(0, .ref 5), (1, .int a0)] [] M (mv_qV Q)
  refine mv_iload_n 1 dX5_takeEither_0 rfl ?_
  refine mv_bipush 16 dX5_takeEither_1 (by decide) ?_
  refine mv_imul dX5_takeEither_3 ?_
  refine mv_topi (fun v1 ev1 => ?_)
  replace h := mv_letE h v1 ev1
  refine mv_istore_n [(2, .int v1), (0, .ref 5), (1, .int a0)] dX5_takeEither_4 (by decide) rfl ?_
  refine mv_aload_n 1 dX5_takeEither_5 rfl ?_
  refine mv_getR 47 fX5_26 (by decide) rfl rfl rfl dX5_takeEither_6 ?_
  refine mv_iload_n 2 dX5_takeEither_9 rfl ?_
  refine mv_iconst 1 dX5_takeEither_10 (by decide) ?_
  refine mv_iadd dX5_takeEither_11 ?_
  obtain ⟨hi2, h⟩ := mv_chkE h
  refine mv_zld (by decide) rfl (mv_inE hi2) dX5_takeEither_12 ?_
  refine mv_if_eq 17 dX5_takeEither_13 (by decide) (fun z => ?_) (fun z => ?_)
  · replace h := mv_ifT z h
    refine mv_iconst 0 dX5_takeEither_17 (by decide) ?_
    refine mv_istore_n [(3, .int 0), (2, .int v1), (0, .ref 5), (1, .int a0)] dX5_takeEither_18 (by decide) rfl ?_
    refine mv_sub [2, 3, 1, 0] rfl ?_
    exact zX5_takeEither_19 hd a0 v1 0 M h
  · replace h := mv_ifF z h
    exact mv_vret rfl dX5_takeEither_16 ⟨rfl, h⟩
theorem dX5_onSheet_0 : decode cX5_onSheet 0 = .ok (.aload_n 0, 1) := by decide +kernel
theorem dX5_onSheet_1 : decode cX5_onSheet 1 = .ok (.getfield 33, 3) := by decide +kernel
theorem dX5_onSheet_4 : decode cX5_onSheet 4 = .ok (.aload_n 0, 1) := by decide +kernel
theorem dX5_onSheet_5 : decode cX5_onSheet 5 = .ok (.getfield 51, 3) := by decide +kernel
theorem dX5_onSheet_8 : decode cX5_onSheet 8 = .ok (.iload_n 2, 1) := by decide +kernel
theorem dX5_onSheet_9 : decode cX5_onSheet 9 = .ok (.invokevirtual 115, 3) := by decide +kernel
theorem dX5_onSheet_12 : decode cX5_onSheet 12 = .ok (.ifCond .eq 17, 3) := by decide +kernel
theorem dX5_onSheet_15 : decode cX5_onSheet 15 = .ok (.aload_n 0, 1) := by decide +kernel
theorem dX5_onSheet_16 : decode cX5_onSheet 16 = .ok (.getfield 23, 3) := by decide +kernel
theorem dX5_onSheet_19 : decode cX5_onSheet 19 = .ok (.iload_n 1, 1) := by decide +kernel
theorem dX5_onSheet_20 : decode cX5_onSheet 20 = .ok (.bipush 16, 2) := by decide +kernel
theorem dX5_onSheet_22 : decode cX5_onSheet 22 = .ok (.imul, 1) := by decide +kernel
theorem dX5_onSheet_23 : decode cX5_onSheet 23 = .ok (.iload_n 2, 1) := by decide +kernel
theorem dX5_onSheet_24 : decode cX5_onSheet 24 = .ok (.iadd, 1) := by decide +kernel
theorem dX5_onSheet_25 : decode cX5_onSheet 25 = .ok (.iaload, 1) := by decide +kernel
theorem dX5_onSheet_26 : decode cX5_onSheet 26 = .ok (.goto 4, 3) := by decide +kernel
theorem dX5_onSheet_29 : decode cX5_onSheet 29 = .ok (.iconst 0, 1) := by decide +kernel
theorem dX5_onSheet_30 : decode cX5_onSheet 30 = .ok (.ireturn, 1) := by decide +kernel
noncomputable def fX5_onSheet (a0 : Int32) (a1 : Int32) (M : mv_M) : Option (Int32 × mv_M) :=
  mv_getp (M.2.2 5 1) fun b1 =>
  mv_bind (fX4_hasName b1 (M.1 5 2) a1 M) fun r2 M3 =>
  if r2 = 0 then
    some (0, M3)
  else
    mv_chk (mv_inb ((a0 * 16) + a1) 1344) <|
    some (M3.1 46 ((a0 * 16) + a1).toNatClampNeg, M3)
set_option maxRecDepth 100000 in
set_option maxHeartbeats 4000000 in
theorem zX5_onSheet {l : Launch} {d : Nat} {Q : Int32 → mv_M → Prop} (hd : 2 ≤ d) (a0 : Int32) (a1 : Int32) (M : mv_M) (h : mv_ok (fX5_onSheet a0 a1 M) Q) : mv l mX5_onSheet d 0 0 (lv_args 0 [.ref 5, .int a0, .int a1]) [] M (mv_qI Q) := by
  unfold fX5_onSheet at h
  show mv l mX5_onSheet d 0 0 [(0, .ref 5), (1, .int a0), (2, .int a1)] [] M (mv_qI Q)
  refine mv_aload_n 0 dX5_onSheet_0 rfl ?_
  obtain ⟨b1, eb1, hb1, h⟩ := mv_getpE h
  refine mv_getP b1 fX5_33 (by decide) rfl rfl eb1 dX5_onSheet_1 ?_
  refine mv_aload_n 0 dX5_onSheet_4 rfl ?_
  refine mv_getI fX5_51 (by decide) rfl rfl dX5_onSheet_5 ?_
  refine mv_iload_n 2 dX5_onSheet_8 rfl ?_
  refine mv_cvI (As := [.int (M.1 5 2), .int a1]) (st := []) okX4_hasName lX5_115 (mv_pN (t := 0) hb1 (by decide)) (by rcases hb1 with rfl | rfl <;> rfl) rfl rfl (Nat.le_of_ble_eq_true rfl) rfl (Nat.le_of_ble_eq_true rfl) dX5_onSheet_9 (by omega) rfl (zX4_hasName (d := d - 1) (by omega) b1 (M.1 5 2) a1 M hb1 (mv_bindE h)) (fun r2 M3 h => ?_)
  refine mv_if_eq 29 dX5_onSheet_12 (by decide) (fun z => ?_) (fun z => ?_)
  · replace h := mv_ifT z h
    refine mv_iconst 0 dX5_onSheet_29 (by decide) ?_
    exact mv_iret rfl dX5_onSheet_30 ⟨_, rfl, h⟩
  · replace h := mv_ifF z h
    refine mv_aload_n 0 dX5_onSheet_15 rfl ?_
    refine mv_getR 46 fX5_23 (by decide) rfl rfl rfl dX5_onSheet_16 ?_
    refine mv_iload_n 1 dX5_onSheet_19 rfl ?_
    refine mv_bipush 16 dX5_onSheet_20 (by decide) ?_
    refine mv_imul dX5_onSheet_22 ?_
    refine mv_iload_n 2 dX5_onSheet_23 rfl ?_
    refine mv_iadd dX5_onSheet_24 ?_
    obtain ⟨hi4, h⟩ := mv_chkE h
    refine mv_ild (by decide) rfl (mv_inE hi4) dX5_onSheet_25 ?_
    refine mv_goto 30 dX5_onSheet_26 (by decide) ?_
    exact mv_iret rfl dX5_onSheet_30 ⟨_, rfl, h⟩
theorem dX5_isDead_0 : decode cX5_isDead 0 = .ok (.aload_n 0, 1) := by decide +kernel
theorem dX5_isDead_1 : decode cX5_isDead 1 = .ok (.iload_n 1, 1) := by decide +kernel
theorem dX5_isDead_2 : decode cX5_isDead 2 = .ok (.iload_n 2, 1) := by decide +kernel
theorem dX5_isDead_3 : decode cX5_isDead 3 = .ok (.invokevirtual 29, 3) := by decide +kernel
theorem dX5_isDead_6 : decode cX5_isDead 6 = .ok (.istore_n 3, 1) := by decide +kernel
theorem dX5_isDead_7 : decode cX5_isDead 7 = .ok (.iload_n 3, 1) := by decide +kernel
theorem dX5_isDead_8 : decode cX5_isDead 8 = .ok (.iconst (-1), 1) := by decide +kernel
theorem dX5_isDead_9 : decode cX5_isDead 9 = .ok (.if_icmp .eq 16, 3) := by decide +kernel
theorem dX5_isDead_12 : decode cX5_isDead 12 = .ok (.aload_n 0, 1) := by decide +kernel
theorem dX5_isDead_13 : decode cX5_isDead 13 = .ok (.getfield 19, 3) := by decide +kernel
theorem dX5_isDead_16 : decode cX5_isDead 16 = .ok (.iload_n 3, 1) := by decide +kernel
theorem dX5_isDead_17 : decode cX5_isDead 17 = .ok (.baload, 1) := by decide +kernel
theorem dX5_isDead_18 : decode cX5_isDead 18 = .ok (.ifCond .eq 7, 3) := by decide +kernel
theorem dX5_isDead_21 : decode cX5_isDead 21 = .ok (.iconst 1, 1) := by decide +kernel
theorem dX5_isDead_22 : decode cX5_isDead 22 = .ok (.goto 4, 3) := by decide +kernel
theorem dX5_isDead_25 : decode cX5_isDead 25 = .ok (.iconst 0, 1) := by decide +kernel
theorem dX5_isDead_26 : decode cX5_isDead 26 = .ok (.ireturn, 1) := by decide +kernel
noncomputable def fX5_isDead (a0 : Int32) (a1 : Int32) (M : mv_M) : Option (Int32 × mv_M) :=
  mv_bind (fX5_rowOf a0 a1 M) fun r1 M2 =>
  if r1 = (-1) then
    some (0, M2)
  else
    mv_chk (mv_inb r1 312) <|
    if (M2.1 45 r1.toNatClampNeg) = 0 then
      some (0, M2)
    else
      some (1, M2)
set_option maxRecDepth 100000 in
set_option maxHeartbeats 4000000 in
theorem zX5_isDead {l : Launch} {d : Nat} {Q : Int32 → mv_M → Prop} (hd : 1 ≤ d) (a0 : Int32) (a1 : Int32) (M : mv_M) (h : mv_ok (fX5_isDead a0 a1 M) Q) : mv l mX5_isDead d 0 0 (lv_args 0 [.ref 5, .int a0, .int a1]) [] M (mv_qI Q) := by
  unfold fX5_isDead at h
  show mv l mX5_isDead d 0 0 [(0, .ref 5), (1, .int a0), (2, .int a1)] [] M (mv_qI Q)
  refine mv_aload_n 0 dX5_isDead_0 rfl ?_
  refine mv_iload_n 1 dX5_isDead_1 rfl ?_
  refine mv_iload_n 2 dX5_isDead_2 rfl ?_
  refine mv_cvI (As := [.int a0, .int a1]) (st := []) okX5_rowOf lX5_29 (by decide) rfl rfl rfl (Nat.le_of_ble_eq_true rfl) rfl (Nat.le_of_ble_eq_true rfl) dX5_isDead_3 (by omega) rfl (zX5_rowOf (d := d - 1) (by omega) a0 a1 M (mv_bindE h)) (fun r1 M2 h => ?_)
  refine mv_istore_n [(3, .int r1), (0, .ref 5), (1, .int a0), (2, .int a1)] dX5_isDead_6 (by decide) rfl ?_
  refine mv_iload_n 0 dX5_isDead_7 rfl ?_
  refine mv_iconst (-1) dX5_isDead_8 (by decide) ?_
  refine mv_icmp_eq 25 dX5_isDead_9 (by decide) (fun z => ?_) (fun z => ?_)
  · replace h := mv_ifT z h
    refine mv_iconst 0 dX5_isDead_25 (by decide) ?_
    exact mv_zret (by decide) rfl dX5_isDead_26 ⟨_, rfl, h⟩
  · replace h := mv_ifF z h
    refine mv_aload_n 1 dX5_isDead_12 rfl ?_
    refine mv_getR 45 fX5_19 (by decide) rfl rfl rfl dX5_isDead_13 ?_
    refine mv_iload_n 0 dX5_isDead_16 rfl ?_
    obtain ⟨hi3, h⟩ := mv_chkE h
    refine mv_zld (by decide) rfl (mv_inE hi3) dX5_isDead_17 ?_
    refine mv_if_eq 25 dX5_isDead_18 (by decide) (fun z => ?_) (fun z => ?_)
    · replace h := mv_ifT z h
      refine mv_iconst 0 dX5_isDead_25 (by decide) ?_
      exact mv_zret (by decide) rfl dX5_isDead_26 ⟨_, rfl, h⟩
    · replace h := mv_ifF z h
      refine mv_iconst 1 dX5_isDead_21 (by decide) ?_
      refine mv_goto 26 dX5_isDead_22 (by decide) ?_
      exact mv_zret (by decide) rfl dX5_isDead_26 ⟨_, rfl, h⟩
theorem dX5_demandOf_0 : decode cX5_demandOf 0 = .ok (.aload_n 0, 1) := by decide +kernel
theorem dX5_demandOf_1 : decode cX5_demandOf 1 = .ok (.iload_n 1, 1) := by decide +kernel
theorem dX5_demandOf_2 : decode cX5_demandOf 2 = .ok (.iload_n 2, 1) := by decide +kernel
theorem dX5_demandOf_3 : decode cX5_demandOf 3 = .ok (.invokevirtual 29, 3) := by decide +kernel
theorem dX5_demandOf_6 : decode cX5_demandOf 6 = .ok (.istore 4, 2) := by decide +kernel
theorem dX5_demandOf_8 : decode cX5_demandOf 8 = .ok (.iload 4, 2) := by decide +kernel
theorem dX5_demandOf_10 : decode cX5_demandOf 10 = .ok (.iconst (-1), 1) := by decide +kernel
theorem dX5_demandOf_11 : decode cX5_demandOf 11 = .ok (.if_icmp .eq 12, 3) := by decide +kernel
theorem dX5_demandOf_14 : decode cX5_demandOf 14 = .ok (.iload_n 3, 1) := by decide +kernel
theorem dX5_demandOf_15 : decode cX5_demandOf 15 = .ok (.ifCond .lt 8, 3) := by decide +kernel
theorem dX5_demandOf_18 : decode cX5_demandOf 18 = .ok (.iload_n 3, 1) := by decide +kernel
theorem dX5_demandOf_19 : decode cX5_demandOf 19 = .ok (.iconst 4, 1) := by decide +kernel
theorem dX5_demandOf_20 : decode cX5_demandOf 20 = .ok (.if_icmp .lt 7, 3) := by decide +kernel
theorem dX5_demandOf_23 : decode cX5_demandOf 23 = .ok (.iconst 0, 1) := by decide +kernel
theorem dX5_demandOf_24 : decode cX5_demandOf 24 = .ok (.goto 14, 3) := by decide +kernel
theorem dX5_demandOf_27 : decode cX5_demandOf 27 = .ok (.aload_n 0, 1) := by decide +kernel
theorem dX5_demandOf_28 : decode cX5_demandOf 28 = .ok (.getfield 15, 3) := by decide +kernel
theorem dX5_demandOf_31 : decode cX5_demandOf 31 = .ok (.iload 4, 2) := by decide +kernel
theorem dX5_demandOf_33 : decode cX5_demandOf 33 = .ok (.iconst 4, 1) := by decide +kernel
theorem dX5_demandOf_34 : decode cX5_demandOf 34 = .ok (.imul, 1) := by decide +kernel
theorem dX5_demandOf_35 : decode cX5_demandOf 35 = .ok (.iload_n 3, 1) := by decide +kernel
theorem dX5_demandOf_36 : decode cX5_demandOf 36 = .ok (.iadd, 1) := by decide +kernel
theorem dX5_demandOf_37 : decode cX5_demandOf 37 = .ok (.iaload, 1) := by decide +kernel
theorem dX5_demandOf_38 : decode cX5_demandOf 38 = .ok (.ireturn, 1) := by decide +kernel
noncomputable def fX5_demandOf_23 (M : mv_M) : Option (Int32 × mv_M) :=
  some (0, M)
set_option maxRecDepth 100000 in
set_option maxHeartbeats 4000000 in
theorem zX5_demandOf_23 {l : Launch} {d : Nat} {Q : Int32 → mv_M → Prop} (hd : 1 ≤ d) (M : mv_M) (h : mv_ok (fX5_demandOf_23 M) Q) : mv l mX5_demandOf d 0 23 [] [] M (mv_qI Q) := by
  unfold fX5_demandOf_23 at h
  refine mv_iconst 0 dX5_demandOf_23 (by decide) ?_
  refine mv_goto 38 dX5_demandOf_24 (by decide) ?_
  exact mv_iret rfl dX5_demandOf_38 ⟨_, rfl, h⟩
noncomputable def fX5_demandOf (a0 : Int32) (a1 : Int32) (a2 : Int32) (M : mv_M) : Option (Int32 × mv_M) :=
  mv_bind (fX5_rowOf a0 a1 M) fun r1 M2 =>
  if r1 = (-1) then
    fX5_demandOf_23 M2
  else
    if a2 < 0 then
      fX5_demandOf_23 M2
    else
      if a2 < 4 then
        mv_chk (mv_inb ((r1 * 4) + a2) 1248) <|
        some (M2.1 44 ((r1 * 4) + a2).toNatClampNeg, M2)
      else
        fX5_demandOf_23 M2
set_option maxRecDepth 100000 in
set_option maxHeartbeats 4000000 in
theorem zX5_demandOf {l : Launch} {d : Nat} {Q : Int32 → mv_M → Prop} (hd : 1 ≤ d) (a0 : Int32) (a1 : Int32) (a2 : Int32) (M : mv_M) (h : mv_ok (fX5_demandOf a0 a1 a2 M) Q) : mv l mX5_demandOf d 0 0 (lv_args 0 [.ref 5, .int a0, .int a1, .int a2]) [] M (mv_qI Q) := by
  unfold fX5_demandOf at h
  show mv l mX5_demandOf d 0 0 [(0, .ref 5), (1, .int a0), (2, .int a1), (3, .int a2)] [] M (mv_qI Q)
  refine mv_aload_n 0 dX5_demandOf_0 rfl ?_
  refine mv_iload_n 1 dX5_demandOf_1 rfl ?_
  refine mv_iload_n 2 dX5_demandOf_2 rfl ?_
  refine mv_cvI (As := [.int a0, .int a1]) (st := []) okX5_rowOf lX5_29 (by decide) rfl rfl rfl (Nat.le_of_ble_eq_true rfl) rfl (Nat.le_of_ble_eq_true rfl) dX5_demandOf_3 (by omega) rfl (zX5_rowOf (d := d - 1) (by omega) a0 a1 M (mv_bindE h)) (fun r1 M2 h => ?_)
  refine mv_istore [(4, .int r1), (0, .ref 5), (1, .int a0), (2, .int a1), (3, .int a2)] dX5_demandOf_6 (by decide) rfl ?_
  refine mv_iload 0 dX5_demandOf_8 rfl ?_
  refine mv_iconst (-1) dX5_demandOf_10 (by decide) ?_
  refine mv_icmp_eq 23 dX5_demandOf_11 (by decide) (fun z => ?_) (fun z => ?_)
  · replace h := mv_ifT z h
    refine mv_sub [] rfl ?_
    exact zX5_demandOf_23 hd M2 h
  · replace h := mv_ifF z h
    refine mv_iload_n 4 dX5_demandOf_14 rfl ?_
    refine mv_if_lt 23 dX5_demandOf_15 (by decide) (fun z => ?_) (fun z => ?_)
    · replace h := mv_ifT z h
      refine mv_sub [] rfl ?_
      exact zX5_demandOf_23 hd M2 h
    · replace h := mv_ifF z h
      refine mv_iload_n 4 dX5_demandOf_18 rfl ?_
      refine mv_iconst 4 dX5_demandOf_19 (by decide) ?_
      refine mv_icmp_lt 27 dX5_demandOf_20 (by decide) (fun z => ?_) (fun z => ?_)
      · replace h := mv_ifT z h
        refine mv_aload_n 1 dX5_demandOf_27 rfl ?_
        refine mv_getR 44 fX5_15 (by decide) rfl rfl rfl dX5_demandOf_28 ?_
        refine mv_iload 0 dX5_demandOf_31 rfl ?_
        refine mv_iconst 4 dX5_demandOf_33 (by decide) ?_
        refine mv_imul dX5_demandOf_34 ?_
        refine mv_iload_n 4 dX5_demandOf_35 rfl ?_
        refine mv_iadd dX5_demandOf_36 ?_
        obtain ⟨hi3, h⟩ := mv_chkE h
        refine mv_ild (by decide) rfl (mv_inE hi3) dX5_demandOf_37 ?_
        exact mv_iret rfl dX5_demandOf_38 ⟨_, rfl, h⟩
      · replace h := mv_ifF z h
        refine mv_sub [] rfl ?_
        exact zX5_demandOf_23 hd M2 h
theorem dX5_weigh_0 : decode cX5_weigh 0 = .ok (.iload_n 3, 1) := by decide +kernel
theorem dX5_weigh_1 : decode cX5_weigh 1 = .ok (.ifCond .lt 20, 3) := by decide +kernel
theorem dX5_weigh_4 : decode cX5_weigh 4 = .ok (.iload_n 3, 1) := by decide +kernel
theorem dX5_weigh_5 : decode cX5_weigh 5 = .ok (.bipush 84, 2) := by decide +kernel
theorem dX5_weigh_7 : decode cX5_weigh 7 = .ok (.if_icmp .ge 14, 3) := by decide +kernel
theorem dX5_weigh_10 : decode cX5_weigh 10 = .ok (.aload_n 0, 1) := by decide +kernel
theorem dX5_weigh_11 : decode cX5_weigh 11 = .ok (.getfield 33, 3) := by decide +kernel
theorem dX5_weigh_14 : decode cX5_weigh 14 = .ok (.iload_n 1, 1) := by decide +kernel
theorem dX5_weigh_15 : decode cX5_weigh 15 = .ok (.invokevirtual 97, 3) := by decide +kernel
theorem dX5_weigh_18 : decode cX5_weigh 18 = .ok (.ifCond .ne 4, 3) := by decide +kernel
theorem dX5_weigh_21 : decode cX5_weigh 21 = .ok (.return_, 1) := by decide +kernel
theorem dX5_weigh_22 : decode cX5_weigh 22 = .ok (.iload_n 3, 1) := by decide +kernel
theorem dX5_weigh_23 : decode cX5_weigh 23 = .ok (.bipush 16, 2) := by decide +kernel
theorem dX5_weigh_25 : decode cX5_weigh 25 = .ok (.imul, 1) := by decide +kernel
theorem dX5_weigh_26 : decode cX5_weigh 26 = .ok (.istore 4, 2) := by decide +kernel
theorem dX5_weigh_28 : decode cX5_weigh 28 = .ok (.aload_n 0, 1) := by decide +kernel
theorem dX5_weigh_29 : decode cX5_weigh 29 = .ok (.getfield 23, 3) := by decide +kernel
theorem dX5_weigh_32 : decode cX5_weigh 32 = .ok (.iload 4, 2) := by decide +kernel
theorem dX5_weigh_34 : decode cX5_weigh 34 = .ok (.iload 4, 2) := by decide +kernel
theorem dX5_weigh_36 : decode cX5_weigh 36 = .ok (.aload_n 0, 1) := by decide +kernel
theorem dX5_weigh_37 : decode cX5_weigh 37 = .ok (.getfield 33, 3) := by decide +kernel
theorem dX5_weigh_40 : decode cX5_weigh 40 = .ok (.getfield 100, 3) := by decide +kernel
theorem dX5_weigh_43 : decode cX5_weigh 43 = .ok (.aload_n 0, 1) := by decide +kernel
theorem dX5_weigh_44 : decode cX5_weigh 44 = .ok (.getfield 51, 3) := by decide +kernel
theorem dX5_weigh_47 : decode cX5_weigh 47 = .ok (.iaload, 1) := by decide +kernel
theorem dX5_weigh_48 : decode cX5_weigh 48 = .ok (.iadd, 1) := by decide +kernel
theorem dX5_weigh_49 : decode cX5_weigh 49 = .ok (.iconst 0, 1) := by decide +kernel
theorem dX5_weigh_50 : decode cX5_weigh 50 = .ok (.invokestatic 103, 3) := by decide +kernel
theorem dX5_weigh_53 : decode cX5_weigh 53 = .ok (.aload_n 0, 1) := by decide +kernel
theorem dX5_weigh_54 : decode cX5_weigh 54 = .ok (.getfield 26, 3) := by decide +kernel
theorem dX5_weigh_57 : decode cX5_weigh 57 = .ok (.iload_n 3, 1) := by decide +kernel
theorem dX5_weigh_58 : decode cX5_weigh 58 = .ok (.iconst 0, 1) := by decide +kernel
theorem dX5_weigh_59 : decode cX5_weigh 59 = .ok (.bastore, 1) := by decide +kernel
theorem dX5_weigh_60 : decode cX5_weigh 60 = .ok (.aload_n 0, 1) := by decide +kernel
theorem dX5_weigh_61 : decode cX5_weigh 61 = .ok (.getfield 33, 3) := by decide +kernel
theorem dX5_weigh_64 : decode cX5_weigh 64 = .ok (.getfield 109, 3) := by decide +kernel
theorem dX5_weigh_67 : decode cX5_weigh 67 = .ok (.iload_n 1, 1) := by decide +kernel
theorem dX5_weigh_68 : decode cX5_weigh 68 = .ok (.iaload, 1) := by decide +kernel
theorem dX5_weigh_69 : decode cX5_weigh 69 = .ok (.lookupswitch 229 #[(2, 88), (3, 75), (5, 219), (6, 162), (301, 132), (304, 142), (306, 152), (308, 78)], 75) := by decide +kernel
theorem dX5_weigh_144 : decode cX5_weigh 144 = .ok (.goto 184, 3) := by decide +kernel
theorem dX5_weigh_147 : decode cX5_weigh 147 = .ok (.aload_n 0, 1) := by decide +kernel
theorem dX5_weigh_148 : decode cX5_weigh 148 = .ok (.getfield 26, 3) := by decide +kernel
theorem dX5_weigh_151 : decode cX5_weigh 151 = .ok (.iload_n 3, 1) := by decide +kernel
theorem dX5_weigh_152 : decode cX5_weigh 152 = .ok (.iconst 1, 1) := by decide +kernel
theorem dX5_weigh_153 : decode cX5_weigh 153 = .ok (.bastore, 1) := by decide +kernel
theorem dX5_weigh_154 : decode cX5_weigh 154 = .ok (.goto 174, 3) := by decide +kernel
theorem dX5_weigh_157 : decode cX5_weigh 157 = .ok (.aload_n 0, 1) := by decide +kernel
theorem dX5_weigh_158 : decode cX5_weigh 158 = .ok (.getfield 33, 3) := by decide +kernel
theorem dX5_weigh_161 : decode cX5_weigh 161 = .ok (.aload_n 0, 1) := by decide +kernel
theorem dX5_weigh_162 : decode cX5_weigh 162 = .ok (.getfield 51, 3) := by decide +kernel
theorem dX5_weigh_165 : decode cX5_weigh 165 = .ok (.aload_n 0, 1) := by decide +kernel
theorem dX5_weigh_166 : decode cX5_weigh 166 = .ok (.getfield 33, 3) := by decide +kernel
theorem dX5_weigh_169 : decode cX5_weigh 169 = .ok (.getfield 112, 3) := by decide +kernel
theorem dX5_weigh_172 : decode cX5_weigh 172 = .ok (.iload_n 1, 1) := by decide +kernel
theorem dX5_weigh_173 : decode cX5_weigh 173 = .ok (.iaload, 1) := by decide +kernel
theorem dX5_weigh_174 : decode cX5_weigh 174 = .ok (.invokevirtual 115, 3) := by decide +kernel
theorem dX5_weigh_177 : decode cX5_weigh 177 = .ok (.ifCond .eq 151, 3) := by decide +kernel
theorem dX5_weigh_180 : decode cX5_weigh 180 = .ok (.aload_n 0, 1) := by decide +kernel
theorem dX5_weigh_181 : decode cX5_weigh 181 = .ok (.getfield 23, 3) := by decide +kernel
theorem dX5_weigh_184 : decode cX5_weigh 184 = .ok (.iload 4, 2) := by decide +kernel
theorem dX5_weigh_186 : decode cX5_weigh 186 = .ok (.aload_n 0, 1) := by decide +kernel
theorem dX5_weigh_187 : decode cX5_weigh 187 = .ok (.getfield 33, 3) := by decide +kernel
theorem dX5_weigh_190 : decode cX5_weigh 190 = .ok (.getfield 112, 3) := by decide +kernel
theorem dX5_weigh_193 : decode cX5_weigh 193 = .ok (.iload_n 1, 1) := by decide +kernel
theorem dX5_weigh_194 : decode cX5_weigh 194 = .ok (.iaload, 1) := by decide +kernel
theorem dX5_weigh_195 : decode cX5_weigh 195 = .ok (.iadd, 1) := by decide +kernel
theorem dX5_weigh_196 : decode cX5_weigh 196 = .ok (.iload_n 2, 1) := by decide +kernel
theorem dX5_weigh_197 : decode cX5_weigh 197 = .ok (.iastore, 1) := by decide +kernel
theorem dX5_weigh_198 : decode cX5_weigh 198 = .ok (.goto 130, 3) := by decide +kernel
theorem dX5_weigh_201 : decode cX5_weigh 201 = .ok (.aload_n 0, 1) := by decide +kernel
theorem dX5_weigh_202 : decode cX5_weigh 202 = .ok (.iload_n 1, 1) := by decide +kernel
theorem dX5_weigh_203 : decode cX5_weigh 203 = .ok (.iload_n 2, 1) := by decide +kernel
theorem dX5_weigh_204 : decode cX5_weigh 204 = .ok (.iload_n 3, 1) := by decide +kernel
theorem dX5_weigh_205 : decode cX5_weigh 205 = .ok (.invokevirtual 118, 3) := by decide +kernel
theorem dX5_weigh_208 : decode cX5_weigh 208 = .ok (.goto 120, 3) := by decide +kernel
theorem dX5_weigh_211 : decode cX5_weigh 211 = .ok (.aload_n 0, 1) := by decide +kernel
theorem dX5_weigh_212 : decode cX5_weigh 212 = .ok (.iload_n 1, 1) := by decide +kernel
theorem dX5_weigh_213 : decode cX5_weigh 213 = .ok (.iload_n 2, 1) := by decide +kernel
theorem dX5_weigh_214 : decode cX5_weigh 214 = .ok (.iload_n 3, 1) := by decide +kernel
theorem dX5_weigh_215 : decode cX5_weigh 215 = .ok (.invokevirtual 121, 3) := by decide +kernel
theorem dX5_weigh_218 : decode cX5_weigh 218 = .ok (.goto 110, 3) := by decide +kernel
theorem dX5_weigh_221 : decode cX5_weigh 221 = .ok (.aload_n 0, 1) := by decide +kernel
theorem dX5_weigh_222 : decode cX5_weigh 222 = .ok (.iload_n 1, 1) := by decide +kernel
theorem dX5_weigh_223 : decode cX5_weigh 223 = .ok (.iload_n 2, 1) := by decide +kernel
theorem dX5_weigh_224 : decode cX5_weigh 224 = .ok (.iload_n 3, 1) := by decide +kernel
theorem dX5_weigh_225 : decode cX5_weigh 225 = .ok (.invokevirtual 124, 3) := by decide +kernel
theorem dX5_weigh_228 : decode cX5_weigh 228 = .ok (.goto 100, 3) := by decide +kernel
theorem dX5_weigh_231 : decode cX5_weigh 231 = .ok (.aload_n 0, 1) := by decide +kernel
theorem dX5_weigh_232 : decode cX5_weigh 232 = .ok (.aload_n 0, 1) := by decide +kernel
theorem dX5_weigh_233 : decode cX5_weigh 233 = .ok (.getfield 33, 3) := by decide +kernel
theorem dX5_weigh_236 : decode cX5_weigh 236 = .ok (.getfield 112, 3) := by decide +kernel
theorem dX5_weigh_239 : decode cX5_weigh 239 = .ok (.iload_n 1, 1) := by decide +kernel
theorem dX5_weigh_240 : decode cX5_weigh 240 = .ok (.iaload, 1) := by decide +kernel
theorem dX5_weigh_241 : decode cX5_weigh 241 = .ok (.aload_n 0, 1) := by decide +kernel
theorem dX5_weigh_242 : decode cX5_weigh 242 = .ok (.getfield 33, 3) := by decide +kernel
theorem dX5_weigh_245 : decode cX5_weigh 245 = .ok (.getfield 127, 3) := by decide +kernel
theorem dX5_weigh_248 : decode cX5_weigh 248 = .ok (.iload_n 1, 1) := by decide +kernel
theorem dX5_weigh_249 : decode cX5_weigh 249 = .ok (.iaload, 1) := by decide +kernel
theorem dX5_weigh_250 : decode cX5_weigh 250 = .ok (.iload_n 2, 1) := by decide +kernel
theorem dX5_weigh_251 : decode cX5_weigh 251 = .ok (.invokestatic 130, 3) := by decide +kernel
theorem dX5_weigh_254 : decode cX5_weigh 254 = .ok (.iload_n 3, 1) := by decide +kernel
theorem dX5_weigh_255 : decode cX5_weigh 255 = .ok (.invokevirtual 133, 3) := by decide +kernel
theorem dX5_weigh_258 : decode cX5_weigh 258 = .ok (.aload_n 0, 1) := by decide +kernel
theorem dX5_weigh_259 : decode cX5_weigh 259 = .ok (.aload_n 0, 1) := by decide +kernel
theorem dX5_weigh_260 : decode cX5_weigh 260 = .ok (.getfield 33, 3) := by decide +kernel
theorem dX5_weigh_263 : decode cX5_weigh 263 = .ok (.getfield 136, 3) := by decide +kernel
theorem dX5_weigh_266 : decode cX5_weigh 266 = .ok (.iload_n 1, 1) := by decide +kernel
theorem dX5_weigh_267 : decode cX5_weigh 267 = .ok (.iaload, 1) := by decide +kernel
theorem dX5_weigh_268 : decode cX5_weigh 268 = .ok (.aload_n 0, 1) := by decide +kernel
theorem dX5_weigh_269 : decode cX5_weigh 269 = .ok (.getfield 33, 3) := by decide +kernel
theorem dX5_weigh_272 : decode cX5_weigh 272 = .ok (.getfield 127, 3) := by decide +kernel
theorem dX5_weigh_275 : decode cX5_weigh 275 = .ok (.iload_n 1, 1) := by decide +kernel
theorem dX5_weigh_276 : decode cX5_weigh 276 = .ok (.iaload, 1) := by decide +kernel
theorem dX5_weigh_277 : decode cX5_weigh 277 = .ok (.iload_n 2, 1) := by decide +kernel
theorem dX5_weigh_278 : decode cX5_weigh 278 = .ok (.invokestatic 139, 3) := by decide +kernel
theorem dX5_weigh_281 : decode cX5_weigh 281 = .ok (.iload_n 3, 1) := by decide +kernel
theorem dX5_weigh_282 : decode cX5_weigh 282 = .ok (.invokevirtual 133, 3) := by decide +kernel
theorem dX5_weigh_285 : decode cX5_weigh 285 = .ok (.goto 43, 3) := by decide +kernel
theorem dX5_weigh_288 : decode cX5_weigh 288 = .ok (.aload_n 0, 1) := by decide +kernel
theorem dX5_weigh_289 : decode cX5_weigh 289 = .ok (.iload_n 1, 1) := by decide +kernel
theorem dX5_weigh_290 : decode cX5_weigh 290 = .ok (.iload_n 2, 1) := by decide +kernel
theorem dX5_weigh_291 : decode cX5_weigh 291 = .ok (.iload_n 3, 1) := by decide +kernel
theorem dX5_weigh_292 : decode cX5_weigh 292 = .ok (.invokevirtual 142, 3) := by decide +kernel
theorem dX5_weigh_295 : decode cX5_weigh 295 = .ok (.goto 33, 3) := by decide +kernel
theorem dX5_weigh_298 : decode cX5_weigh 298 = .ok (.aload_n 0, 1) := by decide +kernel
theorem dX5_weigh_299 : decode cX5_weigh 299 = .ok (.aload_n 0, 1) := by decide +kernel
theorem dX5_weigh_300 : decode cX5_weigh 300 = .ok (.getfield 33, 3) := by decide +kernel
theorem dX5_weigh_303 : decode cX5_weigh 303 = .ok (.getfield 112, 3) := by decide +kernel
theorem dX5_weigh_306 : decode cX5_weigh 306 = .ok (.iload_n 1, 1) := by decide +kernel
theorem dX5_weigh_307 : decode cX5_weigh 307 = .ok (.iaload, 1) := by decide +kernel
theorem dX5_weigh_308 : decode cX5_weigh 308 = .ok (.iconst 1, 1) := by decide +kernel
theorem dX5_weigh_309 : decode cX5_weigh 309 = .ok (.iload_n 3, 1) := by decide +kernel
theorem dX5_weigh_310 : decode cX5_weigh 310 = .ok (.invokevirtual 133, 3) := by decide +kernel
theorem dX5_weigh_313 : decode cX5_weigh 313 = .ok (.aload_n 0, 1) := by decide +kernel
theorem dX5_weigh_314 : decode cX5_weigh 314 = .ok (.aload_n 0, 1) := by decide +kernel
theorem dX5_weigh_315 : decode cX5_weigh 315 = .ok (.getfield 33, 3) := by decide +kernel
theorem dX5_weigh_318 : decode cX5_weigh 318 = .ok (.getfield 136, 3) := by decide +kernel
theorem dX5_weigh_321 : decode cX5_weigh 321 = .ok (.iload_n 1, 1) := by decide +kernel
theorem dX5_weigh_322 : decode cX5_weigh 322 = .ok (.iaload, 1) := by decide +kernel
theorem dX5_weigh_323 : decode cX5_weigh 323 = .ok (.iconst 1, 1) := by decide +kernel
theorem dX5_weigh_324 : decode cX5_weigh 324 = .ok (.iload_n 3, 1) := by decide +kernel
theorem dX5_weigh_325 : decode cX5_weigh 325 = .ok (.invokevirtual 133, 3) := by decide +kernel
theorem dX5_weigh_328 : decode cX5_weigh 328 = .ok (.return_, 1) := by decide +kernel
noncomputable def fX5_weigh (r_X5_weighCall : Int32 → Int32 → Int32 → mv_M → Option (Unit × mv_M)) (r_X5_weighCase : Int32 → Int32 → Int32 → mv_M → Option (Unit × mv_M)) (r_X5_weighIf : Int32 → Int32 → Int32 → mv_M → Option (Unit × mv_M)) (r_X5_weighLet : Int32 → Int32 → Int32 → mv_M → Option (Unit × mv_M)) (r_X5_weighTogether : Int32 → Int32 → Int32 → mv_M → Option (Unit × mv_M)) (a0 : Int32) (a1 : Int32) (a2 : Int32) (M : mv_M) : Option (Unit × mv_M) :=
  if a2 < 0 then
    some ((), M)
  else
    if 84 ≤ a2 then
      some ((), M)
    else
      mv_getp (M.2.2 5 1) fun b1 =>
      mv_bind (fX4_hasNode b1 a0 M) fun r2 M3 =>
      if r2 = 0 then
        some ((), M3)
      else
        mv_let (a2 * 16) fun v4 =>
        mv_getp (M3.2.2 5 1) fun b5 =>
        mv_chk (mv_inb (M3.1 5 2) 12) <|
        mv_bind (fJ7_fill_fda19 v4 (v4 + (M3.1 (b5 + 3) (M3.1 5 2).toNatClampNeg)) 0 M3) fun _ M7 =>
        mv_chk (mv_inb a2 84) <|
        mv_let (mv_si M7 47 a2.toNatClampNeg (vp_nar .boolean 0)) fun M9 =>
        mv_getp (M9.2.2 5 1) fun b10 =>
        mv_chk (mv_inb a0 1000) <|
        if (M9.1 (b10 + 8) a0.toNatClampNeg) = 2 then
          mv_getp (M9.2.2 5 1) fun b13 =>
          mv_getp (M9.2.2 5 1) fun b14 =>
          mv_chk (mv_inb a0 1000) <|
          mv_bind (fX4_hasName b13 (M9.1 5 2) (M9.1 (b14 + 9) a0.toNatClampNeg) M9) fun r16 M17 =>
          if r16 = 0 then
            some ((), M17)
          else
            mv_getp (M17.2.2 5 1) fun b18 =>
            mv_chk (mv_inb a0 1000) <|
            mv_chk (mv_inb (v4 + (M17.1 (b18 + 9) a0.toNatClampNeg)) 1344) <|
            mv_let (mv_si M17 46 (v4 + (M17.1 (b18 + 9) a0.toNatClampNeg)).toNatClampNeg a1) fun M21 =>
            some ((), M21)
        else
          if (M9.1 (b10 + 8) a0.toNatClampNeg) = 3 then
            some ((), M9)
          else
            if (M9.1 (b10 + 8) a0.toNatClampNeg) = 5 then
              mv_bind (r_X5_weighCall a0 a1 a2 M9) fun _ M24 =>
              some ((), M24)
            else
              if (M9.1 (b10 + 8) a0.toNatClampNeg) = 6 then
                mv_getp (M9.2.2 5 1) fun b26 =>
                mv_chk (mv_inb a0 1000) <|
                mv_getp (M9.2.2 5 1) fun b28 =>
                mv_chk (mv_inb a0 1000) <|
                mv_bind (fX6_askedOfFirst (M9.1 (b28 + 13) a0.toNatClampNeg) a1 M9) fun r30 M31 =>
                mv_bind (r_X5_weighTogether (M9.1 (b26 + 9) a0.toNatClampNeg) r30 a2 M31) fun _ M32 =>
                mv_getp (M32.2.2 5 1) fun b33 =>
                mv_chk (mv_inb a0 1000) <|
                mv_getp (M32.2.2 5 1) fun b35 =>
                mv_chk (mv_inb a0 1000) <|
                mv_bind (fX6_askedOfSecond (M32.1 (b35 + 13) a0.toNatClampNeg) a1 M32) fun r37 M38 =>
                mv_bind (r_X5_weighTogether (M32.1 (b33 + 10) a0.toNatClampNeg) r37 a2 M38) fun _ M39 =>
                some ((), M39)
              else
                if (M9.1 (b10 + 8) a0.toNatClampNeg) = 301 then
                  mv_bind (r_X5_weighIf a0 a1 a2 M9) fun _ M41 =>
                  some ((), M41)
                else
                  if (M9.1 (b10 + 8) a0.toNatClampNeg) = 304 then
                    mv_bind (r_X5_weighLet a0 a1 a2 M9) fun _ M43 =>
                    some ((), M43)
                  else
                    if (M9.1 (b10 + 8) a0.toNatClampNeg) = 306 then
                      mv_bind (r_X5_weighCase a0 a1 a2 M9) fun _ M45 =>
                      some ((), M45)
                    else
                      if (M9.1 (b10 + 8) a0.toNatClampNeg) = 308 then
                        mv_chk (mv_inb a2 84) <|
                        mv_let (mv_si M9 47 a2.toNatClampNeg (vp_nar .boolean 1)) fun M48 =>
                        some ((), M48)
                      else
                        mv_getp (M9.2.2 5 1) fun b49 =>
                        mv_chk (mv_inb a0 1000) <|
                        mv_bind (r_X5_weighTogether (M9.1 (b49 + 9) a0.toNatClampNeg) 1 a2 M9) fun _ M51 =>
                        mv_getp (M51.2.2 5 1) fun b52 =>
                        mv_chk (mv_inb a0 1000) <|
                        mv_bind (r_X5_weighTogether (M51.1 (b52 + 10) a0.toNatClampNeg) 1 a2 M51) fun _ M54 =>
                        some ((), M54)
set_option maxRecDepth 100000 in
set_option maxHeartbeats 4000000 in
theorem zX5_weigh {l : Launch} {d : Nat} {Q : Unit → mv_M → Prop} {r_X5_weighCall : Int32 → Int32 → Int32 → mv_M → Option (Unit × mv_M)} {r_X5_weighCase : Int32 → Int32 → Int32 → mv_M → Option (Unit × mv_M)} {r_X5_weighIf : Int32 → Int32 → Int32 → mv_M → Option (Unit × mv_M)} {r_X5_weighLet : Int32 → Int32 → Int32 → mv_M → Option (Unit × mv_M)} {r_X5_weighTogether : Int32 → Int32 → Int32 → mv_M → Option (Unit × mv_M)} (hd : 2 ≤ d) (hr_X5_weighCall : ∀ (a0 : Int32) (a1 : Int32) (a2 : Int32) (M : mv_M) (Q : Unit → mv_M → Prop), mv_ok (r_X5_weighCall a0 a1 a2 M) Q → mv l mX5_weighCall (d - 1) 0 0 (lv_args 0 [.ref 5, .int a0, .int a1, .int a2]) [] M (mv_qV Q)) (hr_X5_weighCase : ∀ (a0 : Int32) (a1 : Int32) (a2 : Int32) (M : mv_M) (Q : Unit → mv_M → Prop), mv_ok (r_X5_weighCase a0 a1 a2 M) Q → mv l mX5_weighCase (d - 1) 0 0 (lv_args 0 [.ref 5, .int a0, .int a1, .int a2]) [] M (mv_qV Q)) (hr_X5_weighIf : ∀ (a0 : Int32) (a1 : Int32) (a2 : Int32) (M : mv_M) (Q : Unit → mv_M → Prop), mv_ok (r_X5_weighIf a0 a1 a2 M) Q → mv l mX5_weighIf (d - 1) 0 0 (lv_args 0 [.ref 5, .int a0, .int a1, .int a2]) [] M (mv_qV Q)) (hr_X5_weighLet : ∀ (a0 : Int32) (a1 : Int32) (a2 : Int32) (M : mv_M) (Q : Unit → mv_M → Prop), mv_ok (r_X5_weighLet a0 a1 a2 M) Q → mv l mX5_weighLet (d - 1) 0 0 (lv_args 0 [.ref 5, .int a0, .int a1, .int a2]) [] M (mv_qV Q)) (hr_X5_weighTogether : ∀ (a0 : Int32) (a1 : Int32) (a2 : Int32) (M : mv_M) (Q : Unit → mv_M → Prop), mv_ok (r_X5_weighTogether a0 a1 a2 M) Q → mv l mX5_weighTogether (d - 1) 0 0 (lv_args 0 [.ref 5, .int a0, .int a1, .int a2]) [] M (mv_qV Q)) (a0 : Int32) (a1 : Int32) (a2 : Int32) (M : mv_M) (h : mv_ok (fX5_weigh r_X5_weighCall r_X5_weighCase r_X5_weighIf r_X5_weighLet r_X5_weighTogether a0 a1 a2 M) Q) : mv l mX5_weigh d 0 0 (lv_args 0 [.ref 5, .int a0, .int a1, .int a2]) [] M (mv_qV Q) := by
  unfold fX5_weigh at h
  show mv l mX5_weigh d 0 0 [(0, .ref 5), (1, .int a0), (2, .int a1), (3, .int a2)] [] M (mv_qV Q)
  refine mv_iload_n 3 dX5_weigh_0 rfl ?_
  refine mv_if_lt 21 dX5_weigh_1 (by decide) (fun z => ?_) (fun z => ?_)
  · replace h := mv_ifT z h
    exact mv_vret rfl dX5_weigh_21 ⟨rfl, h⟩
  · replace h := mv_ifF z h
    refine mv_iload_n 3 dX5_weigh_4 rfl ?_
    refine mv_bipush 84 dX5_weigh_5 (by decide) ?_
    refine mv_icmp_ge 21 dX5_weigh_7 (by decide) (fun z => ?_) (fun z => ?_)
    · replace h := mv_ifT z h
      exact mv_vret rfl dX5_weigh_21 ⟨rfl, h⟩
    · replace h := mv_ifF z h
      refine mv_aload_n 0 dX5_weigh_10 rfl ?_
      obtain ⟨b1, eb1, hb1, h⟩ := mv_getpE h
      refine mv_getP b1 fX5_33 (by decide) rfl rfl eb1 dX5_weigh_11 ?_
      refine mv_iload_n 1 dX5_weigh_14 rfl ?_
      refine mv_cvI (As := [.int a0]) (st := []) okX4_hasNode lX5_97 (mv_pN (t := 0) hb1 (by decide)) (by rcases hb1 with rfl | rfl <;> rfl) rfl rfl (Nat.le_of_ble_eq_true rfl) rfl (Nat.le_of_ble_eq_true rfl) dX5_weigh_15 (by omega) rfl (zX4_hasNode (d := d - 1) (by omega) b1 a0 M hb1 (mv_bindE h)) (fun r2 M3 h => ?_)
      refine mv_if_ne 22 dX5_weigh_18 (by decide) (fun z => ?_) (fun z => ?_)
      · replace h := mv_ifF z h
        refine mv_iload_n 3 dX5_weigh_22 rfl ?_
        refine mv_bipush 16 dX5_weigh_23 (by decide) ?_
        refine mv_imul dX5_weigh_25 ?_
        refine mv_topi (fun v4 ev4 => ?_)
        replace h := mv_letE h v4 ev4
        refine mv_istore [(4, .int v4), (0, .ref 5), (1, .int a0), (2, .int a1), (3, .int a2)] dX5_weigh_26 (by decide) rfl ?_
        refine mv_aload_n 1 dX5_weigh_28 rfl ?_
        refine mv_getR 46 fX5_23 (by decide) rfl rfl rfl dX5_weigh_29 ?_
        refine mv_iload 0 dX5_weigh_32 rfl ?_
        refine mv_iload 0 dX5_weigh_34 rfl ?_
        refine mv_aload_n 1 dX5_weigh_36 rfl ?_
        obtain ⟨b5, eb5, hb5, h⟩ := mv_getpE h
        refine mv_getP b5 fX5_33 (by decide) rfl rfl eb5 dX5_weigh_37 ?_
        refine mv_getR (b5 + 3) fX5_100 (mv_pN (t := 0) hb5 (by decide)) (by rcases hb5 with rfl | rfl <;> rfl) rfl (by rcases hb5 with rfl | rfl <;> rfl) dX5_weigh_40 ?_
        refine mv_aload_n 1 dX5_weigh_43 rfl ?_
        refine mv_getI fX5_51 (by decide) rfl rfl dX5_weigh_44 ?_
        obtain ⟨hi6, h⟩ := mv_chkE h
        refine mv_ild (mv_pN (t := 3) hb5 (by decide)) (by rcases hb5 with rfl | rfl <;> rfl) (mv_inE hi6) dX5_weigh_47 ?_
        refine mv_iadd dX5_weigh_48 ?_
        refine mv_iconst 0 dX5_weigh_49 (by decide) ?_
        refine mv_csV (As := [.ref 46, .int v4, .int (v4 + (M3.1 (b5 + 3) (M3.1 5 2).toNatClampNeg)), .int 0]) (st := []) okJ7_fill_fda19 lX5_103 rfl (Nat.le_of_ble_eq_true rfl) rfl (Nat.le_of_ble_eq_true rfl) dX5_weigh_50 (by omega) rfl (zJ7_fill_fda19 (d := d - 1) (by omega) v4 (v4 + (M3.1 (b5 + 3) (M3.1 5 2).toNatClampNeg)) 0 M3 (mv_bindE h)) (fun _ M7 h => ?_)
        refine mv_aload_n 1 dX5_weigh_53 rfl ?_
        refine mv_getR 47 fX5_26 (by decide) rfl rfl rfl dX5_weigh_54 ?_
        refine mv_iload_n 4 dX5_weigh_57 rfl ?_
        refine mv_iconst 0 dX5_weigh_58 (by decide) ?_
        obtain ⟨hi8, h⟩ := mv_chkE h
        refine mv_zst (by decide) rfl (mv_inE hi8) dX5_weigh_59 (fun M9 eM9 => ?_)
        replace h := mv_letE h M9 eM9
        refine mv_aload_n 1 dX5_weigh_60 rfl ?_
        obtain ⟨b10, eb10, hb10, h⟩ := mv_getpE h
        refine mv_getP b10 fX5_33 (by decide) rfl rfl eb10 dX5_weigh_61 ?_
        refine mv_getR (b10 + 8) fX5_109 (mv_pN (t := 0) hb10 (by decide)) (by rcases hb10 with rfl | rfl <;> rfl) rfl (by rcases hb10 with rfl | rfl <;> rfl) dX5_weigh_64 ?_
        refine mv_iload_n 2 dX5_weigh_67 rfl ?_
        obtain ⟨hi11, h⟩ := mv_chkE h
        refine mv_ild (mv_pN (t := 8) hb10 (by decide)) (by rcases hb10 with rfl | rfl <;> rfl) (mv_inE hi11) dX5_weigh_68 ?_
        by_cases z12 : (M9.1 (b10 + 8) a0.toNatClampNeg) = 2
        · replace h := mv_ifT z12 h
          refine mv_lookup (off := 88) 157 dX5_weigh_69 (by decide) (mv_swc (mv_eqv z12 (by decide))) (by decide) ?_
          refine mv_aload_n 1 dX5_weigh_157 rfl ?_
          obtain ⟨b13, eb13, hb13, h⟩ := mv_getpE h
          refine mv_getP b13 fX5_33 (by decide) rfl rfl eb13 dX5_weigh_158 ?_
          refine mv_aload_n 1 dX5_weigh_161 rfl ?_
          refine mv_getI fX5_51 (by decide) rfl rfl dX5_weigh_162 ?_
          refine mv_aload_n 1 dX5_weigh_165 rfl ?_
          obtain ⟨b14, eb14, hb14, h⟩ := mv_getpE h
          refine mv_getP b14 fX5_33 (by decide) rfl rfl eb14 dX5_weigh_166 ?_
          refine mv_getR (b14 + 9) fX5_112 (mv_pN (t := 0) hb14 (by decide)) (by rcases hb14 with rfl | rfl <;> rfl) rfl (by rcases hb14 with rfl | rfl <;> rfl) dX5_weigh_169 ?_
          refine mv_iload_n 2 dX5_weigh_172 rfl ?_
          obtain ⟨hi15, h⟩ := mv_chkE h
          refine mv_ild (mv_pN (t := 9) hb14 (by decide)) (by rcases hb14 with rfl | rfl <;> rfl) (mv_inE hi15) dX5_weigh_173 ?_
          refine mv_cvI (As := [.int (M9.1 5 2), .int (M9.1 (b14 + 9) a0.toNatClampNeg)]) (st := []) okX4_hasName lX5_115 (mv_pN (t := 0) hb13 (by decide)) (by rcases hb13 with rfl | rfl <;> rfl) rfl rfl (Nat.le_of_ble_eq_true rfl) rfl (Nat.le_of_ble_eq_true rfl) dX5_weigh_174 (by omega) rfl (zX4_hasName (d := d - 1) (by omega) b13 (M9.1 5 2) (M9.1 (b14 + 9) a0.toNatClampNeg) M9 hb13 (mv_bindE h)) (fun r16 M17 h => ?_)
          refine mv_if_eq 328 dX5_weigh_177 (by decide) (fun z => ?_) (fun z => ?_)
          · replace h := mv_ifT z h
            exact mv_vret rfl dX5_weigh_328 ⟨rfl, h⟩
          · replace h := mv_ifF z h
            refine mv_aload_n 1 dX5_weigh_180 rfl ?_
            refine mv_getR 46 fX5_23 (by decide) rfl rfl rfl dX5_weigh_181 ?_
            refine mv_iload 0 dX5_weigh_184 rfl ?_
            refine mv_aload_n 1 dX5_weigh_186 rfl ?_
            obtain ⟨b18, eb18, hb18, h⟩ := mv_getpE h
            refine mv_getP b18 fX5_33 (by decide) rfl rfl eb18 dX5_weigh_187 ?_
            refine mv_getR (b18 + 9) fX5_112 (mv_pN (t := 0) hb18 (by decide)) (by rcases hb18 with rfl | rfl <;> rfl) rfl (by rcases hb18 with rfl | rfl <;> rfl) dX5_weigh_190 ?_
            refine mv_iload_n 2 dX5_weigh_193 rfl ?_
            obtain ⟨hi19, h⟩ := mv_chkE h
            refine mv_ild (mv_pN (t := 9) hb18 (by decide)) (by rcases hb18 with rfl | rfl <;> rfl) (mv_inE hi19) dX5_weigh_194 ?_
            refine mv_iadd dX5_weigh_195 ?_
            refine mv_iload_n 3 dX5_weigh_196 rfl ?_
            obtain ⟨hi20, h⟩ := mv_chkE h
            refine mv_ist (by decide) rfl (mv_inE hi20) dX5_weigh_197 (fun M21 eM21 => ?_)
            replace h := mv_letE h M21 eM21
            refine mv_goto 328 dX5_weigh_198 (by decide) ?_
            exact mv_vret rfl dX5_weigh_328 ⟨rfl, h⟩
        · replace h := mv_ifF z12 h
          by_cases z22 : (M9.1 (b10 + 8) a0.toNatClampNeg) = 3
          · replace h := mv_ifT z22 h
            refine mv_lookup (off := 75) 144 dX5_weigh_69 (by decide) (mv_swn (mv_ne 2 (by decide) z12) (mv_swc (mv_eqv z22 (by decide)))) (by decide) ?_
            refine mv_goto 328 dX5_weigh_144 (by decide) ?_
            exact mv_vret rfl dX5_weigh_328 ⟨rfl, h⟩
          · replace h := mv_ifF z22 h
            by_cases z23 : (M9.1 (b10 + 8) a0.toNatClampNeg) = 5
            · replace h := mv_ifT z23 h
              refine mv_lookup (off := 219) 288 dX5_weigh_69 (by decide) (mv_swn (mv_ne 2 (by decide) z12) (mv_swn (mv_ne 3 (by decide) z22) (mv_swc (mv_eqv z23 (by decide))))) (by decide) ?_
              refine mv_aload_n 1 dX5_weigh_288 rfl ?_
              refine mv_iload_n 2 dX5_weigh_289 rfl ?_
              refine mv_iload_n 3 dX5_weigh_290 rfl ?_
              refine mv_iload_n 4 dX5_weigh_291 rfl ?_
              refine mv_cvV (As := [.int a0, .int a1, .int a2]) (st := []) okX5_weighCall lX5_142 (by decide) rfl rfl rfl (Nat.le_of_ble_eq_true rfl) rfl (Nat.le_of_ble_eq_true rfl) dX5_weigh_292 (by omega) rfl (hr_X5_weighCall a0 a1 a2 M9 _ (mv_bindE h)) (fun _ M24 h => ?_)
              refine mv_goto 328 dX5_weigh_295 (by decide) ?_
              exact mv_vret rfl dX5_weigh_328 ⟨rfl, h⟩
            · replace h := mv_ifF z23 h
              by_cases z25 : (M9.1 (b10 + 8) a0.toNatClampNeg) = 6
              · replace h := mv_ifT z25 h
                refine mv_lookup (off := 162) 231 dX5_weigh_69 (by decide) (mv_swn (mv_ne 2 (by decide) z12) (mv_swn (mv_ne 3 (by decide) z22) (mv_swn (mv_ne 5 (by decide) z23) (mv_swc (mv_eqv z25 (by decide)))))) (by decide) ?_
                refine mv_aload_n 1 dX5_weigh_231 rfl ?_
                refine mv_aload_n 1 dX5_weigh_232 rfl ?_
                obtain ⟨b26, eb26, hb26, h⟩ := mv_getpE h
                refine mv_getP b26 fX5_33 (by decide) rfl rfl eb26 dX5_weigh_233 ?_
                refine mv_getR (b26 + 9) fX5_112 (mv_pN (t := 0) hb26 (by decide)) (by rcases hb26 with rfl | rfl <;> rfl) rfl (by rcases hb26 with rfl | rfl <;> rfl) dX5_weigh_236 ?_
                refine mv_iload_n 2 dX5_weigh_239 rfl ?_
                obtain ⟨hi27, h⟩ := mv_chkE h
                refine mv_ild (mv_pN (t := 9) hb26 (by decide)) (by rcases hb26 with rfl | rfl <;> rfl) (mv_inE hi27) dX5_weigh_240 ?_
                refine mv_aload_n 1 dX5_weigh_241 rfl ?_
                obtain ⟨b28, eb28, hb28, h⟩ := mv_getpE h
                refine mv_getP b28 fX5_33 (by decide) rfl rfl eb28 dX5_weigh_242 ?_
                refine mv_getR (b28 + 13) fX5_127 (mv_pN (t := 0) hb28 (by decide)) (by rcases hb28 with rfl | rfl <;> rfl) rfl (by rcases hb28 with rfl | rfl <;> rfl) dX5_weigh_245 ?_
                refine mv_iload_n 2 dX5_weigh_248 rfl ?_
                obtain ⟨hi29, h⟩ := mv_chkE h
                refine mv_ild (mv_pN (t := 13) hb28 (by decide)) (by rcases hb28 with rfl | rfl <;> rfl) (mv_inE hi29) dX5_weigh_249 ?_
                refine mv_iload_n 3 dX5_weigh_250 rfl ?_
                refine mv_csI (As := [.int (M9.1 (b28 + 13) a0.toNatClampNeg), .int a1]) (st := [.int (M9.1 (b26 + 9) a0.toNatClampNeg), .ref 5]) okX6_askedOfFirst lX5_130 rfl (Nat.le_of_ble_eq_true rfl) rfl (Nat.le_of_ble_eq_true rfl) dX5_weigh_251 (by omega) rfl (zX6_askedOfFirst (d := d - 1) (by omega) (M9.1 (b28 + 13) a0.toNatClampNeg) a1 M9 (mv_bindE h)) (fun r30 M31 h => ?_)
                refine mv_iload_n 4 dX5_weigh_254 rfl ?_
                refine mv_cvV (As := [.int (M9.1 (b26 + 9) a0.toNatClampNeg), .int r30, .int a2]) (st := []) okX5_weighTogether lX5_133 (by decide) rfl rfl rfl (Nat.le_of_ble_eq_true rfl) rfl (Nat.le_of_ble_eq_true rfl) dX5_weigh_255 (by omega) rfl (hr_X5_weighTogether (M9.1 (b26 + 9) a0.toNatClampNeg) r30 a2 M31 _ (mv_bindE h)) (fun _ M32 h => ?_)
                refine mv_aload_n 1 dX5_weigh_258 rfl ?_
                refine mv_aload_n 1 dX5_weigh_259 rfl ?_
                obtain ⟨b33, eb33, hb33, h⟩ := mv_getpE h
                refine mv_getP b33 fX5_33 (by decide) rfl rfl eb33 dX5_weigh_260 ?_
                refine mv_getR (b33 + 10) fX5_136 (mv_pN (t := 0) hb33 (by decide)) (by rcases hb33 with rfl | rfl <;> rfl) rfl (by rcases hb33 with rfl | rfl <;> rfl) dX5_weigh_263 ?_
                refine mv_iload_n 2 dX5_weigh_266 rfl ?_
                obtain ⟨hi34, h⟩ := mv_chkE h
                refine mv_ild (mv_pN (t := 10) hb33 (by decide)) (by rcases hb33 with rfl | rfl <;> rfl) (mv_inE hi34) dX5_weigh_267 ?_
                refine mv_aload_n 1 dX5_weigh_268 rfl ?_
                obtain ⟨b35, eb35, hb35, h⟩ := mv_getpE h
                refine mv_getP b35 fX5_33 (by decide) rfl rfl eb35 dX5_weigh_269 ?_
                refine mv_getR (b35 + 13) fX5_127 (mv_pN (t := 0) hb35 (by decide)) (by rcases hb35 with rfl | rfl <;> rfl) rfl (by rcases hb35 with rfl | rfl <;> rfl) dX5_weigh_272 ?_
                refine mv_iload_n 2 dX5_weigh_275 rfl ?_
                obtain ⟨hi36, h⟩ := mv_chkE h
                refine mv_ild (mv_pN (t := 13) hb35 (by decide)) (by rcases hb35 with rfl | rfl <;> rfl) (mv_inE hi36) dX5_weigh_276 ?_
                refine mv_iload_n 3 dX5_weigh_277 rfl ?_
                refine mv_csI (As := [.int (M32.1 (b35 + 13) a0.toNatClampNeg), .int a1]) (st := [.int (M32.1 (b33 + 10) a0.toNatClampNeg), .ref 5]) okX6_askedOfSecond lX5_139 rfl (Nat.le_of_ble_eq_true rfl) rfl (Nat.le_of_ble_eq_true rfl) dX5_weigh_278 (by omega) rfl (zX6_askedOfSecond (d := d - 1) (by omega) (M32.1 (b35 + 13) a0.toNatClampNeg) a1 M32 (mv_bindE h)) (fun r37 M38 h => ?_)
                refine mv_iload_n 4 dX5_weigh_281 rfl ?_
                refine mv_cvV (As := [.int (M32.1 (b33 + 10) a0.toNatClampNeg), .int r37, .int a2]) (st := []) okX5_weighTogether lX5_133 (by decide) rfl rfl rfl (Nat.le_of_ble_eq_true rfl) rfl (Nat.le_of_ble_eq_true rfl) dX5_weigh_282 (by omega) rfl (hr_X5_weighTogether (M32.1 (b33 + 10) a0.toNatClampNeg) r37 a2 M38 _ (mv_bindE h)) (fun _ M39 h => ?_)
                refine mv_goto 328 dX5_weigh_285 (by decide) ?_
                exact mv_vret rfl dX5_weigh_328 ⟨rfl, h⟩
              · replace h := mv_ifF z25 h
                by_cases z40 : (M9.1 (b10 + 8) a0.toNatClampNeg) = 301
                · replace h := mv_ifT z40 h
                  refine mv_lookup (off := 132) 201 dX5_weigh_69 (by decide) (mv_swn (mv_ne 2 (by decide) z12) (mv_swn (mv_ne 3 (by decide) z22) (mv_swn (mv_ne 5 (by decide) z23) (mv_swn (mv_ne 6 (by decide) z25) (mv_swc (mv_eqv z40 (by decide))))))) (by decide) ?_
                  refine mv_aload_n 1 dX5_weigh_201 rfl ?_
                  refine mv_iload_n 2 dX5_weigh_202 rfl ?_
                  refine mv_iload_n 3 dX5_weigh_203 rfl ?_
                  refine mv_iload_n 4 dX5_weigh_204 rfl ?_
                  refine mv_cvV (As := [.int a0, .int a1, .int a2]) (st := []) okX5_weighIf lX5_118 (by decide) rfl rfl rfl (Nat.le_of_ble_eq_true rfl) rfl (Nat.le_of_ble_eq_true rfl) dX5_weigh_205 (by omega) rfl (hr_X5_weighIf a0 a1 a2 M9 _ (mv_bindE h)) (fun _ M41 h => ?_)
                  refine mv_goto 328 dX5_weigh_208 (by decide) ?_
                  exact mv_vret rfl dX5_weigh_328 ⟨rfl, h⟩
                · replace h := mv_ifF z40 h
                  by_cases z42 : (M9.1 (b10 + 8) a0.toNatClampNeg) = 304
                  · replace h := mv_ifT z42 h
                    refine mv_lookup (off := 142) 211 dX5_weigh_69 (by decide) (mv_swn (mv_ne 2 (by decide) z12) (mv_swn (mv_ne 3 (by decide) z22) (mv_swn (mv_ne 5 (by decide) z23) (mv_swn (mv_ne 6 (by decide) z25) (mv_swn (mv_ne 301 (by decide) z40) (mv_swc (mv_eqv z42 (by decide)))))))) (by decide) ?_
                    refine mv_aload_n 1 dX5_weigh_211 rfl ?_
                    refine mv_iload_n 2 dX5_weigh_212 rfl ?_
                    refine mv_iload_n 3 dX5_weigh_213 rfl ?_
                    refine mv_iload_n 4 dX5_weigh_214 rfl ?_
                    refine mv_cvV (As := [.int a0, .int a1, .int a2]) (st := []) okX5_weighLet lX5_121 (by decide) rfl rfl rfl (Nat.le_of_ble_eq_true rfl) rfl (Nat.le_of_ble_eq_true rfl) dX5_weigh_215 (by omega) rfl (hr_X5_weighLet a0 a1 a2 M9 _ (mv_bindE h)) (fun _ M43 h => ?_)
                    refine mv_goto 328 dX5_weigh_218 (by decide) ?_
                    exact mv_vret rfl dX5_weigh_328 ⟨rfl, h⟩
                  · replace h := mv_ifF z42 h
                    by_cases z44 : (M9.1 (b10 + 8) a0.toNatClampNeg) = 306
                    · replace h := mv_ifT z44 h
                      refine mv_lookup (off := 152) 221 dX5_weigh_69 (by decide) (mv_swn (mv_ne 2 (by decide) z12) (mv_swn (mv_ne 3 (by decide) z22) (mv_swn (mv_ne 5 (by decide) z23) (mv_swn (mv_ne 6 (by decide) z25) (mv_swn (mv_ne 301 (by decide) z40) (mv_swn (mv_ne 304 (by decide) z42) (mv_swc (mv_eqv z44 (by decide))))))))) (by decide) ?_
                      refine mv_aload_n 1 dX5_weigh_221 rfl ?_
                      refine mv_iload_n 2 dX5_weigh_222 rfl ?_
                      refine mv_iload_n 3 dX5_weigh_223 rfl ?_
                      refine mv_iload_n 4 dX5_weigh_224 rfl ?_
                      refine mv_cvV (As := [.int a0, .int a1, .int a2]) (st := []) okX5_weighCase lX5_124 (by decide) rfl rfl rfl (Nat.le_of_ble_eq_true rfl) rfl (Nat.le_of_ble_eq_true rfl) dX5_weigh_225 (by omega) rfl (hr_X5_weighCase a0 a1 a2 M9 _ (mv_bindE h)) (fun _ M45 h => ?_)
                      refine mv_goto 328 dX5_weigh_228 (by decide) ?_
                      exact mv_vret rfl dX5_weigh_328 ⟨rfl, h⟩
                    · replace h := mv_ifF z44 h
                      by_cases z46 : (M9.1 (b10 + 8) a0.toNatClampNeg) = 308
                      · replace h := mv_ifT z46 h
                        refine mv_lookup (off := 78) 147 dX5_weigh_69 (by decide) (mv_swn (mv_ne 2 (by decide) z12) (mv_swn (mv_ne 3 (by decide) z22) (mv_swn (mv_ne 5 (by decide) z23) (mv_swn (mv_ne 6 (by decide) z25) (mv_swn (mv_ne 301 (by decide) z40) (mv_swn (mv_ne 304 (by decide) z42) (mv_swn (mv_ne 306 (by decide) z44) (mv_swc (mv_eqv z46 (by decide)))))))))) (by decide) ?_
                        refine mv_aload_n 1 dX5_weigh_147 rfl ?_
                        refine mv_getR 47 fX5_26 (by decide) rfl rfl rfl dX5_weigh_148 ?_
                        refine mv_iload_n 4 dX5_weigh_151 rfl ?_
                        refine mv_iconst 1 dX5_weigh_152 (by decide) ?_
                        obtain ⟨hi47, h⟩ := mv_chkE h
                        refine mv_zst (by decide) rfl (mv_inE hi47) dX5_weigh_153 (fun M48 eM48 => ?_)
                        replace h := mv_letE h M48 eM48
                        refine mv_goto 328 dX5_weigh_154 (by decide) ?_
                        exact mv_vret rfl dX5_weigh_328 ⟨rfl, h⟩
                      · replace h := mv_ifF z46 h
                        refine mv_lookup (off := 229) 298 dX5_weigh_69 (by decide) (mv_swn (mv_ne 2 (by decide) z12) (mv_swn (mv_ne 3 (by decide) z22) (mv_swn (mv_ne 5 (by decide) z23) (mv_swn (mv_ne 6 (by decide) z25) (mv_swn (mv_ne 301 (by decide) z40) (mv_swn (mv_ne 304 (by decide) z42) (mv_swn (mv_ne 306 (by decide) z44) (mv_swn (mv_ne 308 (by decide) z46) rfl)))))))) (by decide) ?_
                        refine mv_aload_n 1 dX5_weigh_298 rfl ?_
                        refine mv_aload_n 1 dX5_weigh_299 rfl ?_
                        obtain ⟨b49, eb49, hb49, h⟩ := mv_getpE h
                        refine mv_getP b49 fX5_33 (by decide) rfl rfl eb49 dX5_weigh_300 ?_
                        refine mv_getR (b49 + 9) fX5_112 (mv_pN (t := 0) hb49 (by decide)) (by rcases hb49 with rfl | rfl <;> rfl) rfl (by rcases hb49 with rfl | rfl <;> rfl) dX5_weigh_303 ?_
                        refine mv_iload_n 2 dX5_weigh_306 rfl ?_
                        obtain ⟨hi50, h⟩ := mv_chkE h
                        refine mv_ild (mv_pN (t := 9) hb49 (by decide)) (by rcases hb49 with rfl | rfl <;> rfl) (mv_inE hi50) dX5_weigh_307 ?_
                        refine mv_iconst 1 dX5_weigh_308 (by decide) ?_
                        refine mv_iload_n 4 dX5_weigh_309 rfl ?_
                        refine mv_cvV (As := [.int (M9.1 (b49 + 9) a0.toNatClampNeg), .int 1, .int a2]) (st := []) okX5_weighTogether lX5_133 (by decide) rfl rfl rfl (Nat.le_of_ble_eq_true rfl) rfl (Nat.le_of_ble_eq_true rfl) dX5_weigh_310 (by omega) rfl (hr_X5_weighTogether (M9.1 (b49 + 9) a0.toNatClampNeg) 1 a2 M9 _ (mv_bindE h)) (fun _ M51 h => ?_)
                        refine mv_aload_n 1 dX5_weigh_313 rfl ?_
                        refine mv_aload_n 1 dX5_weigh_314 rfl ?_
                        obtain ⟨b52, eb52, hb52, h⟩ := mv_getpE h
                        refine mv_getP b52 fX5_33 (by decide) rfl rfl eb52 dX5_weigh_315 ?_
                        refine mv_getR (b52 + 10) fX5_136 (mv_pN (t := 0) hb52 (by decide)) (by rcases hb52 with rfl | rfl <;> rfl) rfl (by rcases hb52 with rfl | rfl <;> rfl) dX5_weigh_318 ?_
                        refine mv_iload_n 2 dX5_weigh_321 rfl ?_
                        obtain ⟨hi53, h⟩ := mv_chkE h
                        refine mv_ild (mv_pN (t := 10) hb52 (by decide)) (by rcases hb52 with rfl | rfl <;> rfl) (mv_inE hi53) dX5_weigh_322 ?_
                        refine mv_iconst 1 dX5_weigh_323 (by decide) ?_
                        refine mv_iload_n 4 dX5_weigh_324 rfl ?_
                        refine mv_cvV (As := [.int (M51.1 (b52 + 10) a0.toNatClampNeg), .int 1, .int a2]) (st := []) okX5_weighTogether lX5_133 (by decide) rfl rfl rfl (Nat.le_of_ble_eq_true rfl) rfl (Nat.le_of_ble_eq_true rfl) dX5_weigh_325 (by omega) rfl (hr_X5_weighTogether (M51.1 (b52 + 10) a0.toNatClampNeg) 1 a2 M51 _ (mv_bindE h)) (fun _ M54 h => ?_)
                        exact mv_vret rfl dX5_weigh_328 ⟨rfl, h⟩
      · replace h := mv_ifT z h
        exact mv_vret rfl dX5_weigh_21 ⟨rfl, h⟩
theorem dX5_weighTogether_0 : decode cX5_weighTogether 0 = .ok (.iload_n 2, 1) := by decide +kernel
theorem dX5_weighTogether_1 : decode cX5_weighTogether 1 = .ok (.ifCond .eq 20, 3) := by decide +kernel
theorem dX5_weighTogether_4 : decode cX5_weighTogether 4 = .ok (.aload_n 0, 1) := by decide +kernel
theorem dX5_weighTogether_5 : decode cX5_weighTogether 5 = .ok (.getfield 26, 3) := by decide +kernel
theorem dX5_weighTogether_8 : decode cX5_weighTogether 8 = .ok (.iload_n 3, 1) := by decide +kernel
theorem dX5_weighTogether_9 : decode cX5_weighTogether 9 = .ok (.baload, 1) := by decide +kernel
theorem dX5_weighTogether_10 : decode cX5_weighTogether 10 = .ok (.ifCond .ne 11, 3) := by decide +kernel
theorem dX5_weighTogether_13 : decode cX5_weighTogether 13 = .ok (.iload_n 3, 1) := by decide +kernel
theorem dX5_weighTogether_14 : decode cX5_weighTogether 14 = .ok (.iconst 1, 1) := by decide +kernel
theorem dX5_weighTogether_15 : decode cX5_weighTogether 15 = .ok (.iadd, 1) := by decide +kernel
theorem dX5_weighTogether_16 : decode cX5_weighTogether 16 = .ok (.bipush 84, 2) := by decide +kernel
theorem dX5_weighTogether_18 : decode cX5_weighTogether 18 = .ok (.if_icmp .lt 4, 3) := by decide +kernel
theorem dX5_weighTogether_21 : decode cX5_weighTogether 21 = .ok (.return_, 1) := by decide +kernel
theorem dX5_weighTogether_22 : decode cX5_weighTogether 22 = .ok (.aload_n 0, 1) := by decide +kernel
theorem dX5_weighTogether_23 : decode cX5_weighTogether 23 = .ok (.iload_n 1, 1) := by decide +kernel
theorem dX5_weighTogether_24 : decode cX5_weighTogether 24 = .ok (.iload_n 2, 1) := by decide +kernel
theorem dX5_weighTogether_25 : decode cX5_weighTogether 25 = .ok (.iload_n 3, 1) := by decide +kernel
theorem dX5_weighTogether_26 : decode cX5_weighTogether 26 = .ok (.iconst 1, 1) := by decide +kernel
theorem dX5_weighTogether_27 : decode cX5_weighTogether 27 = .ok (.iadd, 1) := by decide +kernel
theorem dX5_weighTogether_28 : decode cX5_weighTogether 28 = .ok (.invokevirtual 66, 3) := by decide +kernel
theorem dX5_weighTogether_31 : decode cX5_weighTogether 31 = .ok (.aload_n 0, 1) := by decide +kernel
theorem dX5_weighTogether_32 : decode cX5_weighTogether 32 = .ok (.getfield 26, 3) := by decide +kernel
theorem dX5_weighTogether_35 : decode cX5_weighTogether 35 = .ok (.iload_n 3, 1) := by decide +kernel
theorem dX5_weighTogether_36 : decode cX5_weighTogether 36 = .ok (.aload_n 0, 1) := by decide +kernel
theorem dX5_weighTogether_37 : decode cX5_weighTogether 37 = .ok (.getfield 26, 3) := by decide +kernel
theorem dX5_weighTogether_40 : decode cX5_weighTogether 40 = .ok (.iload_n 3, 1) := by decide +kernel
theorem dX5_weighTogether_41 : decode cX5_weighTogether 41 = .ok (.iconst 1, 1) := by decide +kernel
theorem dX5_weighTogether_42 : decode cX5_weighTogether 42 = .ok (.iadd, 1) := by decide +kernel
theorem dX5_weighTogether_43 : decode cX5_weighTogether 43 = .ok (.baload, 1) := by decide +kernel
theorem dX5_weighTogether_44 : decode cX5_weighTogether 44 = .ok (.bastore, 1) := by decide +kernel
theorem dX5_weighTogether_45 : decode cX5_weighTogether 45 = .ok (.iload_n 3, 1) := by decide +kernel
theorem dX5_weighTogether_46 : decode cX5_weighTogether 46 = .ok (.bipush 16, 2) := by decide +kernel
theorem dX5_weighTogether_48 : decode cX5_weighTogether 48 = .ok (.imul, 1) := by decide +kernel
theorem dX5_weighTogether_49 : decode cX5_weighTogether 49 = .ok (.istore 4, 2) := by decide +kernel
theorem dX5_weighTogether_51 : decode cX5_weighTogether 51 = .ok (.iconst 0, 1) := by decide +kernel
theorem dX5_weighTogether_52 : decode cX5_weighTogether 52 = .ok (.istore 5, 2) := by decide +kernel
theorem dX5_weighTogether_54 : decode cX5_weighTogether 54 = .ok (.iload 5, 2) := by decide +kernel
theorem dX5_weighTogether_56 : decode cX5_weighTogether 56 = .ok (.aload_n 0, 1) := by decide +kernel
theorem dX5_weighTogether_57 : decode cX5_weighTogether 57 = .ok (.getfield 33, 3) := by decide +kernel
theorem dX5_weighTogether_60 : decode cX5_weighTogether 60 = .ok (.getfield 100, 3) := by decide +kernel
theorem dX5_weighTogether_63 : decode cX5_weighTogether 63 = .ok (.aload_n 0, 1) := by decide +kernel
theorem dX5_weighTogether_64 : decode cX5_weighTogether 64 = .ok (.getfield 51, 3) := by decide +kernel
theorem dX5_weighTogether_67 : decode cX5_weighTogether 67 = .ok (.iaload, 1) := by decide +kernel
theorem dX5_weighTogether_68 : decode cX5_weighTogether 68 = .ok (.if_icmp .ge 67, 3) := by decide +kernel
theorem dX5_weighTogether_71 : decode cX5_weighTogether 71 = .ok (.aload_n 0, 1) := by decide +kernel
theorem dX5_weighTogether_72 : decode cX5_weighTogether 72 = .ok (.getfield 23, 3) := by decide +kernel
theorem dX5_weighTogether_75 : decode cX5_weighTogether 75 = .ok (.iload 4, 2) := by decide +kernel
theorem dX5_weighTogether_77 : decode cX5_weighTogether 77 = .ok (.bipush 16, 2) := by decide +kernel
theorem dX5_weighTogether_79 : decode cX5_weighTogether 79 = .ok (.iadd, 1) := by decide +kernel
theorem dX5_weighTogether_80 : decode cX5_weighTogether 80 = .ok (.iload 5, 2) := by decide +kernel
theorem dX5_weighTogether_82 : decode cX5_weighTogether 82 = .ok (.iadd, 1) := by decide +kernel
theorem dX5_weighTogether_83 : decode cX5_weighTogether 83 = .ok (.iaload, 1) := by decide +kernel
theorem dX5_weighTogether_84 : decode cX5_weighTogether 84 = .ok (.istore 6, 2) := by decide +kernel
theorem dX5_weighTogether_86 : decode cX5_weighTogether 86 = .ok (.iload 6, 2) := by decide +kernel
theorem dX5_weighTogether_88 : decode cX5_weighTogether 88 = .ok (.ifCond .eq 41, 3) := by decide +kernel
theorem dX5_weighTogether_91 : decode cX5_weighTogether 91 = .ok (.aload_n 0, 1) := by decide +kernel
theorem dX5_weighTogether_92 : decode cX5_weighTogether 92 = .ok (.getfield 23, 3) := by decide +kernel
theorem dX5_weighTogether_95 : decode cX5_weighTogether 95 = .ok (.iload 4, 2) := by decide +kernel
theorem dX5_weighTogether_97 : decode cX5_weighTogether 97 = .ok (.iload 5, 2) := by decide +kernel
theorem dX5_weighTogether_99 : decode cX5_weighTogether 99 = .ok (.iadd, 1) := by decide +kernel
theorem dX5_weighTogether_100 : decode cX5_weighTogether 100 = .ok (.aload_n 0, 1) := by decide +kernel
theorem dX5_weighTogether_101 : decode cX5_weighTogether 101 = .ok (.getfield 33, 3) := by decide +kernel
theorem dX5_weighTogether_104 : decode cX5_weighTogether 104 = .ok (.aload_n 0, 1) := by decide +kernel
theorem dX5_weighTogether_105 : decode cX5_weighTogether 105 = .ok (.getfield 51, 3) := by decide +kernel
theorem dX5_weighTogether_108 : decode cX5_weighTogether 108 = .ok (.iload 5, 2) := by decide +kernel
theorem dX5_weighTogether_110 : decode cX5_weighTogether 110 = .ok (.invokevirtual 80, 3) := by decide +kernel
theorem dX5_weighTogether_113 : decode cX5_weighTogether 113 = .ok (.aload_n 0, 1) := by decide +kernel
theorem dX5_weighTogether_114 : decode cX5_weighTogether 114 = .ok (.getfield 23, 3) := by decide +kernel
theorem dX5_weighTogether_117 : decode cX5_weighTogether 117 = .ok (.iload 4, 2) := by decide +kernel
theorem dX5_weighTogether_119 : decode cX5_weighTogether 119 = .ok (.iload 5, 2) := by decide +kernel
theorem dX5_weighTogether_121 : decode cX5_weighTogether 121 = .ok (.iadd, 1) := by decide +kernel
theorem dX5_weighTogether_122 : decode cX5_weighTogether 122 = .ok (.iaload, 1) := by decide +kernel
theorem dX5_weighTogether_123 : decode cX5_weighTogether 123 = .ok (.iload 6, 2) := by decide +kernel
theorem dX5_weighTogether_125 : decode cX5_weighTogether 125 = .ok (.invokestatic 145, 3) := by decide +kernel
theorem dX5_weighTogether_128 : decode cX5_weighTogether 128 = .ok (.iastore, 1) := by decide +kernel
theorem dX5_weighTogether_129 : decode cX5_weighTogether 129 = .ok (.iinc 5 1, 3) := by decide +kernel
theorem dX5_weighTogether_132 : decode cX5_weighTogether 132 = .ok (.goto (-78), 3) := by decide +kernel
theorem dX5_weighTogether_135 : decode cX5_weighTogether 135 = .ok (.return_, 1) := by decide +kernel
noncomputable def fX5_weighTogether_129 (r_X5_weigh : Int32 → Int32 → Int32 → mv_M → Option (Unit × mv_M)) (x4 : Int32) (x5 : Int32) (M : mv_M) : Option (((Int32 × Int32) ⊕ Unit) × mv_M) :=
  mv_let (x5 + 1) fun v19 =>
  some (.inl (x4, v19), M)
set_option maxRecDepth 100000 in
set_option maxHeartbeats 4000000 in
theorem zX5_weighTogether_129 {l : Launch} {d : Nat} {Q : Unit → mv_M → Prop} {r_X5_weigh : Int32 → Int32 → Int32 → mv_M → Option (Unit × mv_M)} (hd : 16 ≤ d) (hr_X5_weigh : ∀ (a0 : Int32) (a1 : Int32) (a2 : Int32) (M : mv_M) (Q : Unit → mv_M → Prop), mv_ok (r_X5_weigh a0 a1 a2 M) Q → mv l mX5_weigh (d - 1) 0 0 (lv_args 0 [.ref 5, .int a0, .int a1, .int a2]) [] M (mv_qV Q)) (x4 : Int32) (x5 : Int32) (M : mv_M) (h : mv_ok (fX5_weighTogether_129 r_X5_weigh x4 x5 M) (mv_pq (fun (s : Int32 × Int32) M => mv l mX5_weighTogether d 0 54 [(0, .ref 5), (4, .int s.1), (5, .int s.2)] [] M (mv_qV Q)) Q)) : mv l mX5_weighTogether d 0 129 [(0, .ref 5), (4, .int x4), (5, .int x5)] [] M (mv_qV Q) := by
  unfold fX5_weighTogether_129 at h
  obtain ⟨v19, ev19⟩ : ∃ z : Int32, z = x5 + 1 := ⟨_, rfl⟩
  replace h := mv_letE h v19 ev19
  refine mv_iinc v19 2 [(5, .int v19), (0, .ref 5), (4, .int x4)] dX5_weighTogether_129 rfl (by rw [ev19]; rfl) (by decide) rfl ?_
  refine mv_goto 54 dX5_weighTogether_132 (by decide) ?_
  refine mv_sub [1, 2, 0] rfl ?_
  exact h
noncomputable def gX5_weighTogether_54 (r_X5_weigh : Int32 → Int32 → Int32 → mv_M → Option (Unit × mv_M)) (x4 : Int32) (x5 : Int32) (M : mv_M) : Option (((Int32 × Int32) ⊕ Unit) × mv_M) :=
  mv_getp (M.2.2 5 1) fun b7 =>
  mv_chk (mv_inb (M.1 5 2) 12) <|
  if (M.1 (b7 + 3) (M.1 5 2).toNatClampNeg) ≤ x5 then
    some (.inr (()), M)
  else
    mv_chk (mv_inb ((x4 + 16) + x5) 1344) <|
    mv_let (M.1 46 ((x4 + 16) + x5).toNatClampNeg) fun v10 =>
    if v10 = 0 then
      fX5_weighTogether_129 r_X5_weigh x4 x5 M
    else
      mv_getp (M.2.2 5 1) fun b11 =>
      mv_bind (fX4_nameType b11 (M.1 5 2) x5 M) fun r12 M13 =>
      mv_chk (mv_inb (x4 + x5) 1344) <|
      mv_bind (tX6_together r12 (M13.1 46 (x4 + x5).toNatClampNeg) v10 M13) fun r15 M16 =>
      mv_chk (mv_inb (x4 + x5) 1344) <|
      mv_let (mv_si M16 46 (x4 + x5).toNatClampNeg r15) fun M18 =>
      fX5_weighTogether_129 r_X5_weigh x4 x5 M18
noncomputable def fX5_weighTogether_54 (r_X5_weigh : Int32 → Int32 → Int32 → mv_M → Option (Unit × mv_M)) (x4 : Int32) (x5 : Int32) (M : mv_M) : Option (Unit × mv_M) := mv_loop (fun (s : Int32 × Int32) M => gX5_weighTogether_54 r_X5_weigh s.1 s.2 M) (x4, x5) M
set_option maxRecDepth 100000 in
set_option maxHeartbeats 4000000 in
theorem zX5_weighTogether_54 {l : Launch} {d : Nat} {Q : Unit → mv_M → Prop} {r_X5_weigh : Int32 → Int32 → Int32 → mv_M → Option (Unit × mv_M)} (hd : 16 ≤ d) (hr_X5_weigh : ∀ (a0 : Int32) (a1 : Int32) (a2 : Int32) (M : mv_M) (Q : Unit → mv_M → Prop), mv_ok (r_X5_weigh a0 a1 a2 M) Q → mv l mX5_weigh (d - 1) 0 0 (lv_args 0 [.ref 5, .int a0, .int a1, .int a2]) [] M (mv_qV Q)) (x4 : Int32) (x5 : Int32) (M : mv_M) (h : mv_ok (fX5_weighTogether_54 r_X5_weigh x4 x5 M) Q) : mv l mX5_weighTogether d 0 54 [(0, .ref 5), (4, .int x4), (5, .int x5)] [] M (mv_qV Q) := by
  unfold fX5_weighTogether_54 at h
  refine mv_loopE (A := (fun (s : Int32 × Int32) M => mv l mX5_weighTogether d 0 54 [(0, .ref 5), (4, .int s.1), (5, .int s.2)] [] M (mv_qV Q))) ?_ (x4, x5) M h
  · rintro ⟨x4, x5⟩ M h
    try dsimp only at h
    show mv l mX5_weighTogether d 0 54 [(0, .ref 5), (4, .int x4), (5, .int x5)] [] M (mv_qV Q)
    unfold gX5_weighTogether_54 at h
    refine mv_iload 2 dX5_weighTogether_54 rfl ?_
    refine mv_aload_n 0 dX5_weighTogether_56 rfl ?_
    obtain ⟨b7, eb7, hb7, h⟩ := mv_getpE h
    refine mv_getP b7 fX5_33 (by decide) rfl rfl eb7 dX5_weighTogether_57 ?_
    refine mv_getR (b7 + 3) fX5_100 (mv_pN (t := 0) hb7 (by decide)) (by rcases hb7 with rfl | rfl <;> rfl) rfl (by rcases hb7 with rfl | rfl <;> rfl) dX5_weighTogether_60 ?_
    refine mv_aload_n 0 dX5_weighTogether_63 rfl ?_
    refine mv_getI fX5_51 (by decide) rfl rfl dX5_weighTogether_64 ?_
    obtain ⟨hi8, h⟩ := mv_chkE h
    refine mv_ild (mv_pN (t := 3) hb7 (by decide)) (by rcases hb7 with rfl | rfl <;> rfl) (mv_inE hi8) dX5_weighTogether_67 ?_
    refine mv_icmp_ge 135 dX5_weighTogether_68 (by decide) (fun z => ?_) (fun z => ?_)
    · replace h := mv_ifT z h
      exact mv_vret rfl dX5_weighTogether_135 ⟨rfl, h⟩
    · replace h := mv_ifF z h
      refine mv_aload_n 0 dX5_weighTogether_71 rfl ?_
      refine mv_getR 46 fX5_23 (by decide) rfl rfl rfl dX5_weighTogether_72 ?_
      refine mv_iload 1 dX5_weighTogether_75 rfl ?_
      refine mv_bipush 16 dX5_weighTogether_77 (by decide) ?_
      refine mv_iadd dX5_weighTogether_79 ?_
      refine mv_iload 2 dX5_weighTogether_80 rfl ?_
      refine mv_iadd dX5_weighTogether_82 ?_
      obtain ⟨hi9, h⟩ := mv_chkE h
      refine mv_ild (by decide) rfl (mv_inE hi9) dX5_weighTogether_83 ?_
      refine mv_topi (fun v10 ev10 => ?_)
      replace h := mv_letE h v10 ev10
      refine mv_istore [(6, .int v10), (0, .ref 5), (4, .int x4), (5, .int x5)] dX5_weighTogether_84 (by decide) rfl ?_
      refine mv_iload 0 dX5_weighTogether_86 rfl ?_
      refine mv_if_eq 129 dX5_weighTogether_88 (by decide) (fun z => ?_) (fun z => ?_)
      · replace h := mv_ifT z h
        refine mv_sub [1, 2, 3] rfl ?_
        exact zX5_weighTogether_129 hd hr_X5_weigh x4 x5 M h
      · replace h := mv_ifF z h
        refine mv_aload_n 1 dX5_weighTogether_91 rfl ?_
        refine mv_getR 46 fX5_23 (by decide) rfl rfl rfl dX5_weighTogether_92 ?_
        refine mv_iload 2 dX5_weighTogether_95 rfl ?_
        refine mv_iload 3 dX5_weighTogether_97 rfl ?_
        refine mv_iadd dX5_weighTogether_99 ?_
        refine mv_aload_n 1 dX5_weighTogether_100 rfl ?_
        obtain ⟨b11, eb11, hb11, h⟩ := mv_getpE h
        refine mv_getP b11 fX5_33 (by decide) rfl rfl eb11 dX5_weighTogether_101 ?_
        refine mv_aload_n 1 dX5_weighTogether_104 rfl ?_
        refine mv_getI fX5_51 (by decide) rfl rfl dX5_weighTogether_105 ?_
        refine mv_iload 3 dX5_weighTogether_108 rfl ?_
        refine mv_cvI (As := [.int (M.1 5 2), .int x5]) (st := [.int (x4 + x5), .ref 46]) okX4_nameType lX5_80 (mv_pN (t := 0) hb11 (by decide)) (by rcases hb11 with rfl | rfl <;> rfl) rfl rfl (Nat.le_of_ble_eq_true rfl) rfl (Nat.le_of_ble_eq_true rfl) dX5_weighTogether_110 (by omega) rfl (zX4_nameType (d := d - 1) (by omega) b11 (M.1 5 2) x5 M hb11 (mv_bindE h)) (fun r12 M13 h => ?_)
        refine mv_aload_n 1 dX5_weighTogether_113 rfl ?_
        refine mv_getR 46 fX5_23 (by decide) rfl rfl rfl dX5_weighTogether_114 ?_
        refine mv_iload 2 dX5_weighTogether_117 rfl ?_
        refine mv_iload 3 dX5_weighTogether_119 rfl ?_
        refine mv_iadd dX5_weighTogether_121 ?_
        obtain ⟨hi14, h⟩ := mv_chkE h
        refine mv_ild (by decide) rfl (mv_inE hi14) dX5_weighTogether_122 ?_
        refine mv_iload 0 dX5_weighTogether_123 rfl ?_
        refine mv_csI (As := [.int r12, .int (M13.1 46 (x4 + x5).toNatClampNeg), .int v10]) (st := [.int (x4 + x5), .ref 46]) okX6_together lX5_145 rfl (Nat.le_of_ble_eq_true rfl) rfl (Nat.le_of_ble_eq_true rfl) dX5_weighTogether_125 (by omega) rfl (ztX6_together (d := d - 1) (by omega) r12 (M13.1 46 (x4 + x5).toNatClampNeg) v10 M13 (mv_bindE h)) (fun r15 M16 h => ?_)
        obtain ⟨hi17, h⟩ := mv_chkE h
        refine mv_ist (by decide) rfl (mv_inE hi17) dX5_weighTogether_128 (fun M18 eM18 => ?_)
        replace h := mv_letE h M18 eM18
        refine mv_sub [1, 2, 3] rfl ?_
        exact zX5_weighTogether_129 hd hr_X5_weigh x4 x5 M18 h
noncomputable def fX5_weighTogether (r_X5_weigh : Int32 → Int32 → Int32 → mv_M → Option (Unit × mv_M)) (a0 : Int32) (a1 : Int32) (a2 : Int32) (M : mv_M) : Option (Unit × mv_M) :=
  if a1 = 0 then
    some ((), M)
  else
    mv_chk (mv_inb a2 84) <|
    if (M.1 47 a2.toNatClampNeg) = 0 then
      if (a2 + 1) < 84 then
        mv_bind (r_X5_weigh a0 a1 (a2 + 1) M) fun _ M2 =>
        mv_chk (mv_inb (a2 + 1) 84) <|
        mv_chk (mv_inb a2 84) <|
        mv_let (mv_si M2 47 a2.toNatClampNeg (vp_nar .boolean (M2.1 47 (a2 + 1).toNatClampNeg))) fun M5 =>
        mv_let (a2 * 16) fun v6 =>
        fX5_weighTogether_54 r_X5_weigh v6 0 M5
      else
        some ((), M)
    else
      some ((), M)
set_option maxRecDepth 100000 in
set_option maxHeartbeats 4000000 in
theorem zX5_weighTogether {l : Launch} {d : Nat} {Q : Unit → mv_M → Prop} {r_X5_weigh : Int32 → Int32 → Int32 → mv_M → Option (Unit × mv_M)} (hd : 16 ≤ d) (hr_X5_weigh : ∀ (a0 : Int32) (a1 : Int32) (a2 : Int32) (M : mv_M) (Q : Unit → mv_M → Prop), mv_ok (r_X5_weigh a0 a1 a2 M) Q → mv l mX5_weigh (d - 1) 0 0 (lv_args 0 [.ref 5, .int a0, .int a1, .int a2]) [] M (mv_qV Q)) (a0 : Int32) (a1 : Int32) (a2 : Int32) (M : mv_M) (h : mv_ok (fX5_weighTogether r_X5_weigh a0 a1 a2 M) Q) : mv l mX5_weighTogether d 0 0 (lv_args 0 [.ref 5, .int a0, .int a1, .int a2]) [] M (mv_qV Q) := by
  unfold fX5_weighTogether at h
  show mv l mX5_weighTogether d 0 0 [(0, .ref 5), (1, .int a0), (2, .int a1), (3, .int a2)] [] M (mv_qV Q)
  refine mv_iload_n 2 dX5_weighTogether_0 rfl ?_
  refine mv_if_eq 21 dX5_weighTogether_1 (by decide) (fun z => ?_) (fun z => ?_)
  · replace h := mv_ifT z h
    exact mv_vret rfl dX5_weighTogether_21 ⟨rfl, h⟩
  · replace h := mv_ifF z h
    refine mv_aload_n 0 dX5_weighTogether_4 rfl ?_
    refine mv_getR 47 fX5_26 (by decide) rfl rfl rfl dX5_weighTogether_5 ?_
    refine mv_iload_n 3 dX5_weighTogether_8 rfl ?_
    obtain ⟨hi1, h⟩ := mv_chkE h
    refine mv_zld (by decide) rfl (mv_inE hi1) dX5_weighTogether_9 ?_
    refine mv_if_ne 21 dX5_weighTogether_10 (by decide) (fun z => ?_) (fun z => ?_)
    · replace h := mv_ifF z h
      exact mv_vret rfl dX5_weighTogether_21 ⟨rfl, h⟩
    · replace h := mv_ifT z h
      refine mv_iload_n 3 dX5_weighTogether_13 rfl ?_
      refine mv_iconst 1 dX5_weighTogether_14 (by decide) ?_
      refine mv_iadd dX5_weighTogether_15 ?_
      refine mv_bipush 84 dX5_weighTogether_16 (by decide) ?_
      refine mv_icmp_lt 22 dX5_weighTogether_18 (by decide) (fun z => ?_) (fun z => ?_)
      · replace h := mv_ifT z h
        refine mv_aload_n 0 dX5_weighTogether_22 rfl ?_
        refine mv_iload_n 1 dX5_weighTogether_23 rfl ?_
        refine mv_iload_n 2 dX5_weighTogether_24 rfl ?_
        refine mv_iload_n 3 dX5_weighTogether_25 rfl ?_
        refine mv_iconst 1 dX5_weighTogether_26 (by decide) ?_
        refine mv_iadd dX5_weighTogether_27 ?_
        refine mv_cvV (As := [.int a0, .int a1, .int (a2 + 1)]) (st := []) okX5_weigh lX5_66 (by decide) rfl rfl rfl (Nat.le_of_ble_eq_true rfl) rfl (Nat.le_of_ble_eq_true rfl) dX5_weighTogether_28 (by omega) rfl (hr_X5_weigh a0 a1 (a2 + 1) M _ (mv_bindE h)) (fun _ M2 h => ?_)
        refine mv_aload_n 0 dX5_weighTogether_31 rfl ?_
        refine mv_getR 47 fX5_26 (by decide) rfl rfl rfl dX5_weighTogether_32 ?_
        refine mv_iload_n 3 dX5_weighTogether_35 rfl ?_
        refine mv_aload_n 0 dX5_weighTogether_36 rfl ?_
        refine mv_getR 47 fX5_26 (by decide) rfl rfl rfl dX5_weighTogether_37 ?_
        refine mv_iload_n 3 dX5_weighTogether_40 rfl ?_
        refine mv_iconst 1 dX5_weighTogether_41 (by decide) ?_
        refine mv_iadd dX5_weighTogether_42 ?_
        obtain ⟨hi3, h⟩ := mv_chkE h
        refine mv_zld (by decide) rfl (mv_inE hi3) dX5_weighTogether_43 ?_
        obtain ⟨hi4, h⟩ := mv_chkE h
        refine mv_zst (by decide) rfl (mv_inE hi4) dX5_weighTogether_44 (fun M5 eM5 => ?_)
        replace h := mv_letE h M5 eM5
        refine mv_iload_n 3 dX5_weighTogether_45 rfl ?_
        refine mv_bipush 16 dX5_weighTogether_46 (by decide) ?_
        refine mv_imul dX5_weighTogether_48 ?_
        refine mv_topi (fun v6 ev6 => ?_)
        replace h := mv_letE h v6 ev6
        refine mv_istore [(4, .int v6), (0, .ref 5), (1, .int a0), (2, .int a1), (3, .int a2)] dX5_weighTogether_49 (by decide) rfl ?_
        refine mv_iconst 0 dX5_weighTogether_51 (by decide) ?_
        refine mv_istore [(5, .int 0), (4, .int v6), (0, .ref 5), (1, .int a0), (2, .int a1), (3, .int a2)] dX5_weighTogether_52 (by decide) rfl ?_
        refine mv_sub [2, 1, 0] rfl ?_
        exact zX5_weighTogether_54 hd hr_X5_weigh v6 0 M5 h
      · replace h := mv_ifF z h
        exact mv_vret rfl dX5_weighTogether_21 ⟨rfl, h⟩
theorem dX5_weighIf_0 : decode cX5_weighIf 0 = .ok (.iload_n 3, 1) := by decide +kernel
theorem dX5_weighIf_1 : decode cX5_weighIf 1 = .ok (.iconst 1, 1) := by decide +kernel
theorem dX5_weighIf_2 : decode cX5_weighIf 2 = .ok (.iadd, 1) := by decide +kernel
theorem dX5_weighIf_3 : decode cX5_weighIf 3 = .ok (.bipush 84, 2) := by decide +kernel
theorem dX5_weighIf_5 : decode cX5_weighIf 5 = .ok (.if_icmp .lt 4, 3) := by decide +kernel
theorem dX5_weighIf_8 : decode cX5_weighIf 8 = .ok (.return_, 1) := by decide +kernel
theorem dX5_weighIf_9 : decode cX5_weighIf 9 = .ok (.aload_n 0, 1) := by decide +kernel
theorem dX5_weighIf_10 : decode cX5_weighIf 10 = .ok (.aload_n 0, 1) := by decide +kernel
theorem dX5_weighIf_11 : decode cX5_weighIf 11 = .ok (.getfield 33, 3) := by decide +kernel
theorem dX5_weighIf_14 : decode cX5_weighIf 14 = .ok (.getfield 136, 3) := by decide +kernel
theorem dX5_weighIf_17 : decode cX5_weighIf 17 = .ok (.iload_n 1, 1) := by decide +kernel
theorem dX5_weighIf_18 : decode cX5_weighIf 18 = .ok (.iaload, 1) := by decide +kernel
theorem dX5_weighIf_19 : decode cX5_weighIf 19 = .ok (.iload_n 2, 1) := by decide +kernel
theorem dX5_weighIf_20 : decode cX5_weighIf 20 = .ok (.iload_n 3, 1) := by decide +kernel
theorem dX5_weighIf_21 : decode cX5_weighIf 21 = .ok (.invokevirtual 66, 3) := by decide +kernel
theorem dX5_weighIf_24 : decode cX5_weighIf 24 = .ok (.aload_n 0, 1) := by decide +kernel
theorem dX5_weighIf_25 : decode cX5_weighIf 25 = .ok (.aload_n 0, 1) := by decide +kernel
theorem dX5_weighIf_26 : decode cX5_weighIf 26 = .ok (.getfield 33, 3) := by decide +kernel
theorem dX5_weighIf_29 : decode cX5_weighIf 29 = .ok (.getfield 148, 3) := by decide +kernel
theorem dX5_weighIf_32 : decode cX5_weighIf 32 = .ok (.iload_n 1, 1) := by decide +kernel
theorem dX5_weighIf_33 : decode cX5_weighIf 33 = .ok (.iaload, 1) := by decide +kernel
theorem dX5_weighIf_34 : decode cX5_weighIf 34 = .ok (.iload_n 2, 1) := by decide +kernel
theorem dX5_weighIf_35 : decode cX5_weighIf 35 = .ok (.iload_n 3, 1) := by decide +kernel
theorem dX5_weighIf_36 : decode cX5_weighIf 36 = .ok (.iconst 1, 1) := by decide +kernel
theorem dX5_weighIf_37 : decode cX5_weighIf 37 = .ok (.iadd, 1) := by decide +kernel
theorem dX5_weighIf_38 : decode cX5_weighIf 38 = .ok (.invokevirtual 66, 3) := by decide +kernel
theorem dX5_weighIf_41 : decode cX5_weighIf 41 = .ok (.aload_n 0, 1) := by decide +kernel
theorem dX5_weighIf_42 : decode cX5_weighIf 42 = .ok (.iload_n 3, 1) := by decide +kernel
theorem dX5_weighIf_43 : decode cX5_weighIf 43 = .ok (.invokevirtual 151, 3) := by decide +kernel
theorem dX5_weighIf_46 : decode cX5_weighIf 46 = .ok (.aload_n 0, 1) := by decide +kernel
theorem dX5_weighIf_47 : decode cX5_weighIf 47 = .ok (.aload_n 0, 1) := by decide +kernel
theorem dX5_weighIf_48 : decode cX5_weighIf 48 = .ok (.getfield 33, 3) := by decide +kernel
theorem dX5_weighIf_51 : decode cX5_weighIf 51 = .ok (.getfield 112, 3) := by decide +kernel
theorem dX5_weighIf_54 : decode cX5_weighIf 54 = .ok (.iload_n 1, 1) := by decide +kernel
theorem dX5_weighIf_55 : decode cX5_weighIf 55 = .ok (.iaload, 1) := by decide +kernel
theorem dX5_weighIf_56 : decode cX5_weighIf 56 = .ok (.iconst 1, 1) := by decide +kernel
theorem dX5_weighIf_57 : decode cX5_weighIf 57 = .ok (.iload_n 3, 1) := by decide +kernel
theorem dX5_weighIf_58 : decode cX5_weighIf 58 = .ok (.invokevirtual 133, 3) := by decide +kernel
theorem dX5_weighIf_61 : decode cX5_weighIf 61 = .ok (.return_, 1) := by decide +kernel
noncomputable def fX5_weighIf (r_X5_weigh : Int32 → Int32 → Int32 → mv_M → Option (Unit × mv_M)) (r_X5_weighTogether : Int32 → Int32 → Int32 → mv_M → Option (Unit × mv_M)) (a0 : Int32) (a1 : Int32) (a2 : Int32) (M : mv_M) : Option (Unit × mv_M) :=
  if (a2 + 1) < 84 then
    mv_getp (M.2.2 5 1) fun b1 =>
    mv_chk (mv_inb a0 1000) <|
    mv_bind (r_X5_weigh (M.1 (b1 + 10) a0.toNatClampNeg) a1 a2 M) fun _ M3 =>
    mv_getp (M3.2.2 5 1) fun b4 =>
    mv_chk (mv_inb a0 1000) <|
    mv_bind (r_X5_weigh (M3.1 (b4 + 11) a0.toNatClampNeg) a1 (a2 + 1) M3) fun _ M6 =>
    mv_bind (fX5_takeEither a2 M6) fun _ M7 =>
    mv_getp (M7.2.2 5 1) fun b8 =>
    mv_chk (mv_inb a0 1000) <|
    mv_bind (r_X5_weighTogether (M7.1 (b8 + 9) a0.toNatClampNeg) 1 a2 M7) fun _ M10 =>
    some ((), M10)
  else
    some ((), M)
set_option maxRecDepth 100000 in
set_option maxHeartbeats 4000000 in
theorem zX5_weighIf {l : Launch} {d : Nat} {Q : Unit → mv_M → Prop} {r_X5_weigh : Int32 → Int32 → Int32 → mv_M → Option (Unit × mv_M)} {r_X5_weighTogether : Int32 → Int32 → Int32 → mv_M → Option (Unit × mv_M)} (hd : 17 ≤ d) (hr_X5_weigh : ∀ (a0 : Int32) (a1 : Int32) (a2 : Int32) (M : mv_M) (Q : Unit → mv_M → Prop), mv_ok (r_X5_weigh a0 a1 a2 M) Q → mv l mX5_weigh (d - 1) 0 0 (lv_args 0 [.ref 5, .int a0, .int a1, .int a2]) [] M (mv_qV Q)) (hr_X5_weighTogether : ∀ (a0 : Int32) (a1 : Int32) (a2 : Int32) (M : mv_M) (Q : Unit → mv_M → Prop), mv_ok (r_X5_weighTogether a0 a1 a2 M) Q → mv l mX5_weighTogether (d - 1) 0 0 (lv_args 0 [.ref 5, .int a0, .int a1, .int a2]) [] M (mv_qV Q)) (a0 : Int32) (a1 : Int32) (a2 : Int32) (M : mv_M) (h : mv_ok (fX5_weighIf r_X5_weigh r_X5_weighTogether a0 a1 a2 M) Q) : mv l mX5_weighIf d 0 0 (lv_args 0 [.ref 5, .int a0, .int a1, .int a2]) [] M (mv_qV Q) := by
  unfold fX5_weighIf at h
  show mv l mX5_weighIf d 0 0 [(0, .ref 5), (1, .int a0), (2, .int a1), (3, .int a2)] [] M (mv_qV Q)
  refine mv_iload_n 3 dX5_weighIf_0 rfl ?_
  refine mv_iconst 1 dX5_weighIf_1 (by decide) ?_
  refine mv_iadd dX5_weighIf_2 ?_
  refine mv_bipush 84 dX5_weighIf_3 (by decide) ?_
  refine mv_icmp_lt 9 dX5_weighIf_5 (by decide) (fun z => ?_) (fun z => ?_)
  · replace h := mv_ifT z h
    refine mv_aload_n 0 dX5_weighIf_9 rfl ?_
    refine mv_aload_n 0 dX5_weighIf_10 rfl ?_
    obtain ⟨b1, eb1, hb1, h⟩ := mv_getpE h
    refine mv_getP b1 fX5_33 (by decide) rfl rfl eb1 dX5_weighIf_11 ?_
    refine mv_getR (b1 + 10) fX5_136 (mv_pN (t := 0) hb1 (by decide)) (by rcases hb1 with rfl | rfl <;> rfl) rfl (by rcases hb1 with rfl | rfl <;> rfl) dX5_weighIf_14 ?_
    refine mv_iload_n 1 dX5_weighIf_17 rfl ?_
    obtain ⟨hi2, h⟩ := mv_chkE h
    refine mv_ild (mv_pN (t := 10) hb1 (by decide)) (by rcases hb1 with rfl | rfl <;> rfl) (mv_inE hi2) dX5_weighIf_18 ?_
    refine mv_iload_n 2 dX5_weighIf_19 rfl ?_
    refine mv_iload_n 3 dX5_weighIf_20 rfl ?_
    refine mv_cvV (As := [.int (M.1 (b1 + 10) a0.toNatClampNeg), .int a1, .int a2]) (st := []) okX5_weigh lX5_66 (by decide) rfl rfl rfl (Nat.le_of_ble_eq_true rfl) rfl (Nat.le_of_ble_eq_true rfl) dX5_weighIf_21 (by omega) rfl (hr_X5_weigh (M.1 (b1 + 10) a0.toNatClampNeg) a1 a2 M _ (mv_bindE h)) (fun _ M3 h => ?_)
    refine mv_aload_n 0 dX5_weighIf_24 rfl ?_
    refine mv_aload_n 0 dX5_weighIf_25 rfl ?_
    obtain ⟨b4, eb4, hb4, h⟩ := mv_getpE h
    refine mv_getP b4 fX5_33 (by decide) rfl rfl eb4 dX5_weighIf_26 ?_
    refine mv_getR (b4 + 11) fX5_148 (mv_pN (t := 0) hb4 (by decide)) (by rcases hb4 with rfl | rfl <;> rfl) rfl (by rcases hb4 with rfl | rfl <;> rfl) dX5_weighIf_29 ?_
    refine mv_iload_n 1 dX5_weighIf_32 rfl ?_
    obtain ⟨hi5, h⟩ := mv_chkE h
    refine mv_ild (mv_pN (t := 11) hb4 (by decide)) (by rcases hb4 with rfl | rfl <;> rfl) (mv_inE hi5) dX5_weighIf_33 ?_
    refine mv_iload_n 2 dX5_weighIf_34 rfl ?_
    refine mv_iload_n 3 dX5_weighIf_35 rfl ?_
    refine mv_iconst 1 dX5_weighIf_36 (by decide) ?_
    refine mv_iadd dX5_weighIf_37 ?_
    refine mv_cvV (As := [.int (M3.1 (b4 + 11) a0.toNatClampNeg), .int a1, .int (a2 + 1)]) (st := []) okX5_weigh lX5_66 (by decide) rfl rfl rfl (Nat.le_of_ble_eq_true rfl) rfl (Nat.le_of_ble_eq_true rfl) dX5_weighIf_38 (by omega) rfl (hr_X5_weigh (M3.1 (b4 + 11) a0.toNatClampNeg) a1 (a2 + 1) M3 _ (mv_bindE h)) (fun _ M6 h => ?_)
    refine mv_aload_n 0 dX5_weighIf_41 rfl ?_
    refine mv_iload_n 3 dX5_weighIf_42 rfl ?_
    refine mv_cvV (As := [.int a2]) (st := []) okX5_takeEither lX5_151 (by decide) rfl rfl rfl (Nat.le_of_ble_eq_true rfl) rfl (Nat.le_of_ble_eq_true rfl) dX5_weighIf_43 (by omega) rfl (zX5_takeEither (d := d - 1) (by omega) a2 M6 (mv_bindE h)) (fun _ M7 h => ?_)
    refine mv_aload_n 0 dX5_weighIf_46 rfl ?_
    refine mv_aload_n 0 dX5_weighIf_47 rfl ?_
    obtain ⟨b8, eb8, hb8, h⟩ := mv_getpE h
    refine mv_getP b8 fX5_33 (by decide) rfl rfl eb8 dX5_weighIf_48 ?_
    refine mv_getR (b8 + 9) fX5_112 (mv_pN (t := 0) hb8 (by decide)) (by rcases hb8 with rfl | rfl <;> rfl) rfl (by rcases hb8 with rfl | rfl <;> rfl) dX5_weighIf_51 ?_
    refine mv_iload_n 1 dX5_weighIf_54 rfl ?_
    obtain ⟨hi9, h⟩ := mv_chkE h
    refine mv_ild (mv_pN (t := 9) hb8 (by decide)) (by rcases hb8 with rfl | rfl <;> rfl) (mv_inE hi9) dX5_weighIf_55 ?_
    refine mv_iconst 1 dX5_weighIf_56 (by decide) ?_
    refine mv_iload_n 3 dX5_weighIf_57 rfl ?_
    refine mv_cvV (As := [.int (M7.1 (b8 + 9) a0.toNatClampNeg), .int 1, .int a2]) (st := []) okX5_weighTogether lX5_133 (by decide) rfl rfl rfl (Nat.le_of_ble_eq_true rfl) rfl (Nat.le_of_ble_eq_true rfl) dX5_weighIf_58 (by omega) rfl (hr_X5_weighTogether (M7.1 (b8 + 9) a0.toNatClampNeg) 1 a2 M7 _ (mv_bindE h)) (fun _ M10 h => ?_)
    exact mv_vret rfl dX5_weighIf_61 ⟨rfl, h⟩
  · replace h := mv_ifF z h
    exact mv_vret rfl dX5_weighIf_8 ⟨rfl, h⟩
theorem dX5_weighLet_0 : decode cX5_weighLet 0 = .ok (.aload_n 0, 1) := by decide +kernel
theorem dX5_weighLet_1 : decode cX5_weighLet 1 = .ok (.aload_n 0, 1) := by decide +kernel
theorem dX5_weighLet_2 : decode cX5_weighLet 2 = .ok (.getfield 33, 3) := by decide +kernel
theorem dX5_weighLet_5 : decode cX5_weighLet 5 = .ok (.getfield 136, 3) := by decide +kernel
theorem dX5_weighLet_8 : decode cX5_weighLet 8 = .ok (.iload_n 1, 1) := by decide +kernel
theorem dX5_weighLet_9 : decode cX5_weighLet 9 = .ok (.iaload, 1) := by decide +kernel
theorem dX5_weighLet_10 : decode cX5_weighLet 10 = .ok (.iload_n 2, 1) := by decide +kernel
theorem dX5_weighLet_11 : decode cX5_weighLet 11 = .ok (.iload_n 3, 1) := by decide +kernel
theorem dX5_weighLet_12 : decode cX5_weighLet 12 = .ok (.invokevirtual 66, 3) := by decide +kernel
theorem dX5_weighLet_15 : decode cX5_weighLet 15 = .ok (.aload_n 0, 1) := by decide +kernel
theorem dX5_weighLet_16 : decode cX5_weighLet 16 = .ok (.aload_n 0, 1) := by decide +kernel
theorem dX5_weighLet_17 : decode cX5_weighLet 17 = .ok (.getfield 33, 3) := by decide +kernel
theorem dX5_weighLet_20 : decode cX5_weighLet 20 = .ok (.getfield 112, 3) := by decide +kernel
theorem dX5_weighLet_23 : decode cX5_weighLet 23 = .ok (.iload_n 1, 1) := by decide +kernel
theorem dX5_weighLet_24 : decode cX5_weighLet 24 = .ok (.iaload, 1) := by decide +kernel
theorem dX5_weighLet_25 : decode cX5_weighLet 25 = .ok (.aload_n 0, 1) := by decide +kernel
theorem dX5_weighLet_26 : decode cX5_weighLet 26 = .ok (.iload_n 3, 1) := by decide +kernel
theorem dX5_weighLet_27 : decode cX5_weighLet 27 = .ok (.aload_n 0, 1) := by decide +kernel
theorem dX5_weighLet_28 : decode cX5_weighLet 28 = .ok (.getfield 33, 3) := by decide +kernel
theorem dX5_weighLet_31 : decode cX5_weighLet 31 = .ok (.getfield 148, 3) := by decide +kernel
theorem dX5_weighLet_34 : decode cX5_weighLet 34 = .ok (.iload_n 1, 1) := by decide +kernel
theorem dX5_weighLet_35 : decode cX5_weighLet 35 = .ok (.iaload, 1) := by decide +kernel
theorem dX5_weighLet_36 : decode cX5_weighLet 36 = .ok (.invokevirtual 155, 3) := by decide +kernel
theorem dX5_weighLet_39 : decode cX5_weighLet 39 = .ok (.iload_n 3, 1) := by decide +kernel
theorem dX5_weighLet_40 : decode cX5_weighLet 40 = .ok (.invokevirtual 133, 3) := by decide +kernel
theorem dX5_weighLet_43 : decode cX5_weighLet 43 = .ok (.return_, 1) := by decide +kernel
noncomputable def fX5_weighLet (r_X5_weigh : Int32 → Int32 → Int32 → mv_M → Option (Unit × mv_M)) (r_X5_weighTogether : Int32 → Int32 → Int32 → mv_M → Option (Unit × mv_M)) (a0 : Int32) (a1 : Int32) (a2 : Int32) (M : mv_M) : Option (Unit × mv_M) :=
  mv_getp (M.2.2 5 1) fun b1 =>
  mv_chk (mv_inb a0 1000) <|
  mv_bind (r_X5_weigh (M.1 (b1 + 10) a0.toNatClampNeg) a1 a2 M) fun _ M3 =>
  mv_getp (M3.2.2 5 1) fun b4 =>
  mv_chk (mv_inb a0 1000) <|
  mv_getp (M3.2.2 5 1) fun b6 =>
  mv_chk (mv_inb a0 1000) <|
  mv_bind (fX5_onSheet a2 (M3.1 (b6 + 11) a0.toNatClampNeg) M3) fun r8 M9 =>
  mv_bind (r_X5_weighTogether (M3.1 (b4 + 9) a0.toNatClampNeg) r8 a2 M9) fun _ M10 =>
  some ((), M10)
set_option maxRecDepth 100000 in
set_option maxHeartbeats 4000000 in
theorem zX5_weighLet {l : Launch} {d : Nat} {Q : Unit → mv_M → Prop} {r_X5_weigh : Int32 → Int32 → Int32 → mv_M → Option (Unit × mv_M)} {r_X5_weighTogether : Int32 → Int32 → Int32 → mv_M → Option (Unit × mv_M)} (hd : 3 ≤ d) (hr_X5_weigh : ∀ (a0 : Int32) (a1 : Int32) (a2 : Int32) (M : mv_M) (Q : Unit → mv_M → Prop), mv_ok (r_X5_weigh a0 a1 a2 M) Q → mv l mX5_weigh (d - 1) 0 0 (lv_args 0 [.ref 5, .int a0, .int a1, .int a2]) [] M (mv_qV Q)) (hr_X5_weighTogether : ∀ (a0 : Int32) (a1 : Int32) (a2 : Int32) (M : mv_M) (Q : Unit → mv_M → Prop), mv_ok (r_X5_weighTogether a0 a1 a2 M) Q → mv l mX5_weighTogether (d - 1) 0 0 (lv_args 0 [.ref 5, .int a0, .int a1, .int a2]) [] M (mv_qV Q)) (a0 : Int32) (a1 : Int32) (a2 : Int32) (M : mv_M) (h : mv_ok (fX5_weighLet r_X5_weigh r_X5_weighTogether a0 a1 a2 M) Q) : mv l mX5_weighLet d 0 0 (lv_args 0 [.ref 5, .int a0, .int a1, .int a2]) [] M (mv_qV Q) := by
  unfold fX5_weighLet at h
  show mv l mX5_weighLet d 0 0 [(0, .ref 5), (1, .int a0), (2, .int a1), (3, .int a2)] [] M (mv_qV Q)
  refine mv_aload_n 0 dX5_weighLet_0 rfl ?_
  refine mv_aload_n 0 dX5_weighLet_1 rfl ?_
  obtain ⟨b1, eb1, hb1, h⟩ := mv_getpE h
  refine mv_getP b1 fX5_33 (by decide) rfl rfl eb1 dX5_weighLet_2 ?_
  refine mv_getR (b1 + 10) fX5_136 (mv_pN (t := 0) hb1 (by decide)) (by rcases hb1 with rfl | rfl <;> rfl) rfl (by rcases hb1 with rfl | rfl <;> rfl) dX5_weighLet_5 ?_
  refine mv_iload_n 1 dX5_weighLet_8 rfl ?_
  obtain ⟨hi2, h⟩ := mv_chkE h
  refine mv_ild (mv_pN (t := 10) hb1 (by decide)) (by rcases hb1 with rfl | rfl <;> rfl) (mv_inE hi2) dX5_weighLet_9 ?_
  refine mv_iload_n 2 dX5_weighLet_10 rfl ?_
  refine mv_iload_n 3 dX5_weighLet_11 rfl ?_
  refine mv_cvV (As := [.int (M.1 (b1 + 10) a0.toNatClampNeg), .int a1, .int a2]) (st := []) okX5_weigh lX5_66 (by decide) rfl rfl rfl (Nat.le_of_ble_eq_true rfl) rfl (Nat.le_of_ble_eq_true rfl) dX5_weighLet_12 (by omega) rfl (hr_X5_weigh (M.1 (b1 + 10) a0.toNatClampNeg) a1 a2 M _ (mv_bindE h)) (fun _ M3 h => ?_)
  refine mv_aload_n 0 dX5_weighLet_15 rfl ?_
  refine mv_aload_n 0 dX5_weighLet_16 rfl ?_
  obtain ⟨b4, eb4, hb4, h⟩ := mv_getpE h
  refine mv_getP b4 fX5_33 (by decide) rfl rfl eb4 dX5_weighLet_17 ?_
  refine mv_getR (b4 + 9) fX5_112 (mv_pN (t := 0) hb4 (by decide)) (by rcases hb4 with rfl | rfl <;> rfl) rfl (by rcases hb4 with rfl | rfl <;> rfl) dX5_weighLet_20 ?_
  refine mv_iload_n 1 dX5_weighLet_23 rfl ?_
  obtain ⟨hi5, h⟩ := mv_chkE h
  refine mv_ild (mv_pN (t := 9) hb4 (by decide)) (by rcases hb4 with rfl | rfl <;> rfl) (mv_inE hi5) dX5_weighLet_24 ?_
  refine mv_aload_n 0 dX5_weighLet_25 rfl ?_
  refine mv_iload_n 3 dX5_weighLet_26 rfl ?_
  refine mv_aload_n 0 dX5_weighLet_27 rfl ?_
  obtain ⟨b6, eb6, hb6, h⟩ := mv_getpE h
  refine mv_getP b6 fX5_33 (by decide) rfl rfl eb6 dX5_weighLet_28 ?_
  refine mv_getR (b6 + 11) fX5_148 (mv_pN (t := 0) hb6 (by decide)) (by rcases hb6 with rfl | rfl <;> rfl) rfl (by rcases hb6 with rfl | rfl <;> rfl) dX5_weighLet_31 ?_
  refine mv_iload_n 1 dX5_weighLet_34 rfl ?_
  obtain ⟨hi7, h⟩ := mv_chkE h
  refine mv_ild (mv_pN (t := 11) hb6 (by decide)) (by rcases hb6 with rfl | rfl <;> rfl) (mv_inE hi7) dX5_weighLet_35 ?_
  refine mv_cvI (As := [.int a2, .int (M3.1 (b6 + 11) a0.toNatClampNeg)]) (st := [.int (M3.1 (b4 + 9) a0.toNatClampNeg), .ref 5]) okX5_onSheet lX5_155 (by decide) rfl rfl rfl (Nat.le_of_ble_eq_true rfl) rfl (Nat.le_of_ble_eq_true rfl) dX5_weighLet_36 (by omega) rfl (zX5_onSheet (d := d - 1) (by omega) a2 (M3.1 (b6 + 11) a0.toNatClampNeg) M3 (mv_bindE h)) (fun r8 M9 h => ?_)
  refine mv_iload_n 3 dX5_weighLet_39 rfl ?_
  refine mv_cvV (As := [.int (M3.1 (b4 + 9) a0.toNatClampNeg), .int r8, .int a2]) (st := []) okX5_weighTogether lX5_133 (by decide) rfl rfl rfl (Nat.le_of_ble_eq_true rfl) rfl (Nat.le_of_ble_eq_true rfl) dX5_weighLet_40 (by omega) rfl (hr_X5_weighTogether (M3.1 (b4 + 9) a0.toNatClampNeg) r8 a2 M9 _ (mv_bindE h)) (fun _ M10 h => ?_)
  exact mv_vret rfl dX5_weighLet_43 ⟨rfl, h⟩
theorem dX5_weighCase_0 : decode cX5_weighCase 0 = .ok (.aload_n 0, 1) := by decide +kernel
theorem dX5_weighCase_1 : decode cX5_weighCase 1 = .ok (.aload_n 0, 1) := by decide +kernel
theorem dX5_weighCase_2 : decode cX5_weighCase 2 = .ok (.getfield 33, 3) := by decide +kernel
theorem dX5_weighCase_5 : decode cX5_weighCase 5 = .ok (.getfield 136, 3) := by decide +kernel
theorem dX5_weighCase_8 : decode cX5_weighCase 8 = .ok (.iload_n 1, 1) := by decide +kernel
theorem dX5_weighCase_9 : decode cX5_weighCase 9 = .ok (.iaload, 1) := by decide +kernel
theorem dX5_weighCase_10 : decode cX5_weighCase 10 = .ok (.iload_n 2, 1) := by decide +kernel
theorem dX5_weighCase_11 : decode cX5_weighCase 11 = .ok (.iload_n 3, 1) := by decide +kernel
theorem dX5_weighCase_12 : decode cX5_weighCase 12 = .ok (.invokevirtual 66, 3) := by decide +kernel
theorem dX5_weighCase_15 : decode cX5_weighCase 15 = .ok (.aload_n 0, 1) := by decide +kernel
theorem dX5_weighCase_16 : decode cX5_weighCase 16 = .ok (.getfield 33, 3) := by decide +kernel
theorem dX5_weighCase_19 : decode cX5_weighCase 19 = .ok (.getfield 112, 3) := by decide +kernel
theorem dX5_weighCase_22 : decode cX5_weighCase 22 = .ok (.iload_n 1, 1) := by decide +kernel
theorem dX5_weighCase_23 : decode cX5_weighCase 23 = .ok (.iaload, 1) := by decide +kernel
theorem dX5_weighCase_24 : decode cX5_weighCase 24 = .ok (.istore 4, 2) := by decide +kernel
theorem dX5_weighCase_26 : decode cX5_weighCase 26 = .ok (.aload_n 0, 1) := by decide +kernel
theorem dX5_weighCase_27 : decode cX5_weighCase 27 = .ok (.getfield 33, 3) := by decide +kernel
theorem dX5_weighCase_30 : decode cX5_weighCase 30 = .ok (.iload 4, 2) := by decide +kernel
theorem dX5_weighCase_32 : decode cX5_weighCase 32 = .ok (.invokevirtual 97, 3) := by decide +kernel
theorem dX5_weighCase_35 : decode cX5_weighCase 35 = .ok (.ifCond .eq 61, 3) := by decide +kernel
theorem dX5_weighCase_38 : decode cX5_weighCase 38 = .ok (.aload_n 0, 1) := by decide +kernel
theorem dX5_weighCase_39 : decode cX5_weighCase 39 = .ok (.iload_n 3, 1) := by decide +kernel
theorem dX5_weighCase_40 : decode cX5_weighCase 40 = .ok (.aload_n 0, 1) := by decide +kernel
theorem dX5_weighCase_41 : decode cX5_weighCase 41 = .ok (.getfield 33, 3) := by decide +kernel
theorem dX5_weighCase_44 : decode cX5_weighCase 44 = .ok (.getfield 148, 3) := by decide +kernel
theorem dX5_weighCase_47 : decode cX5_weighCase 47 = .ok (.iload_n 1, 1) := by decide +kernel
theorem dX5_weighCase_48 : decode cX5_weighCase 48 = .ok (.iaload, 1) := by decide +kernel
theorem dX5_weighCase_49 : decode cX5_weighCase 49 = .ok (.invokevirtual 155, 3) := by decide +kernel
theorem dX5_weighCase_52 : decode cX5_weighCase 52 = .ok (.istore 5, 2) := by decide +kernel
theorem dX5_weighCase_54 : decode cX5_weighCase 54 = .ok (.aload_n 0, 1) := by decide +kernel
theorem dX5_weighCase_55 : decode cX5_weighCase 55 = .ok (.iload_n 3, 1) := by decide +kernel
theorem dX5_weighCase_56 : decode cX5_weighCase 56 = .ok (.aload_n 0, 1) := by decide +kernel
theorem dX5_weighCase_57 : decode cX5_weighCase 57 = .ok (.getfield 33, 3) := by decide +kernel
theorem dX5_weighCase_60 : decode cX5_weighCase 60 = .ok (.getfield 148, 3) := by decide +kernel
theorem dX5_weighCase_63 : decode cX5_weighCase 63 = .ok (.iload_n 1, 1) := by decide +kernel
theorem dX5_weighCase_64 : decode cX5_weighCase 64 = .ok (.iaload, 1) := by decide +kernel
theorem dX5_weighCase_65 : decode cX5_weighCase 65 = .ok (.iconst 1, 1) := by decide +kernel
theorem dX5_weighCase_66 : decode cX5_weighCase 66 = .ok (.iadd, 1) := by decide +kernel
theorem dX5_weighCase_67 : decode cX5_weighCase 67 = .ok (.invokevirtual 155, 3) := by decide +kernel
theorem dX5_weighCase_70 : decode cX5_weighCase 70 = .ok (.istore 6, 2) := by decide +kernel
theorem dX5_weighCase_72 : decode cX5_weighCase 72 = .ok (.aload_n 0, 1) := by decide +kernel
theorem dX5_weighCase_73 : decode cX5_weighCase 73 = .ok (.iload 4, 2) := by decide +kernel
theorem dX5_weighCase_75 : decode cX5_weighCase 75 = .ok (.aload_n 0, 1) := by decide +kernel
theorem dX5_weighCase_76 : decode cX5_weighCase 76 = .ok (.getfield 33, 3) := by decide +kernel
theorem dX5_weighCase_79 : decode cX5_weighCase 79 = .ok (.getfield 127, 3) := by decide +kernel
theorem dX5_weighCase_82 : decode cX5_weighCase 82 = .ok (.iload 4, 2) := by decide +kernel
theorem dX5_weighCase_84 : decode cX5_weighCase 84 = .ok (.iaload, 1) := by decide +kernel
theorem dX5_weighCase_85 : decode cX5_weighCase 85 = .ok (.iload 5, 2) := by decide +kernel
theorem dX5_weighCase_87 : decode cX5_weighCase 87 = .ok (.iload 6, 2) := by decide +kernel
theorem dX5_weighCase_89 : decode cX5_weighCase 89 = .ok (.invokestatic 158, 3) := by decide +kernel
theorem dX5_weighCase_92 : decode cX5_weighCase 92 = .ok (.iload_n 3, 1) := by decide +kernel
theorem dX5_weighCase_93 : decode cX5_weighCase 93 = .ok (.invokevirtual 133, 3) := by decide +kernel
theorem dX5_weighCase_96 : decode cX5_weighCase 96 = .ok (.return_, 1) := by decide +kernel
noncomputable def fX5_weighCase (r_X5_weigh : Int32 → Int32 → Int32 → mv_M → Option (Unit × mv_M)) (r_X5_weighTogether : Int32 → Int32 → Int32 → mv_M → Option (Unit × mv_M)) (a0 : Int32) (a1 : Int32) (a2 : Int32) (M : mv_M) : Option (Unit × mv_M) :=
  mv_getp (M.2.2 5 1) fun b1 =>
  mv_chk (mv_inb a0 1000) <|
  mv_bind (r_X5_weigh (M.1 (b1 + 10) a0.toNatClampNeg) a1 a2 M) fun _ M3 =>
  mv_getp (M3.2.2 5 1) fun b4 =>
  mv_chk (mv_inb a0 1000) <|
  mv_let (M3.1 (b4 + 9) a0.toNatClampNeg) fun v6 =>
  mv_getp (M3.2.2 5 1) fun b7 =>
  mv_bind (fX4_hasNode b7 v6 M3) fun r8 M9 =>
  if r8 = 0 then
    some ((), M9)
  else
    mv_getp (M9.2.2 5 1) fun b10 =>
    mv_chk (mv_inb a0 1000) <|
    mv_bind (fX5_onSheet a2 (M9.1 (b10 + 11) a0.toNatClampNeg) M9) fun r12 M13 =>
    mv_getp (M13.2.2 5 1) fun b14 =>
    mv_chk (mv_inb a0 1000) <|
    mv_bind (fX5_onSheet a2 ((M13.1 (b14 + 11) a0.toNatClampNeg) + 1) M13) fun r16 M17 =>
    mv_getp (M17.2.2 5 1) fun b18 =>
    mv_chk (mv_inb v6 1000) <|
    mv_bind (fX6_pairDemand (M17.1 (b18 + 13) v6.toNatClampNeg) r12 r16 M17) fun r20 M21 =>
    mv_bind (r_X5_weighTogether v6 r20 a2 M21) fun _ M22 =>
    some ((), M22)
set_option maxRecDepth 100000 in
set_option maxHeartbeats 4000000 in
theorem zX5_weighCase {l : Launch} {d : Nat} {Q : Unit → mv_M → Prop} {r_X5_weigh : Int32 → Int32 → Int32 → mv_M → Option (Unit × mv_M)} {r_X5_weighTogether : Int32 → Int32 → Int32 → mv_M → Option (Unit × mv_M)} (hd : 3 ≤ d) (hr_X5_weigh : ∀ (a0 : Int32) (a1 : Int32) (a2 : Int32) (M : mv_M) (Q : Unit → mv_M → Prop), mv_ok (r_X5_weigh a0 a1 a2 M) Q → mv l mX5_weigh (d - 1) 0 0 (lv_args 0 [.ref 5, .int a0, .int a1, .int a2]) [] M (mv_qV Q)) (hr_X5_weighTogether : ∀ (a0 : Int32) (a1 : Int32) (a2 : Int32) (M : mv_M) (Q : Unit → mv_M → Prop), mv_ok (r_X5_weighTogether a0 a1 a2 M) Q → mv l mX5_weighTogether (d - 1) 0 0 (lv_args 0 [.ref 5, .int a0, .int a1, .int a2]) [] M (mv_qV Q)) (a0 : Int32) (a1 : Int32) (a2 : Int32) (M : mv_M) (h : mv_ok (fX5_weighCase r_X5_weigh r_X5_weighTogether a0 a1 a2 M) Q) : mv l mX5_weighCase d 0 0 (lv_args 0 [.ref 5, .int a0, .int a1, .int a2]) [] M (mv_qV Q) := by
  unfold fX5_weighCase at h
  show mv l mX5_weighCase d 0 0 [(0, .ref 5), (1, .int a0), (2, .int a1), (3, .int a2)] [] M (mv_qV Q)
  refine mv_aload_n 0 dX5_weighCase_0 rfl ?_
  refine mv_aload_n 0 dX5_weighCase_1 rfl ?_
  obtain ⟨b1, eb1, hb1, h⟩ := mv_getpE h
  refine mv_getP b1 fX5_33 (by decide) rfl rfl eb1 dX5_weighCase_2 ?_
  refine mv_getR (b1 + 10) fX5_136 (mv_pN (t := 0) hb1 (by decide)) (by rcases hb1 with rfl | rfl <;> rfl) rfl (by rcases hb1 with rfl | rfl <;> rfl) dX5_weighCase_5 ?_
  refine mv_iload_n 1 dX5_weighCase_8 rfl ?_
  obtain ⟨hi2, h⟩ := mv_chkE h
  refine mv_ild (mv_pN (t := 10) hb1 (by decide)) (by rcases hb1 with rfl | rfl <;> rfl) (mv_inE hi2) dX5_weighCase_9 ?_
  refine mv_iload_n 2 dX5_weighCase_10 rfl ?_
  refine mv_iload_n 3 dX5_weighCase_11 rfl ?_
  refine mv_cvV (As := [.int (M.1 (b1 + 10) a0.toNatClampNeg), .int a1, .int a2]) (st := []) okX5_weigh lX5_66 (by decide) rfl rfl rfl (Nat.le_of_ble_eq_true rfl) rfl (Nat.le_of_ble_eq_true rfl) dX5_weighCase_12 (by omega) rfl (hr_X5_weigh (M.1 (b1 + 10) a0.toNatClampNeg) a1 a2 M _ (mv_bindE h)) (fun _ M3 h => ?_)
  refine mv_aload_n 0 dX5_weighCase_15 rfl ?_
  obtain ⟨b4, eb4, hb4, h⟩ := mv_getpE h
  refine mv_getP b4 fX5_33 (by decide) rfl rfl eb4 dX5_weighCase_16 ?_
  refine mv_getR (b4 + 9) fX5_112 (mv_pN (t := 0) hb4 (by decide)) (by rcases hb4 with rfl | rfl <;> rfl) rfl (by rcases hb4 with rfl | rfl <;> rfl) dX5_weighCase_19 ?_
  refine mv_iload_n 1 dX5_weighCase_22 rfl ?_
  obtain ⟨hi5, h⟩ := mv_chkE h
  refine mv_ild (mv_pN (t := 9) hb4 (by decide)) (by rcases hb4 with rfl | rfl <;> rfl) (mv_inE hi5) dX5_weighCase_23 ?_
  refine mv_topi (fun v6 ev6 => ?_)
  replace h := mv_letE h v6 ev6
  refine mv_istore [(4, .int v6), (0, .ref 5), (1, .int a0), (2, .int a1), (3, .int a2)] dX5_weighCase_24 (by decide) rfl ?_
  refine mv_aload_n 1 dX5_weighCase_26 rfl ?_
  obtain ⟨b7, eb7, hb7, h⟩ := mv_getpE h
  refine mv_getP b7 fX5_33 (by decide) rfl rfl eb7 dX5_weighCase_27 ?_
  refine mv_iload 0 dX5_weighCase_30 rfl ?_
  refine mv_cvI (As := [.int v6]) (st := []) okX4_hasNode lX5_97 (mv_pN (t := 0) hb7 (by decide)) (by rcases hb7 with rfl | rfl <;> rfl) rfl rfl (Nat.le_of_ble_eq_true rfl) rfl (Nat.le_of_ble_eq_true rfl) dX5_weighCase_32 (by omega) rfl (zX4_hasNode (d := d - 1) (by omega) b7 v6 M3 hb7 (mv_bindE h)) (fun r8 M9 h => ?_)
  refine mv_if_eq 96 dX5_weighCase_35 (by decide) (fun z => ?_) (fun z => ?_)
  · replace h := mv_ifT z h
    exact mv_vret rfl dX5_weighCase_96 ⟨rfl, h⟩
  · replace h := mv_ifF z h
    refine mv_aload_n 1 dX5_weighCase_38 rfl ?_
    refine mv_iload_n 4 dX5_weighCase_39 rfl ?_
    refine mv_aload_n 1 dX5_weighCase_40 rfl ?_
    obtain ⟨b10, eb10, hb10, h⟩ := mv_getpE h
    refine mv_getP b10 fX5_33 (by decide) rfl rfl eb10 dX5_weighCase_41 ?_
    refine mv_getR (b10 + 11) fX5_148 (mv_pN (t := 0) hb10 (by decide)) (by rcases hb10 with rfl | rfl <;> rfl) rfl (by rcases hb10 with rfl | rfl <;> rfl) dX5_weighCase_44 ?_
    refine mv_iload_n 2 dX5_weighCase_47 rfl ?_
    obtain ⟨hi11, h⟩ := mv_chkE h
    refine mv_ild (mv_pN (t := 11) hb10 (by decide)) (by rcases hb10 with rfl | rfl <;> rfl) (mv_inE hi11) dX5_weighCase_48 ?_
    refine mv_cvI (As := [.int a2, .int (M9.1 (b10 + 11) a0.toNatClampNeg)]) (st := []) okX5_onSheet lX5_155 (by decide) rfl rfl rfl (Nat.le_of_ble_eq_true rfl) rfl (Nat.le_of_ble_eq_true rfl) dX5_weighCase_49 (by omega) rfl (zX5_onSheet (d := d - 1) (by omega) a2 (M9.1 (b10 + 11) a0.toNatClampNeg) M9 (mv_bindE h)) (fun r12 M13 h => ?_)
    refine mv_istore [(5, .int r12), (4, .int v6), (0, .ref 5), (1, .int a0), (2, .int a1), (3, .int a2)] dX5_weighCase_52 (by decide) rfl ?_
    refine mv_aload_n 2 dX5_weighCase_54 rfl ?_
    refine mv_iload_n 5 dX5_weighCase_55 rfl ?_
    refine mv_aload_n 2 dX5_weighCase_56 rfl ?_
    obtain ⟨b14, eb14, hb14, h⟩ := mv_getpE h
    refine mv_getP b14 fX5_33 (by decide) rfl rfl eb14 dX5_weighCase_57 ?_
    refine mv_getR (b14 + 11) fX5_148 (mv_pN (t := 0) hb14 (by decide)) (by rcases hb14 with rfl | rfl <;> rfl) rfl (by rcases hb14 with rfl | rfl <;> rfl) dX5_weighCase_60 ?_
    refine mv_iload_n 3 dX5_weighCase_63 rfl ?_
    obtain ⟨hi15, h⟩ := mv_chkE h
    refine mv_ild (mv_pN (t := 11) hb14 (by decide)) (by rcases hb14 with rfl | rfl <;> rfl) (mv_inE hi15) dX5_weighCase_64 ?_
    refine mv_iconst 1 dX5_weighCase_65 (by decide) ?_
    refine mv_iadd dX5_weighCase_66 ?_
    refine mv_cvI (As := [.int a2, .int ((M13.1 (b14 + 11) a0.toNatClampNeg) + 1)]) (st := []) okX5_onSheet lX5_155 (by decide) rfl rfl rfl (Nat.le_of_ble_eq_true rfl) rfl (Nat.le_of_ble_eq_true rfl) dX5_weighCase_67 (by omega) rfl (zX5_onSheet (d := d - 1) (by omega) a2 ((M13.1 (b14 + 11) a0.toNatClampNeg) + 1) M13 (mv_bindE h)) (fun r16 M17 h => ?_)
    refine mv_istore [(6, .int r16), (5, .int r12), (4, .int v6), (0, .ref 5), (1, .int a0), (2, .int a1), (3, .int a2)] dX5_weighCase_70 (by decide) rfl ?_
    refine mv_aload_n 3 dX5_weighCase_72 rfl ?_
    refine mv_iload 2 dX5_weighCase_73 rfl ?_
    refine mv_aload_n 3 dX5_weighCase_75 rfl ?_
    obtain ⟨b18, eb18, hb18, h⟩ := mv_getpE h
    refine mv_getP b18 fX5_33 (by decide) rfl rfl eb18 dX5_weighCase_76 ?_
    refine mv_getR (b18 + 13) fX5_127 (mv_pN (t := 0) hb18 (by decide)) (by rcases hb18 with rfl | rfl <;> rfl) rfl (by rcases hb18 with rfl | rfl <;> rfl) dX5_weighCase_79 ?_
    refine mv_iload 2 dX5_weighCase_82 rfl ?_
    obtain ⟨hi19, h⟩ := mv_chkE h
    refine mv_ild (mv_pN (t := 13) hb18 (by decide)) (by rcases hb18 with rfl | rfl <;> rfl) (mv_inE hi19) dX5_weighCase_84 ?_
    refine mv_iload 1 dX5_weighCase_85 rfl ?_
    refine mv_iload 0 dX5_weighCase_87 rfl ?_
    refine mv_csI (As := [.int (M17.1 (b18 + 13) v6.toNatClampNeg), .int r12, .int r16]) (st := [.int v6, .ref 5]) okX6_pairDemand lX5_158 rfl (Nat.le_of_ble_eq_true rfl) rfl (Nat.le_of_ble_eq_true rfl) dX5_weighCase_89 (by omega) rfl (zX6_pairDemand (d := d - 1) (by omega) (M17.1 (b18 + 13) v6.toNatClampNeg) r12 r16 M17 (mv_bindE h)) (fun r20 M21 h => ?_)
    refine mv_iload_n 6 dX5_weighCase_92 rfl ?_
    refine mv_cvV (As := [.int v6, .int r20, .int a2]) (st := []) okX5_weighTogether lX5_133 (by decide) rfl rfl rfl (Nat.le_of_ble_eq_true rfl) rfl (Nat.le_of_ble_eq_true rfl) dX5_weighCase_93 (by omega) rfl (hr_X5_weighTogether v6 r20 a2 M21 _ (mv_bindE h)) (fun _ M22 h => ?_)
    exact mv_vret rfl dX5_weighCase_96 ⟨rfl, h⟩
theorem dX5_weighCall_0 : decode cX5_weighCall 0 = .ok (.aload_n 0, 1) := by decide +kernel
theorem dX5_weighCall_1 : decode cX5_weighCall 1 = .ok (.getfield 33, 3) := by decide +kernel
theorem dX5_weighCall_4 : decode cX5_weighCall 4 = .ok (.getfield 112, 3) := by decide +kernel
theorem dX5_weighCall_7 : decode cX5_weighCall 7 = .ok (.iload_n 1, 1) := by decide +kernel
theorem dX5_weighCall_8 : decode cX5_weighCall 8 = .ok (.iaload, 1) := by decide +kernel
theorem dX5_weighCall_9 : decode cX5_weighCall 9 = .ok (.istore 4, 2) := by decide +kernel
theorem dX5_weighCall_11 : decode cX5_weighCall 11 = .ok (.aload_n 0, 1) := by decide +kernel
theorem dX5_weighCall_12 : decode cX5_weighCall 12 = .ok (.iload 4, 2) := by decide +kernel
theorem dX5_weighCall_14 : decode cX5_weighCall 14 = .ok (.iload_n 2, 1) := by decide +kernel
theorem dX5_weighCall_15 : decode cX5_weighCall 15 = .ok (.invokevirtual 86, 3) := by decide +kernel
theorem dX5_weighCall_18 : decode cX5_weighCall 18 = .ok (.ifCond .eq 11, 3) := by decide +kernel
theorem dX5_weighCall_21 : decode cX5_weighCall 21 = .ok (.aload_n 0, 1) := by decide +kernel
theorem dX5_weighCall_22 : decode cX5_weighCall 22 = .ok (.getfield 26, 3) := by decide +kernel
theorem dX5_weighCall_25 : decode cX5_weighCall 25 = .ok (.iload_n 3, 1) := by decide +kernel
theorem dX5_weighCall_26 : decode cX5_weighCall 26 = .ok (.iconst 1, 1) := by decide +kernel
theorem dX5_weighCall_27 : decode cX5_weighCall 27 = .ok (.bastore, 1) := by decide +kernel
theorem dX5_weighCall_28 : decode cX5_weighCall 28 = .ok (.return_, 1) := by decide +kernel
theorem dX5_weighCall_29 : decode cX5_weighCall 29 = .ok (.aload_n 0, 1) := by decide +kernel
theorem dX5_weighCall_30 : decode cX5_weighCall 30 = .ok (.getfield 33, 3) := by decide +kernel
theorem dX5_weighCall_33 : decode cX5_weighCall 33 = .ok (.getfield 136, 3) := by decide +kernel
theorem dX5_weighCall_36 : decode cX5_weighCall 36 = .ok (.iload_n 1, 1) := by decide +kernel
theorem dX5_weighCall_37 : decode cX5_weighCall 37 = .ok (.iaload, 1) := by decide +kernel
theorem dX5_weighCall_38 : decode cX5_weighCall 38 = .ok (.istore 5, 2) := by decide +kernel
theorem dX5_weighCall_40 : decode cX5_weighCall 40 = .ok (.iconst 0, 1) := by decide +kernel
theorem dX5_weighCall_41 : decode cX5_weighCall 41 = .ok (.istore 6, 2) := by decide +kernel
theorem dX5_weighCall_43 : decode cX5_weighCall 43 = .ok (.iload 6, 2) := by decide +kernel
theorem dX5_weighCall_45 : decode cX5_weighCall 45 = .ok (.aload_n 0, 1) := by decide +kernel
theorem dX5_weighCall_46 : decode cX5_weighCall 46 = .ok (.getfield 33, 3) := by decide +kernel
theorem dX5_weighCall_49 : decode cX5_weighCall 49 = .ok (.getfield 148, 3) := by decide +kernel
theorem dX5_weighCall_52 : decode cX5_weighCall 52 = .ok (.iload_n 1, 1) := by decide +kernel
theorem dX5_weighCall_53 : decode cX5_weighCall 53 = .ok (.iaload, 1) := by decide +kernel
theorem dX5_weighCall_54 : decode cX5_weighCall 54 = .ok (.if_icmp .ge 49, 3) := by decide +kernel
theorem dX5_weighCall_57 : decode cX5_weighCall 57 = .ok (.aload_n 0, 1) := by decide +kernel
theorem dX5_weighCall_58 : decode cX5_weighCall 58 = .ok (.getfield 33, 3) := by decide +kernel
theorem dX5_weighCall_61 : decode cX5_weighCall 61 = .ok (.iload 5, 2) := by decide +kernel
theorem dX5_weighCall_63 : decode cX5_weighCall 63 = .ok (.invokevirtual 97, 3) := by decide +kernel
theorem dX5_weighCall_66 : decode cX5_weighCall 66 = .ok (.ifCond .eq 37, 3) := by decide +kernel
theorem dX5_weighCall_69 : decode cX5_weighCall 69 = .ok (.aload_n 0, 1) := by decide +kernel
theorem dX5_weighCall_70 : decode cX5_weighCall 70 = .ok (.iload 5, 2) := by decide +kernel
theorem dX5_weighCall_72 : decode cX5_weighCall 72 = .ok (.aload_n 0, 1) := by decide +kernel
theorem dX5_weighCall_73 : decode cX5_weighCall 73 = .ok (.iload 4, 2) := by decide +kernel
theorem dX5_weighCall_75 : decode cX5_weighCall 75 = .ok (.iload_n 2, 1) := by decide +kernel
theorem dX5_weighCall_76 : decode cX5_weighCall 76 = .ok (.iload 6, 2) := by decide +kernel
theorem dX5_weighCall_78 : decode cX5_weighCall 78 = .ok (.invokevirtual 90, 3) := by decide +kernel
theorem dX5_weighCall_81 : decode cX5_weighCall 81 = .ok (.iload_n 3, 1) := by decide +kernel
theorem dX5_weighCall_82 : decode cX5_weighCall 82 = .ok (.invokevirtual 133, 3) := by decide +kernel
theorem dX5_weighCall_85 : decode cX5_weighCall 85 = .ok (.aload_n 0, 1) := by decide +kernel
theorem dX5_weighCall_86 : decode cX5_weighCall 86 = .ok (.getfield 33, 3) := by decide +kernel
theorem dX5_weighCall_89 : decode cX5_weighCall 89 = .ok (.getfield 161, 3) := by decide +kernel
theorem dX5_weighCall_92 : decode cX5_weighCall 92 = .ok (.iload 5, 2) := by decide +kernel
theorem dX5_weighCall_94 : decode cX5_weighCall 94 = .ok (.iaload, 1) := by decide +kernel
theorem dX5_weighCall_95 : decode cX5_weighCall 95 = .ok (.istore 5, 2) := by decide +kernel
theorem dX5_weighCall_97 : decode cX5_weighCall 97 = .ok (.iinc 6 1, 3) := by decide +kernel
theorem dX5_weighCall_100 : decode cX5_weighCall 100 = .ok (.goto (-57), 3) := by decide +kernel
theorem dX5_weighCall_103 : decode cX5_weighCall 103 = .ok (.return_, 1) := by decide +kernel
noncomputable def gX5_weighCall_43 (r_X5_weighTogether : Int32 → Int32 → Int32 → mv_M → Option (Unit × mv_M)) (x1 : Int32) (x2 : Int32) (x3 : Int32) (x4 : Int32) (x5 : Int32) (x6 : Int32) (M : mv_M) : Option (((Int32 × Int32 × Int32 × Int32 × Int32 × Int32) ⊕ Unit) × mv_M) :=
  mv_getp (M.2.2 5 1) fun b11 =>
  mv_chk (mv_inb x1 1000) <|
  if (M.1 (b11 + 11) x1.toNatClampNeg) ≤ x6 then
    some (.inr (()), M)
  else
    mv_getp (M.2.2 5 1) fun b13 =>
    mv_bind (fX4_hasNode b13 x5 M) fun r14 M15 =>
    if r14 = 0 then
      some (.inr (()), M15)
    else
      mv_bind (fX5_demandOf x4 x2 x6 M15) fun r16 M17 =>
      mv_bind (r_X5_weighTogether x5 r16 x3 M17) fun _ M18 =>
      mv_getp (M18.2.2 5 1) fun b19 =>
      mv_chk (mv_inb x5 1000) <|
      mv_let (M18.1 (b19 + 12) x5.toNatClampNeg) fun v21 =>
      mv_let (x6 + 1) fun v22 =>
      some (.inl (x1, x2, x3, x4, v21, v22), M18)
noncomputable def fX5_weighCall_43 (r_X5_weighTogether : Int32 → Int32 → Int32 → mv_M → Option (Unit × mv_M)) (x1 : Int32) (x2 : Int32) (x3 : Int32) (x4 : Int32) (x5 : Int32) (x6 : Int32) (M : mv_M) : Option (Unit × mv_M) := mv_loop (fun (s : Int32 × Int32 × Int32 × Int32 × Int32 × Int32) M => gX5_weighCall_43 r_X5_weighTogether s.1 s.2.1 s.2.2.1 s.2.2.2.1 s.2.2.2.2.1 s.2.2.2.2.2 M) (x1, x2, x3, x4, x5, x6) M
set_option maxRecDepth 100000 in
set_option maxHeartbeats 4000000 in
theorem zX5_weighCall_43 {l : Launch} {d : Nat} {Q : Unit → mv_M → Prop} {r_X5_weighTogether : Int32 → Int32 → Int32 → mv_M → Option (Unit × mv_M)} (hd : 2 ≤ d) (hr_X5_weighTogether : ∀ (a0 : Int32) (a1 : Int32) (a2 : Int32) (M : mv_M) (Q : Unit → mv_M → Prop), mv_ok (r_X5_weighTogether a0 a1 a2 M) Q → mv l mX5_weighTogether (d - 1) 0 0 (lv_args 0 [.ref 5, .int a0, .int a1, .int a2]) [] M (mv_qV Q)) (x1 : Int32) (x2 : Int32) (x3 : Int32) (x4 : Int32) (x5 : Int32) (x6 : Int32) (M : mv_M) (h : mv_ok (fX5_weighCall_43 r_X5_weighTogether x1 x2 x3 x4 x5 x6 M) Q) : mv l mX5_weighCall d 0 43 [(0, .ref 5), (1, .int x1), (2, .int x2), (3, .int x3), (4, .int x4), (5, .int x5), (6, .int x6)] [] M (mv_qV Q) := by
  unfold fX5_weighCall_43 at h
  refine mv_loopE (A := (fun (s : Int32 × Int32 × Int32 × Int32 × Int32 × Int32) M => mv l mX5_weighCall d 0 43 [(0, .ref 5), (1, .int s.1), (2, .int s.2.1), (3, .int s.2.2.1), (4, .int s.2.2.2.1), (5, .int s.2.2.2.2.1), (6, .int s.2.2.2.2.2)] [] M (mv_qV Q))) ?_ (x1, x2, x3, x4, x5, x6) M h
  · rintro ⟨x1, x2, x3, x4, x5, x6⟩ M h
    try dsimp only at h
    show mv l mX5_weighCall d 0 43 [(0, .ref 5), (1, .int x1), (2, .int x2), (3, .int x3), (4, .int x4), (5, .int x5), (6, .int x6)] [] M (mv_qV Q)
    unfold gX5_weighCall_43 at h
    refine mv_iload 6 dX5_weighCall_43 rfl ?_
    refine mv_aload_n 0 dX5_weighCall_45 rfl ?_
    obtain ⟨b11, eb11, hb11, h⟩ := mv_getpE h
    refine mv_getP b11 fX5_33 (by decide) rfl rfl eb11 dX5_weighCall_46 ?_
    refine mv_getR (b11 + 11) fX5_148 (mv_pN (t := 0) hb11 (by decide)) (by rcases hb11 with rfl | rfl <;> rfl) rfl (by rcases hb11 with rfl | rfl <;> rfl) dX5_weighCall_49 ?_
    refine mv_iload_n 1 dX5_weighCall_52 rfl ?_
    obtain ⟨hi12, h⟩ := mv_chkE h
    refine mv_ild (mv_pN (t := 11) hb11 (by decide)) (by rcases hb11 with rfl | rfl <;> rfl) (mv_inE hi12) dX5_weighCall_53 ?_
    refine mv_icmp_ge 103 dX5_weighCall_54 (by decide) (fun z => ?_) (fun z => ?_)
    · replace h := mv_ifT z h
      exact mv_vret rfl dX5_weighCall_103 ⟨rfl, h⟩
    · replace h := mv_ifF z h
      refine mv_aload_n 0 dX5_weighCall_57 rfl ?_
      obtain ⟨b13, eb13, hb13, h⟩ := mv_getpE h
      refine mv_getP b13 fX5_33 (by decide) rfl rfl eb13 dX5_weighCall_58 ?_
      refine mv_iload 5 dX5_weighCall_61 rfl ?_
      refine mv_cvI (As := [.int x5]) (st := []) okX4_hasNode lX5_97 (mv_pN (t := 0) hb13 (by decide)) (by rcases hb13 with rfl | rfl <;> rfl) rfl rfl (Nat.le_of_ble_eq_true rfl) rfl (Nat.le_of_ble_eq_true rfl) dX5_weighCall_63 (by omega) rfl (zX4_hasNode (d := d - 1) (by omega) b13 x5 M hb13 (mv_bindE h)) (fun r14 M15 h => ?_)
      refine mv_if_eq 103 dX5_weighCall_66 (by decide) (fun z => ?_) (fun z => ?_)
      · replace h := mv_ifT z h
        exact mv_vret rfl dX5_weighCall_103 ⟨rfl, h⟩
      · replace h := mv_ifF z h
        refine mv_aload_n 0 dX5_weighCall_69 rfl ?_
        refine mv_iload 5 dX5_weighCall_70 rfl ?_
        refine mv_aload_n 0 dX5_weighCall_72 rfl ?_
        refine mv_iload 4 dX5_weighCall_73 rfl ?_
        refine mv_iload_n 2 dX5_weighCall_75 rfl ?_
        refine mv_iload 6 dX5_weighCall_76 rfl ?_
        refine mv_cvI (As := [.int x4, .int x2, .int x6]) (st := [.int x5, .ref 5]) okX5_demandOf lX5_90 (by decide) rfl rfl rfl (Nat.le_of_ble_eq_true rfl) rfl (Nat.le_of_ble_eq_true rfl) dX5_weighCall_78 (by omega) rfl (zX5_demandOf (d := d - 1) (by omega) x4 x2 x6 M15 (mv_bindE h)) (fun r16 M17 h => ?_)
        refine mv_iload_n 3 dX5_weighCall_81 rfl ?_
        refine mv_cvV (As := [.int x5, .int r16, .int x3]) (st := []) okX5_weighTogether lX5_133 (by decide) rfl rfl rfl (Nat.le_of_ble_eq_true rfl) rfl (Nat.le_of_ble_eq_true rfl) dX5_weighCall_82 (by omega) rfl (hr_X5_weighTogether x5 r16 x3 M17 _ (mv_bindE h)) (fun _ M18 h => ?_)
        refine mv_aload_n 0 dX5_weighCall_85 rfl ?_
        obtain ⟨b19, eb19, hb19, h⟩ := mv_getpE h
        refine mv_getP b19 fX5_33 (by decide) rfl rfl eb19 dX5_weighCall_86 ?_
        refine mv_getR (b19 + 12) fX5_161 (mv_pN (t := 0) hb19 (by decide)) (by rcases hb19 with rfl | rfl <;> rfl) rfl (by rcases hb19 with rfl | rfl <;> rfl) dX5_weighCall_89 ?_
        refine mv_iload 5 dX5_weighCall_92 rfl ?_
        obtain ⟨hi20, h⟩ := mv_chkE h
        refine mv_ild (mv_pN (t := 12) hb19 (by decide)) (by rcases hb19 with rfl | rfl <;> rfl) (mv_inE hi20) dX5_weighCall_94 ?_
        refine mv_topi (fun v21 ev21 => ?_)
        replace h := mv_letE h v21 ev21
        refine mv_istore [(5, .int v21), (0, .ref 5), (1, .int x1), (2, .int x2), (3, .int x3), (4, .int x4), (6, .int x6)] dX5_weighCall_95 (by decide) rfl ?_
        obtain ⟨v22, ev22⟩ : ∃ z : Int32, z = x6 + 1 := ⟨_, rfl⟩
        replace h := mv_letE h v22 ev22
        refine mv_iinc v22 6 [(6, .int v22), (5, .int v21), (0, .ref 5), (1, .int x1), (2, .int x2), (3, .int x3), (4, .int x4)] dX5_weighCall_97 rfl (by rw [ev22]; rfl) (by decide) rfl ?_
        refine mv_goto 43 dX5_weighCall_100 (by decide) ?_
        refine mv_sub [2, 3, 4, 5, 6, 1, 0] rfl ?_
        exact h
noncomputable def fX5_weighCall (r_X5_weighTogether : Int32 → Int32 → Int32 → mv_M → Option (Unit × mv_M)) (a0 : Int32) (a1 : Int32) (a2 : Int32) (M : mv_M) : Option (Unit × mv_M) :=
  mv_getp (M.2.2 5 1) fun b1 =>
  mv_chk (mv_inb a0 1000) <|
  mv_let (M.1 (b1 + 9) a0.toNatClampNeg) fun v3 =>
  mv_bind (fX5_isDead v3 a1 M) fun r4 M5 =>
  if r4 = 0 then
    mv_getp (M5.2.2 5 1) fun b6 =>
    mv_chk (mv_inb a0 1000) <|
    mv_let (M5.1 (b6 + 10) a0.toNatClampNeg) fun v8 =>
    fX5_weighCall_43 r_X5_weighTogether a0 a1 a2 v3 v8 0 M5
  else
    mv_chk (mv_inb a2 84) <|
    mv_let (mv_si M5 47 a2.toNatClampNeg (vp_nar .boolean 1)) fun M10 =>
    some ((), M10)
set_option maxRecDepth 100000 in
set_option maxHeartbeats 4000000 in
theorem zX5_weighCall {l : Launch} {d : Nat} {Q : Unit → mv_M → Prop} {r_X5_weighTogether : Int32 → Int32 → Int32 → mv_M → Option (Unit × mv_M)} (hd : 2 ≤ d) (hr_X5_weighTogether : ∀ (a0 : Int32) (a1 : Int32) (a2 : Int32) (M : mv_M) (Q : Unit → mv_M → Prop), mv_ok (r_X5_weighTogether a0 a1 a2 M) Q → mv l mX5_weighTogether (d - 1) 0 0 (lv_args 0 [.ref 5, .int a0, .int a1, .int a2]) [] M (mv_qV Q)) (a0 : Int32) (a1 : Int32) (a2 : Int32) (M : mv_M) (h : mv_ok (fX5_weighCall r_X5_weighTogether a0 a1 a2 M) Q) : mv l mX5_weighCall d 0 0 (lv_args 0 [.ref 5, .int a0, .int a1, .int a2]) [] M (mv_qV Q) := by
  unfold fX5_weighCall at h
  show mv l mX5_weighCall d 0 0 [(0, .ref 5), (1, .int a0), (2, .int a1), (3, .int a2)] [] M (mv_qV Q)
  refine mv_aload_n 0 dX5_weighCall_0 rfl ?_
  obtain ⟨b1, eb1, hb1, h⟩ := mv_getpE h
  refine mv_getP b1 fX5_33 (by decide) rfl rfl eb1 dX5_weighCall_1 ?_
  refine mv_getR (b1 + 9) fX5_112 (mv_pN (t := 0) hb1 (by decide)) (by rcases hb1 with rfl | rfl <;> rfl) rfl (by rcases hb1 with rfl | rfl <;> rfl) dX5_weighCall_4 ?_
  refine mv_iload_n 1 dX5_weighCall_7 rfl ?_
  obtain ⟨hi2, h⟩ := mv_chkE h
  refine mv_ild (mv_pN (t := 9) hb1 (by decide)) (by rcases hb1 with rfl | rfl <;> rfl) (mv_inE hi2) dX5_weighCall_8 ?_
  refine mv_topi (fun v3 ev3 => ?_)
  replace h := mv_letE h v3 ev3
  refine mv_istore [(4, .int v3), (0, .ref 5), (1, .int a0), (2, .int a1), (3, .int a2)] dX5_weighCall_9 (by decide) rfl ?_
  refine mv_aload_n 1 dX5_weighCall_11 rfl ?_
  refine mv_iload 0 dX5_weighCall_12 rfl ?_
  refine mv_iload_n 3 dX5_weighCall_14 rfl ?_
  refine mv_cvI (As := [.int v3, .int a1]) (st := []) okX5_isDead lX5_86 (by decide) rfl rfl rfl (Nat.le_of_ble_eq_true rfl) rfl (Nat.le_of_ble_eq_true rfl) dX5_weighCall_15 (by omega) rfl (zX5_isDead (d := d - 1) (by omega) v3 a1 M (mv_bindE h)) (fun r4 M5 h => ?_)
  refine mv_if_eq 29 dX5_weighCall_18 (by decide) (fun z => ?_) (fun z => ?_)
  · replace h := mv_ifT z h
    refine mv_aload_n 1 dX5_weighCall_29 rfl ?_
    obtain ⟨b6, eb6, hb6, h⟩ := mv_getpE h
    refine mv_getP b6 fX5_33 (by decide) rfl rfl eb6 dX5_weighCall_30 ?_
    refine mv_getR (b6 + 10) fX5_136 (mv_pN (t := 0) hb6 (by decide)) (by rcases hb6 with rfl | rfl <;> rfl) rfl (by rcases hb6 with rfl | rfl <;> rfl) dX5_weighCall_33 ?_
    refine mv_iload_n 2 dX5_weighCall_36 rfl ?_
    obtain ⟨hi7, h⟩ := mv_chkE h
    refine mv_ild (mv_pN (t := 10) hb6 (by decide)) (by rcases hb6 with rfl | rfl <;> rfl) (mv_inE hi7) dX5_weighCall_37 ?_
    refine mv_topi (fun v8 ev8 => ?_)
    replace h := mv_letE h v8 ev8
    refine mv_istore [(5, .int v8), (4, .int v3), (0, .ref 5), (1, .int a0), (2, .int a1), (3, .int a2)] dX5_weighCall_38 (by decide) rfl ?_
    refine mv_iconst 0 dX5_weighCall_40 (by decide) ?_
    refine mv_istore [(6, .int 0), (5, .int v8), (4, .int v3), (0, .ref 5), (1, .int a0), (2, .int a1), (3, .int a2)] dX5_weighCall_41 (by decide) rfl ?_
    refine mv_sub [3, 4, 5, 6, 2, 1, 0] rfl ?_
    exact zX5_weighCall_43 hd hr_X5_weighTogether a0 a1 a2 v3 v8 0 M5 h
  · replace h := mv_ifF z h
    refine mv_aload_n 1 dX5_weighCall_21 rfl ?_
    refine mv_getR 47 fX5_26 (by decide) rfl rfl rfl dX5_weighCall_22 ?_
    refine mv_iload_n 4 dX5_weighCall_25 rfl ?_
    refine mv_iconst 1 dX5_weighCall_26 (by decide) ?_
    obtain ⟨hi9, h⟩ := mv_chkE h
    refine mv_zst (by decide) rfl (mv_inE hi9) dX5_weighCall_27 (fun M10 eM10 => ?_)
    replace h := mv_letE h M10 eM10
    exact mv_vret rfl dX5_weighCall_28 ⟨rfl, h⟩
noncomputable def RX5_weigh : Nat → Nat → Int32 → Int32 → Int32 → mv_M → Option (Unit × mv_M)
  | 0, _, _, _, _, _ => none
  | n + 1, s, a0, a1, a2, M =>
    if s = 0 then fX5_weigh (fun a0 a1 a2 M => RX5_weigh n 5 a0 a1 a2 M) (fun a0 a1 a2 M => RX5_weigh n 4 a0 a1 a2 M) (fun a0 a1 a2 M => RX5_weigh n 2 a0 a1 a2 M) (fun a0 a1 a2 M => RX5_weigh n 3 a0 a1 a2 M) (fun a0 a1 a2 M => RX5_weigh n 1 a0 a1 a2 M) a0 a1 a2 M else
    if s = 1 then fX5_weighTogether (fun a0 a1 a2 M => RX5_weigh n 0 a0 a1 a2 M) a0 a1 a2 M else
    if s = 2 then fX5_weighIf (fun a0 a1 a2 M => RX5_weigh n 0 a0 a1 a2 M) (fun a0 a1 a2 M => RX5_weigh n 1 a0 a1 a2 M) a0 a1 a2 M else
    if s = 3 then fX5_weighLet (fun a0 a1 a2 M => RX5_weigh n 0 a0 a1 a2 M) (fun a0 a1 a2 M => RX5_weigh n 1 a0 a1 a2 M) a0 a1 a2 M else
    if s = 4 then fX5_weighCase (fun a0 a1 a2 M => RX5_weigh n 0 a0 a1 a2 M) (fun a0 a1 a2 M => RX5_weigh n 1 a0 a1 a2 M) a0 a1 a2 M else
    fX5_weighCall (fun a0 a1 a2 M => RX5_weigh n 1 a0 a1 a2 M) a0 a1 a2 M
set_option maxRecDepth 100000 in
theorem zRX5_weigh {l : Launch} : ∀ (n d : Nat), n + 18 ≤ d → (∀ (a0 : Int32) (a1 : Int32) (a2 : Int32) (M : mv_M) (Q : Unit → mv_M → Prop), mv_ok (RX5_weigh n 0 a0 a1 a2 M) Q → mv l mX5_weigh d 0 0 (lv_args 0 [.ref 5, .int a0, .int a1, .int a2]) [] M (mv_qV Q)) ∧ (∀ (a0 : Int32) (a1 : Int32) (a2 : Int32) (M : mv_M) (Q : Unit → mv_M → Prop), mv_ok (RX5_weigh n 1 a0 a1 a2 M) Q → mv l mX5_weighTogether d 0 0 (lv_args 0 [.ref 5, .int a0, .int a1, .int a2]) [] M (mv_qV Q)) ∧ (∀ (a0 : Int32) (a1 : Int32) (a2 : Int32) (M : mv_M) (Q : Unit → mv_M → Prop), mv_ok (RX5_weigh n 2 a0 a1 a2 M) Q → mv l mX5_weighIf d 0 0 (lv_args 0 [.ref 5, .int a0, .int a1, .int a2]) [] M (mv_qV Q)) ∧ (∀ (a0 : Int32) (a1 : Int32) (a2 : Int32) (M : mv_M) (Q : Unit → mv_M → Prop), mv_ok (RX5_weigh n 3 a0 a1 a2 M) Q → mv l mX5_weighLet d 0 0 (lv_args 0 [.ref 5, .int a0, .int a1, .int a2]) [] M (mv_qV Q)) ∧ (∀ (a0 : Int32) (a1 : Int32) (a2 : Int32) (M : mv_M) (Q : Unit → mv_M → Prop), mv_ok (RX5_weigh n 4 a0 a1 a2 M) Q → mv l mX5_weighCase d 0 0 (lv_args 0 [.ref 5, .int a0, .int a1, .int a2]) [] M (mv_qV Q)) ∧ (∀ (a0 : Int32) (a1 : Int32) (a2 : Int32) (M : mv_M) (Q : Unit → mv_M → Prop), mv_ok (RX5_weigh n 5 a0 a1 a2 M) Q → mv l mX5_weighCall d 0 0 (lv_args 0 [.ref 5, .int a0, .int a1, .int a2]) [] M (mv_qV Q)) := by
  intro n
  induction n with
  | zero =>
    intro d hd
    exact ⟨(fun _ _ _ _ _ h => by rw [RX5_weigh] at h; exact False.elim h), (fun _ _ _ _ _ h => by rw [RX5_weigh] at h; exact False.elim h), (fun _ _ _ _ _ h => by rw [RX5_weigh] at h; exact False.elim h), (fun _ _ _ _ _ h => by rw [RX5_weigh] at h; exact False.elim h), (fun _ _ _ _ _ h => by rw [RX5_weigh] at h; exact False.elim h), (fun _ _ _ _ _ h => by rw [RX5_weigh] at h; exact False.elim h)⟩
  | succ n ih =>
    intro d hd
    have hi := ih (d - 1) (by omega)
    refine ⟨?_, ?_, ?_, ?_, ?_, ?_⟩
    · intro a0 a1 a2 M Q h
      rw [RX5_weigh] at h
      replace h := mv_ifT rfl h
      exact zX5_weigh (by omega) hi.2.2.2.2.2 hi.2.2.2.2.1 hi.2.2.1 hi.2.2.2.1 hi.2.1 a0 a1 a2 M h
    · intro a0 a1 a2 M Q h
      rw [RX5_weigh] at h
      replace h := mv_ifF (by decide) h
      replace h := mv_ifT rfl h
      exact zX5_weighTogether (by omega) hi.1 a0 a1 a2 M h
    · intro a0 a1 a2 M Q h
      rw [RX5_weigh] at h
      replace h := mv_ifF (by decide) h
      replace h := mv_ifF (by decide) h
      replace h := mv_ifT rfl h
      exact zX5_weighIf (by omega) hi.1 hi.2.1 a0 a1 a2 M h
    · intro a0 a1 a2 M Q h
      rw [RX5_weigh] at h
      replace h := mv_ifF (by decide) h
      replace h := mv_ifF (by decide) h
      replace h := mv_ifF (by decide) h
      replace h := mv_ifT rfl h
      exact zX5_weighLet (by omega) hi.1 hi.2.1 a0 a1 a2 M h
    · intro a0 a1 a2 M Q h
      rw [RX5_weigh] at h
      replace h := mv_ifF (by decide) h
      replace h := mv_ifF (by decide) h
      replace h := mv_ifF (by decide) h
      replace h := mv_ifF (by decide) h
      replace h := mv_ifT rfl h
      exact zX5_weighCase (by omega) hi.1 hi.2.1 a0 a1 a2 M h
    · intro a0 a1 a2 M Q h
      rw [RX5_weigh] at h
      replace h := mv_ifF (by decide) h
      replace h := mv_ifF (by decide) h
      replace h := mv_ifF (by decide) h
      replace h := mv_ifF (by decide) h
      replace h := mv_ifF (by decide) h
      exact zX5_weighCall (by omega) hi.2.1 a0 a1 a2 M h

noncomputable def tX5_weigh (a0 : Int32) (a1 : Int32) (a2 : Int32) (M : mv_M) : Option (Unit × mv_M) := RX5_weigh 320 0 a0 a1 a2 M
theorem ztX5_weigh {l : Launch} {d : Nat} {Q : Unit → mv_M → Prop} (hd : 338 ≤ d) (a0 : Int32) (a1 : Int32) (a2 : Int32) (M : mv_M) (h : mv_ok (tX5_weigh a0 a1 a2 M) Q) : mv l mX5_weigh d 0 0 (lv_args 0 [.ref 5, .int a0, .int a1, .int a2]) [] M (mv_qV Q) := (zRX5_weigh 320 d hd).1 a0 a1 a2 M Q h
noncomputable def tX5_weighTogether (a0 : Int32) (a1 : Int32) (a2 : Int32) (M : mv_M) : Option (Unit × mv_M) := RX5_weigh 320 1 a0 a1 a2 M
theorem ztX5_weighTogether {l : Launch} {d : Nat} {Q : Unit → mv_M → Prop} (hd : 338 ≤ d) (a0 : Int32) (a1 : Int32) (a2 : Int32) (M : mv_M) (h : mv_ok (tX5_weighTogether a0 a1 a2 M) Q) : mv l mX5_weighTogether d 0 0 (lv_args 0 [.ref 5, .int a0, .int a1, .int a2]) [] M (mv_qV Q) := (zRX5_weigh 320 d hd).2.1 a0 a1 a2 M Q h
noncomputable def tX5_weighIf (a0 : Int32) (a1 : Int32) (a2 : Int32) (M : mv_M) : Option (Unit × mv_M) := RX5_weigh 320 2 a0 a1 a2 M
theorem ztX5_weighIf {l : Launch} {d : Nat} {Q : Unit → mv_M → Prop} (hd : 338 ≤ d) (a0 : Int32) (a1 : Int32) (a2 : Int32) (M : mv_M) (h : mv_ok (tX5_weighIf a0 a1 a2 M) Q) : mv l mX5_weighIf d 0 0 (lv_args 0 [.ref 5, .int a0, .int a1, .int a2]) [] M (mv_qV Q) := (zRX5_weigh 320 d hd).2.2.1 a0 a1 a2 M Q h
noncomputable def tX5_weighLet (a0 : Int32) (a1 : Int32) (a2 : Int32) (M : mv_M) : Option (Unit × mv_M) := RX5_weigh 320 3 a0 a1 a2 M
theorem ztX5_weighLet {l : Launch} {d : Nat} {Q : Unit → mv_M → Prop} (hd : 338 ≤ d) (a0 : Int32) (a1 : Int32) (a2 : Int32) (M : mv_M) (h : mv_ok (tX5_weighLet a0 a1 a2 M) Q) : mv l mX5_weighLet d 0 0 (lv_args 0 [.ref 5, .int a0, .int a1, .int a2]) [] M (mv_qV Q) := (zRX5_weigh 320 d hd).2.2.2.1 a0 a1 a2 M Q h
noncomputable def tX5_weighCase (a0 : Int32) (a1 : Int32) (a2 : Int32) (M : mv_M) : Option (Unit × mv_M) := RX5_weigh 320 4 a0 a1 a2 M
theorem ztX5_weighCase {l : Launch} {d : Nat} {Q : Unit → mv_M → Prop} (hd : 338 ≤ d) (a0 : Int32) (a1 : Int32) (a2 : Int32) (M : mv_M) (h : mv_ok (tX5_weighCase a0 a1 a2 M) Q) : mv l mX5_weighCase d 0 0 (lv_args 0 [.ref 5, .int a0, .int a1, .int a2]) [] M (mv_qV Q) := (zRX5_weigh 320 d hd).2.2.2.2.1 a0 a1 a2 M Q h
noncomputable def tX5_weighCall (a0 : Int32) (a1 : Int32) (a2 : Int32) (M : mv_M) : Option (Unit × mv_M) := RX5_weigh 320 5 a0 a1 a2 M
theorem ztX5_weighCall {l : Launch} {d : Nat} {Q : Unit → mv_M → Prop} (hd : 338 ≤ d) (a0 : Int32) (a1 : Int32) (a2 : Int32) (M : mv_M) (h : mv_ok (tX5_weighCall a0 a1 a2 M) Q) : mv l mX5_weighCall d 0 0 (lv_args 0 [.ref 5, .int a0, .int a1, .int a2]) [] M (mv_qV Q) := (zRX5_weigh 320 d hd).2.2.2.2.2 a0 a1 a2 M Q h
