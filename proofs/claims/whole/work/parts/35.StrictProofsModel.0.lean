theorem dX11_thrown_0 : decode cX11_thrown 0 = .ok (.aload_n 0, 1) := by decide +kernel
theorem dX11_thrown_1 : decode cX11_thrown 1 = .ok (.getfield 148, 3) := by decide +kernel
theorem dX11_thrown_4 : decode cX11_thrown 4 = .ok (.ireturn, 1) := by decide +kernel
noncomputable def fX11_thrown (M : mv_M) : Option (Int32 × mv_M) :=
  some (M.1 62 0, M)
set_option maxRecDepth 100000 in
set_option maxHeartbeats 4000000 in
theorem zX11_thrown {l : Launch} {d : Nat} {Q : Int32 → mv_M → Prop} (hd : 0 ≤ d) (M : mv_M) (h : mv_ok (fX11_thrown M) Q) : mv l mX11_thrown d 0 0 (lv_args 0 [.ref 62]) [] M (mv_qI Q) := by
  unfold fX11_thrown at h
  show mv l mX11_thrown d 0 0 [(0, .ref 62)] [] M (mv_qI Q)
  refine mv_aload_n 0 dX11_thrown_0 rfl ?_
  refine mv_getI fX11_148 (by decide) rfl rfl dX11_thrown_1 ?_
  exact mv_iret rfl dX11_thrown_4 ⟨_, rfl, h⟩
theorem dX11_within_0 : decode cX11_within 0 = .ok (.lload_n 0, 1) := by decide +kernel
theorem dX11_within_1 : decode cX11_within 1 = .ok (.lload_n 2, 1) := by decide +kernel
theorem dX11_within_2 : decode cX11_within 2 = .ok (.lcmp, 1) := by decide +kernel
theorem dX11_within_3 : decode cX11_within 3 = .ok (.ifCond .lt 14, 3) := by decide +kernel
theorem dX11_within_6 : decode cX11_within 6 = .ok (.lload_n 0, 1) := by decide +kernel
theorem dX11_within_7 : decode cX11_within 7 = .ok (.lload 4, 2) := by decide +kernel
theorem dX11_within_9 : decode cX11_within 9 = .ok (.lcmp, 1) := by decide +kernel
theorem dX11_within_10 : decode cX11_within 10 = .ok (.ifCond .gt 7, 3) := by decide +kernel
theorem dX11_within_13 : decode cX11_within 13 = .ok (.iconst 1, 1) := by decide +kernel
theorem dX11_within_14 : decode cX11_within 14 = .ok (.goto 4, 3) := by decide +kernel
theorem dX11_within_17 : decode cX11_within 17 = .ok (.iconst 0, 1) := by decide +kernel
theorem dX11_within_18 : decode cX11_within 18 = .ok (.ireturn, 1) := by decide +kernel
noncomputable def fX11_within (a0 : Int64) (a1 : Int64) (a2 : Int64) (M : mv_M) : Option (Int32 × mv_M) :=
  if (lg_cmp a0 a1) < 0 then
    some (0, M)
  else
    if 0 < (lg_cmp a0 a2) then
      some (0, M)
    else
      some (1, M)
set_option maxRecDepth 100000 in
set_option maxHeartbeats 4000000 in
theorem zX11_within {l : Launch} {d : Nat} {Q : Int32 → mv_M → Prop} (hd : 0 ≤ d) (a0 : Int64) (a1 : Int64) (a2 : Int64) (M : mv_M) (h : mv_ok (fX11_within a0 a1 a2 M) Q) : mv l mX11_within d 0 0 (lv_args 0 [.long a0, .long a1, .long a2]) [] M (mv_qI Q) := by
  unfold fX11_within at h
  show mv l mX11_within d 0 0 [(0, .long a0), (2, .long a1), (4, .long a2)] [] M (mv_qI Q)
  refine mv_lload_n 0 dX11_within_0 rfl ?_
  refine mv_lload_n 1 dX11_within_1 rfl ?_
  refine mv_lcmp dX11_within_2 ?_
  refine mv_if_lt 17 dX11_within_3 (by decide) (fun z => ?_) (fun z => ?_)
  · replace h := mv_ifT z h
    refine mv_iconst 0 dX11_within_17 (by decide) ?_
    exact mv_zret (by decide) rfl dX11_within_18 ⟨_, rfl, h⟩
  · replace h := mv_ifF z h
    refine mv_lload_n 0 dX11_within_6 rfl ?_
    refine mv_lload 2 dX11_within_7 rfl ?_
    refine mv_lcmp dX11_within_9 ?_
    refine mv_if_gt 17 dX11_within_10 (by decide) (fun z => ?_) (fun z => ?_)
    · replace h := mv_ifT z h
      refine mv_iconst 0 dX11_within_17 (by decide) ?_
      exact mv_zret (by decide) rfl dX11_within_18 ⟨_, rfl, h⟩
    · replace h := mv_ifF z h
      refine mv_iconst 1 dX11_within_13 (by decide) ?_
      refine mv_goto 18 dX11_within_14 (by decide) ?_
      exact mv_zret (by decide) rfl dX11_within_18 ⟨_, rfl, h⟩
theorem dX11_feed_0 : decode cX11_feed 0 = .ok (.aload_n 0, 1) := by decide +kernel
theorem dX11_feed_1 : decode cX11_feed 1 = .ok (.aload_n 0, 1) := by decide +kernel
theorem dX11_feed_2 : decode cX11_feed 2 = .ok (.getfield 151, 3) := by decide +kernel
theorem dX11_feed_5 : decode cX11_feed 5 = .ok (.bipush 20, 2) := by decide +kernel
theorem dX11_feed_7 : decode cX11_feed 7 = .ok (.iadd, 1) := by decide +kernel
theorem dX11_feed_8 : decode cX11_feed 8 = .ok (.sipush 4000, 3) := by decide +kernel
theorem dX11_feed_11 : decode cX11_feed 11 = .ok (.if_icmp .le 7, 3) := by decide +kernel
theorem dX11_feed_14 : decode cX11_feed 14 = .ok (.iconst 1, 1) := by decide +kernel
theorem dX11_feed_15 : decode cX11_feed 15 = .ok (.goto 4, 3) := by decide +kernel
theorem dX11_feed_18 : decode cX11_feed 18 = .ok (.iconst 0, 1) := by decide +kernel
theorem dX11_feed_19 : decode cX11_feed 19 = .ok (.putfield 148, 3) := by decide +kernel
theorem dX11_feed_22 : decode cX11_feed 22 = .ok (.aload_n 0, 1) := by decide +kernel
theorem dX11_feed_23 : decode cX11_feed 23 = .ok (.getfield 148, 3) := by decide +kernel
theorem dX11_feed_26 : decode cX11_feed 26 = .ok (.ifCond .le 5, 3) := by decide +kernel
theorem dX11_feed_29 : decode cX11_feed 29 = .ok (.iconst 0, 1) := by decide +kernel
theorem dX11_feed_30 : decode cX11_feed 30 = .ok (.ireturn, 1) := by decide +kernel
theorem dX11_feed_31 : decode cX11_feed 31 = .ok (.iconst 0, 1) := by decide +kernel
theorem dX11_feed_32 : decode cX11_feed 32 = .ok (.istore 6, 2) := by decide +kernel
theorem dX11_feed_34 : decode cX11_feed 34 = .ok (.iload 6, 2) := by decide +kernel
theorem dX11_feed_36 : decode cX11_feed 36 = .ok (.bipush 20, 2) := by decide +kernel
theorem dX11_feed_38 : decode cX11_feed 38 = .ok (.if_icmp .ge 93, 3) := by decide +kernel
theorem dX11_feed_41 : decode cX11_feed 41 = .ok (.iload 6, 2) := by decide +kernel
theorem dX11_feed_43 : decode cX11_feed 43 = .ok (.iconst 4, 1) := by decide +kernel
theorem dX11_feed_44 : decode cX11_feed 44 = .ok (.if_icmp .ge 7, 3) := by decide +kernel
theorem dX11_feed_47 : decode cX11_feed 47 = .ok (.iload_n 1, 1) := by decide +kernel
theorem dX11_feed_48 : decode cX11_feed 48 = .ok (.goto 39, 3) := by decide +kernel
theorem dX11_feed_51 : decode cX11_feed 51 = .ok (.iload 6, 2) := by decide +kernel
theorem dX11_feed_53 : decode cX11_feed 53 = .ok (.bipush 8, 2) := by decide +kernel
theorem dX11_feed_55 : decode cX11_feed 55 = .ok (.if_icmp .ge 7, 3) := by decide +kernel
theorem dX11_feed_58 : decode cX11_feed 58 = .ok (.iload_n 2, 1) := by decide +kernel
theorem dX11_feed_59 : decode cX11_feed 59 = .ok (.goto 28, 3) := by decide +kernel
theorem dX11_feed_62 : decode cX11_feed 62 = .ok (.iload 6, 2) := by decide +kernel
theorem dX11_feed_64 : decode cX11_feed 64 = .ok (.bipush 12, 2) := by decide +kernel
theorem dX11_feed_66 : decode cX11_feed 66 = .ok (.if_icmp .ge 7, 3) := by decide +kernel
theorem dX11_feed_69 : decode cX11_feed 69 = .ok (.iload_n 3, 1) := by decide +kernel
theorem dX11_feed_70 : decode cX11_feed 70 = .ok (.goto 17, 3) := by decide +kernel
theorem dX11_feed_73 : decode cX11_feed 73 = .ok (.iload 6, 2) := by decide +kernel
theorem dX11_feed_75 : decode cX11_feed 75 = .ok (.bipush 16, 2) := by decide +kernel
theorem dX11_feed_77 : decode cX11_feed 77 = .ok (.if_icmp .ge 8, 3) := by decide +kernel
theorem dX11_feed_80 : decode cX11_feed 80 = .ok (.iload 4, 2) := by decide +kernel
theorem dX11_feed_82 : decode cX11_feed 82 = .ok (.goto 5, 3) := by decide +kernel
theorem dX11_feed_85 : decode cX11_feed 85 = .ok (.iload 5, 2) := by decide +kernel
theorem dX11_feed_87 : decode cX11_feed 87 = .ok (.istore 7, 2) := by decide +kernel
theorem dX11_feed_89 : decode cX11_feed 89 = .ok (.aload_n 0, 1) := by decide +kernel
theorem dX11_feed_90 : decode cX11_feed 90 = .ok (.getfield 7, 3) := by decide +kernel
theorem dX11_feed_93 : decode cX11_feed 93 = .ok (.aload_n 0, 1) := by decide +kernel
theorem dX11_feed_94 : decode cX11_feed 94 = .ok (.getfield 151, 3) := by decide +kernel
theorem dX11_feed_97 : decode cX11_feed 97 = .ok (.iload 7, 2) := by decide +kernel
theorem dX11_feed_99 : decode cX11_feed 99 = .ok (.bipush 24, 2) := by decide +kernel
theorem dX11_feed_101 : decode cX11_feed 101 = .ok (.bipush 8, 2) := by decide +kernel
theorem dX11_feed_103 : decode cX11_feed 103 = .ok (.iload 6, 2) := by decide +kernel
theorem dX11_feed_105 : decode cX11_feed 105 = .ok (.iconst 4, 1) := by decide +kernel
theorem dX11_feed_106 : decode cX11_feed 106 = .ok (.irem, 1) := by decide +kernel
theorem dX11_feed_107 : decode cX11_feed 107 = .ok (.imul, 1) := by decide +kernel
theorem dX11_feed_108 : decode cX11_feed 108 = .ok (.isub, 1) := by decide +kernel
theorem dX11_feed_109 : decode cX11_feed 109 = .ok (.ishr, 1) := by decide +kernel
theorem dX11_feed_110 : decode cX11_feed 110 = .ok (.sipush 255, 3) := by decide +kernel
theorem dX11_feed_113 : decode cX11_feed 113 = .ok (.iand, 1) := by decide +kernel
theorem dX11_feed_114 : decode cX11_feed 114 = .ok (.iastore, 1) := by decide +kernel
theorem dX11_feed_115 : decode cX11_feed 115 = .ok (.aload_n 0, 1) := by decide +kernel
theorem dX11_feed_116 : decode cX11_feed 116 = .ok (.dup, 1) := by decide +kernel
theorem dX11_feed_117 : decode cX11_feed 117 = .ok (.getfield 151, 3) := by decide +kernel
theorem dX11_feed_120 : decode cX11_feed 120 = .ok (.iconst 1, 1) := by decide +kernel
theorem dX11_feed_121 : decode cX11_feed 121 = .ok (.iadd, 1) := by decide +kernel
theorem dX11_feed_122 : decode cX11_feed 122 = .ok (.putfield 151, 3) := by decide +kernel
theorem dX11_feed_125 : decode cX11_feed 125 = .ok (.iinc 6 1, 3) := by decide +kernel
theorem dX11_feed_128 : decode cX11_feed 128 = .ok (.goto (-94), 3) := by decide +kernel
theorem dX11_feed_131 : decode cX11_feed 131 = .ok (.aload_n 0, 1) := by decide +kernel
theorem dX11_feed_132 : decode cX11_feed 132 = .ok (.getfield 151, 3) := by decide +kernel
theorem dX11_feed_135 : decode cX11_feed 135 = .ok (.ireturn, 1) := by decide +kernel
noncomputable def fX11_feed_87 (x1 : Int32) (x2 : Int32) (x3 : Int32) (x4 : Int32) (x5 : Int32) (x6 : Int32) (s0 : Int32) (M : mv_M) : Option (((Int32 × Int32 × Int32 × Int32 × Int32 × Int32) ⊕ Int32) × mv_M) :=
  mv_chk (mv_inb (M.1 62 2) 4000) <|
  mv_let (mv_si M 63 (M.1 62 2).toNatClampNeg ((s0 >>> ((24 - (8 * (x6 - x6 / 4 * 4))) &&& 31)) &&& 255)) fun M3 =>
  mv_let (mv_si M3 62 2 ((M3.1 62 2) + 1)) fun M4 =>
  mv_let (x6 + 1) fun v5 =>
  some (.inl (x1, x2, x3, x4, x5, v5), M4)
set_option maxRecDepth 100000 in
set_option maxHeartbeats 4000000 in
theorem zX11_feed_87 {l : Launch} {d : Nat} {Q : Int32 → mv_M → Prop} (hd : 0 ≤ d) (x1 : Int32) (x2 : Int32) (x3 : Int32) (x4 : Int32) (x5 : Int32) (x6 : Int32) (s0 : Int32) (M : mv_M) (h : mv_ok (fX11_feed_87 x1 x2 x3 x4 x5 x6 s0 M) (mv_pq (fun (s : Int32 × Int32 × Int32 × Int32 × Int32 × Int32) M => mv l mX11_feed d 0 34 [(0, .ref 62), (1, .int s.1), (2, .int s.2.1), (3, .int s.2.2.1), (4, .int s.2.2.2.1), (5, .int s.2.2.2.2.1), (6, .int s.2.2.2.2.2)] [] M (mv_qI Q)) Q)) : mv l mX11_feed d 0 87 [(0, .ref 62), (1, .int x1), (2, .int x2), (3, .int x3), (4, .int x4), (5, .int x5), (6, .int x6)] [.int s0] M (mv_qI Q) := by
  unfold fX11_feed_87 at h
  refine mv_istore [(7, .int s0), (0, .ref 62), (1, .int x1), (2, .int x2), (3, .int x3), (4, .int x4), (5, .int x5), (6, .int x6)] dX11_feed_87 (by decide) rfl ?_
  refine mv_aload_n 1 dX11_feed_89 rfl ?_
  refine mv_getR 63 fX11_7 (by decide) rfl rfl rfl dX11_feed_90 ?_
  refine mv_aload_n 1 dX11_feed_93 rfl ?_
  refine mv_getI fX11_151 (by decide) rfl rfl dX11_feed_94 ?_
  refine mv_iload 0 dX11_feed_97 rfl ?_
  refine mv_bipush 24 dX11_feed_99 (by decide) ?_
  refine mv_bipush 8 dX11_feed_101 (by decide) ?_
  refine mv_iload 7 dX11_feed_103 rfl ?_
  refine mv_iconst 4 dX11_feed_105 (by decide) ?_
  refine mv_irem dX11_feed_106 (by decide) ?_
  refine mv_imul dX11_feed_107 ?_
  refine mv_isub dX11_feed_108 ?_
  refine mv_ishr dX11_feed_109 ?_
  refine mv_sipush 255 dX11_feed_110 (by decide) ?_
  refine mv_iand dX11_feed_113 ?_
  obtain ⟨hi2, h⟩ := mv_chkE h
  refine mv_ist (by decide) rfl (mv_inE hi2) dX11_feed_114 (fun M3 eM3 => ?_)
  replace h := mv_letE h M3 eM3
  refine mv_aload_n 1 dX11_feed_115 rfl ?_
  refine mv_dup dX11_feed_116 rfl ?_
  refine mv_getI fX11_151 (by decide) rfl rfl dX11_feed_117 ?_
  refine mv_iconst 1 dX11_feed_120 (by decide) ?_
  refine mv_iadd dX11_feed_121 ?_
  refine mv_putI fX11_151 (by decide) rfl rfl dX11_feed_122 (fun M4 eM4 => ?_)
  replace h := mv_letE h M4 eM4
  obtain ⟨v5, ev5⟩ : ∃ z : Int32, z = x6 + 1 := ⟨_, rfl⟩
  replace h := mv_letE h v5 ev5
  refine mv_iinc v5 7 [(6, .int v5), (7, .int s0), (0, .ref 62), (1, .int x1), (2, .int x2), (3, .int x3), (4, .int x4), (5, .int x5)] dX11_feed_125 rfl (by rw [ev5]; rfl) (by decide) rfl ?_
  refine mv_goto 34 dX11_feed_128 (by decide) ?_
  refine mv_sub [2, 3, 4, 5, 6, 7, 0] rfl ?_
  exact h
noncomputable def gX11_feed_34 (x1 : Int32) (x2 : Int32) (x3 : Int32) (x4 : Int32) (x5 : Int32) (x6 : Int32) (M : mv_M) : Option (((Int32 × Int32 × Int32 × Int32 × Int32 × Int32) ⊕ Int32) × mv_M) :=
  if 20 ≤ x6 then
    some (.inr (M.1 62 2), M)
  else
    if 4 ≤ x6 then
      if 8 ≤ x6 then
        if 12 ≤ x6 then
          if 16 ≤ x6 then
            fX11_feed_87 x1 x2 x3 x4 x5 x6 x5 M
          else
            fX11_feed_87 x1 x2 x3 x4 x5 x6 x4 M
        else
          fX11_feed_87 x1 x2 x3 x4 x5 x6 x3 M
      else
        fX11_feed_87 x1 x2 x3 x4 x5 x6 x2 M
    else
      fX11_feed_87 x1 x2 x3 x4 x5 x6 x1 M
noncomputable def fX11_feed_34 (x1 : Int32) (x2 : Int32) (x3 : Int32) (x4 : Int32) (x5 : Int32) (x6 : Int32) (M : mv_M) : Option (Int32 × mv_M) := mv_loop (fun (s : Int32 × Int32 × Int32 × Int32 × Int32 × Int32) M => gX11_feed_34 s.1 s.2.1 s.2.2.1 s.2.2.2.1 s.2.2.2.2.1 s.2.2.2.2.2 M) (x1, x2, x3, x4, x5, x6) M
set_option maxRecDepth 100000 in
set_option maxHeartbeats 4000000 in
theorem zX11_feed_34 {l : Launch} {d : Nat} {Q : Int32 → mv_M → Prop} (hd : 0 ≤ d) (x1 : Int32) (x2 : Int32) (x3 : Int32) (x4 : Int32) (x5 : Int32) (x6 : Int32) (M : mv_M) (h : mv_ok (fX11_feed_34 x1 x2 x3 x4 x5 x6 M) Q) : mv l mX11_feed d 0 34 [(0, .ref 62), (1, .int x1), (2, .int x2), (3, .int x3), (4, .int x4), (5, .int x5), (6, .int x6)] [] M (mv_qI Q) := by
  unfold fX11_feed_34 at h
  refine mv_loopE (A := (fun (s : Int32 × Int32 × Int32 × Int32 × Int32 × Int32) M => mv l mX11_feed d 0 34 [(0, .ref 62), (1, .int s.1), (2, .int s.2.1), (3, .int s.2.2.1), (4, .int s.2.2.2.1), (5, .int s.2.2.2.2.1), (6, .int s.2.2.2.2.2)] [] M (mv_qI Q))) ?_ (x1, x2, x3, x4, x5, x6) M h
  · rintro ⟨x1, x2, x3, x4, x5, x6⟩ M h
    try dsimp only at h
    show mv l mX11_feed d 0 34 [(0, .ref 62), (1, .int x1), (2, .int x2), (3, .int x3), (4, .int x4), (5, .int x5), (6, .int x6)] [] M (mv_qI Q)
    unfold gX11_feed_34 at h
    refine mv_iload 6 dX11_feed_34 rfl ?_
    refine mv_bipush 20 dX11_feed_36 (by decide) ?_
    refine mv_icmp_ge 131 dX11_feed_38 (by decide) (fun z => ?_) (fun z => ?_)
    · replace h := mv_ifT z h
      refine mv_aload_n 0 dX11_feed_131 rfl ?_
      refine mv_getI fX11_151 (by decide) rfl rfl dX11_feed_132 ?_
      exact mv_iret rfl dX11_feed_135 ⟨_, rfl, h⟩
    · replace h := mv_ifF z h
      refine mv_iload 6 dX11_feed_41 rfl ?_
      refine mv_iconst 4 dX11_feed_43 (by decide) ?_
      refine mv_icmp_ge 51 dX11_feed_44 (by decide) (fun z => ?_) (fun z => ?_)
      · replace h := mv_ifT z h
        refine mv_iload 6 dX11_feed_51 rfl ?_
        refine mv_bipush 8 dX11_feed_53 (by decide) ?_
        refine mv_icmp_ge 62 dX11_feed_55 (by decide) (fun z => ?_) (fun z => ?_)
        · replace h := mv_ifT z h
          refine mv_iload 6 dX11_feed_62 rfl ?_
          refine mv_bipush 12 dX11_feed_64 (by decide) ?_
          refine mv_icmp_ge 73 dX11_feed_66 (by decide) (fun z => ?_) (fun z => ?_)
          · replace h := mv_ifT z h
            refine mv_iload 6 dX11_feed_73 rfl ?_
            refine mv_bipush 16 dX11_feed_75 (by decide) ?_
            refine mv_icmp_ge 85 dX11_feed_77 (by decide) (fun z => ?_) (fun z => ?_)
            · replace h := mv_ifT z h
              refine mv_iload 5 dX11_feed_85 rfl ?_
              refine mv_sub [0, 1, 2, 3, 4, 5, 6] rfl ?_
              exact zX11_feed_87 hd x1 x2 x3 x4 x5 x6 x5 M h
            · replace h := mv_ifF z h
              refine mv_iload 4 dX11_feed_80 rfl ?_
              refine mv_goto 87 dX11_feed_82 (by decide) ?_
              refine mv_sub [0, 1, 2, 3, 4, 5, 6] rfl ?_
              exact zX11_feed_87 hd x1 x2 x3 x4 x5 x6 x4 M h
          · replace h := mv_ifF z h
            refine mv_iload_n 3 dX11_feed_69 rfl ?_
            refine mv_goto 87 dX11_feed_70 (by decide) ?_
            refine mv_sub [0, 1, 2, 3, 4, 5, 6] rfl ?_
            exact zX11_feed_87 hd x1 x2 x3 x4 x5 x6 x3 M h
        · replace h := mv_ifF z h
          refine mv_iload_n 2 dX11_feed_58 rfl ?_
          refine mv_goto 87 dX11_feed_59 (by decide) ?_
          refine mv_sub [0, 1, 2, 3, 4, 5, 6] rfl ?_
          exact zX11_feed_87 hd x1 x2 x3 x4 x5 x6 x2 M h
      · replace h := mv_ifF z h
        refine mv_iload_n 1 dX11_feed_47 rfl ?_
        refine mv_goto 87 dX11_feed_48 (by decide) ?_
        refine mv_sub [0, 1, 2, 3, 4, 5, 6] rfl ?_
        exact zX11_feed_87 hd x1 x2 x3 x4 x5 x6 x1 M h
noncomputable def fX11_feed_19 (x1 : Int32) (x2 : Int32) (x3 : Int32) (x4 : Int32) (x5 : Int32) (s0 : Int32) (M : mv_M) : Option (Int32 × mv_M) :=
  mv_let (mv_si M 62 0 s0) fun M1 =>
  if (M1.1 62 0) ≤ 0 then
    fX11_feed_34 x1 x2 x3 x4 x5 0 M1
  else
    some (0, M1)
set_option maxRecDepth 100000 in
set_option maxHeartbeats 4000000 in
theorem zX11_feed_19 {l : Launch} {d : Nat} {Q : Int32 → mv_M → Prop} (hd : 0 ≤ d) (x1 : Int32) (x2 : Int32) (x3 : Int32) (x4 : Int32) (x5 : Int32) (s0 : Int32) (M : mv_M) (h : mv_ok (fX11_feed_19 x1 x2 x3 x4 x5 s0 M) Q) : mv l mX11_feed d 0 19 [(0, .ref 62), (1, .int x1), (2, .int x2), (3, .int x3), (4, .int x4), (5, .int x5)] [.int s0, .ref 62] M (mv_qI Q) := by
  unfold fX11_feed_19 at h
  refine mv_putI fX11_148 (by decide) rfl rfl dX11_feed_19 (fun M1 eM1 => ?_)
  replace h := mv_letE h M1 eM1
  refine mv_aload_n 0 dX11_feed_22 rfl ?_
  refine mv_getI fX11_148 (by decide) rfl rfl dX11_feed_23 ?_
  refine mv_if_le 31 dX11_feed_26 (by decide) (fun z => ?_) (fun z => ?_)
  · replace h := mv_ifT z h
    refine mv_iconst 0 dX11_feed_31 (by decide) ?_
    refine mv_istore [(6, .int 0), (0, .ref 62), (1, .int x1), (2, .int x2), (3, .int x3), (4, .int x4), (5, .int x5)] dX11_feed_32 (by decide) rfl ?_
    refine mv_sub [1, 2, 3, 4, 5, 6, 0] rfl ?_
    exact zX11_feed_34 hd x1 x2 x3 x4 x5 0 M1 h
  · replace h := mv_ifF z h
    refine mv_iconst 0 dX11_feed_29 (by decide) ?_
    exact mv_iret rfl dX11_feed_30 ⟨_, rfl, h⟩
noncomputable def fX11_feed (a0 : Int32) (a1 : Int32) (a2 : Int32) (a3 : Int32) (a4 : Int32) (M : mv_M) : Option (Int32 × mv_M) :=
  if ((M.1 62 2) + 20) ≤ 4000 then
    fX11_feed_19 a0 a1 a2 a3 a4 0 M
  else
    fX11_feed_19 a0 a1 a2 a3 a4 1 M
set_option maxRecDepth 100000 in
set_option maxHeartbeats 4000000 in
theorem zX11_feed {l : Launch} {d : Nat} {Q : Int32 → mv_M → Prop} (hd : 0 ≤ d) (a0 : Int32) (a1 : Int32) (a2 : Int32) (a3 : Int32) (a4 : Int32) (M : mv_M) (h : mv_ok (fX11_feed a0 a1 a2 a3 a4 M) Q) : mv l mX11_feed d 0 0 (lv_args 0 [.ref 62, .int a0, .int a1, .int a2, .int a3, .int a4]) [] M (mv_qI Q) := by
  unfold fX11_feed at h
  show mv l mX11_feed d 0 0 [(0, .ref 62), (1, .int a0), (2, .int a1), (3, .int a2), (4, .int a3), (5, .int a4)] [] M (mv_qI Q)
  refine mv_aload_n 0 dX11_feed_0 rfl ?_
  refine mv_aload_n 0 dX11_feed_1 rfl ?_
  refine mv_getI fX11_151 (by decide) rfl rfl dX11_feed_2 ?_
  refine mv_bipush 20 dX11_feed_5 (by decide) ?_
  refine mv_iadd dX11_feed_7 ?_
  refine mv_sipush 4000 dX11_feed_8 (by decide) ?_
  refine mv_icmp_le 18 dX11_feed_11 (by decide) (fun z => ?_) (fun z => ?_)
  · replace h := mv_ifT z h
    refine mv_iconst 0 dX11_feed_18 (by decide) ?_
    refine mv_sub [0, 1, 2, 3, 4, 5] rfl ?_
    exact zX11_feed_19 hd a0 a1 a2 a3 a4 0 M h
  · replace h := mv_ifF z h
    refine mv_iconst 1 dX11_feed_14 (by decide) ?_
    refine mv_goto 19 dX11_feed_15 (by decide) ?_
    refine mv_sub [0, 1, 2, 3, 4, 5] rfl ?_
    exact zX11_feed_19 hd a0 a1 a2 a3 a4 1 M h
theorem dX11_cut_0 : decode cX11_cut 0 = .ok (.aload_n 0, 1) := by decide +kernel
theorem dX11_cut_1 : decode cX11_cut 1 = .ok (.iload_n 1, 1) := by decide +kernel
theorem dX11_cut_2 : decode cX11_cut 2 = .ok (.i2l, 1) := by decide +kernel
theorem dX11_cut_3 : decode cX11_cut 3 = .ok (.lconst 0, 1) := by decide +kernel
theorem dX11_cut_4 : decode cX11_cut 4 = .ok (.aload_n 0, 1) := by decide +kernel
theorem dX11_cut_5 : decode cX11_cut 5 = .ok (.getfield 151, 3) := by decide +kernel
theorem dX11_cut_8 : decode cX11_cut 8 = .ok (.i2l, 1) := by decide +kernel
theorem dX11_cut_9 : decode cX11_cut 9 = .ok (.invokestatic 154, 3) := by decide +kernel
theorem dX11_cut_12 : decode cX11_cut 12 = .ok (.ifCond .eq 7, 3) := by decide +kernel
theorem dX11_cut_15 : decode cX11_cut 15 = .ok (.iconst 0, 1) := by decide +kernel
theorem dX11_cut_16 : decode cX11_cut 16 = .ok (.goto 4, 3) := by decide +kernel
theorem dX11_cut_19 : decode cX11_cut 19 = .ok (.iconst 1, 1) := by decide +kernel
theorem dX11_cut_20 : decode cX11_cut 20 = .ok (.putfield 148, 3) := by decide +kernel
theorem dX11_cut_23 : decode cX11_cut 23 = .ok (.aload_n 0, 1) := by decide +kernel
theorem dX11_cut_24 : decode cX11_cut 24 = .ok (.getfield 148, 3) := by decide +kernel
theorem dX11_cut_27 : decode cX11_cut 27 = .ok (.ifCond .le 5, 3) := by decide +kernel
theorem dX11_cut_30 : decode cX11_cut 30 = .ok (.iconst 0, 1) := by decide +kernel
theorem dX11_cut_31 : decode cX11_cut 31 = .ok (.ireturn, 1) := by decide +kernel
theorem dX11_cut_32 : decode cX11_cut 32 = .ok (.aload_n 0, 1) := by decide +kernel
theorem dX11_cut_33 : decode cX11_cut 33 = .ok (.getfield 151, 3) := by decide +kernel
theorem dX11_cut_36 : decode cX11_cut 36 = .ok (.iload_n 1, 1) := by decide +kernel
theorem dX11_cut_37 : decode cX11_cut 37 = .ok (.isub, 1) := by decide +kernel
theorem dX11_cut_38 : decode cX11_cut 38 = .ok (.istore_n 2, 1) := by decide +kernel
theorem dX11_cut_39 : decode cX11_cut 39 = .ok (.aload_n 0, 1) := by decide +kernel
theorem dX11_cut_40 : decode cX11_cut 40 = .ok (.iload_n 1, 1) := by decide +kernel
theorem dX11_cut_41 : decode cX11_cut 41 = .ok (.putfield 151, 3) := by decide +kernel
theorem dX11_cut_44 : decode cX11_cut 44 = .ok (.iload_n 2, 1) := by decide +kernel
theorem dX11_cut_45 : decode cX11_cut 45 = .ok (.ireturn, 1) := by decide +kernel
noncomputable def fX11_cut_20 (x1 : Int32) (s0 : Int32) (M : mv_M) : Option (Int32 × mv_M) :=
  mv_let (mv_si M 62 0 s0) fun M3 =>
  if (M3.1 62 0) ≤ 0 then
    mv_let ((M3.1 62 2) - x1) fun v4 =>
    mv_let (mv_si M3 62 2 x1) fun M5 =>
    some (v4, M5)
  else
    some (0, M3)
set_option maxRecDepth 100000 in
set_option maxHeartbeats 4000000 in
theorem zX11_cut_20 {l : Launch} {d : Nat} {Q : Int32 → mv_M → Prop} (hd : 1 ≤ d) (x1 : Int32) (s0 : Int32) (M : mv_M) (h : mv_ok (fX11_cut_20 x1 s0 M) Q) : mv l mX11_cut d 0 20 [(0, .ref 62), (1, .int x1)] [.int s0, .ref 62] M (mv_qI Q) := by
  unfold fX11_cut_20 at h
  refine mv_putI fX11_148 (by decide) rfl rfl dX11_cut_20 (fun M3 eM3 => ?_)
  replace h := mv_letE h M3 eM3
  refine mv_aload_n 0 dX11_cut_23 rfl ?_
  refine mv_getI fX11_148 (by decide) rfl rfl dX11_cut_24 ?_
  refine mv_if_le 32 dX11_cut_27 (by decide) (fun z => ?_) (fun z => ?_)
  · replace h := mv_ifT z h
    refine mv_aload_n 0 dX11_cut_32 rfl ?_
    refine mv_getI fX11_151 (by decide) rfl rfl dX11_cut_33 ?_
    refine mv_iload_n 1 dX11_cut_36 rfl ?_
    refine mv_isub dX11_cut_37 ?_
    refine mv_topi (fun v4 ev4 => ?_)
    replace h := mv_letE h v4 ev4
    refine mv_istore_n [(2, .int v4), (0, .ref 62), (1, .int x1)] dX11_cut_38 (by decide) rfl ?_
    refine mv_aload_n 1 dX11_cut_39 rfl ?_
    refine mv_iload_n 2 dX11_cut_40 rfl ?_
    refine mv_putI fX11_151 (by decide) rfl rfl dX11_cut_41 (fun M5 eM5 => ?_)
    replace h := mv_letE h M5 eM5
    refine mv_iload_n 0 dX11_cut_44 rfl ?_
    exact mv_iret rfl dX11_cut_45 ⟨_, rfl, h⟩
  · replace h := mv_ifF z h
    refine mv_iconst 0 dX11_cut_30 (by decide) ?_
    exact mv_iret rfl dX11_cut_31 ⟨_, rfl, h⟩
noncomputable def fX11_cut (a0 : Int32) (M : mv_M) : Option (Int32 × mv_M) :=
  mv_bind (fX11_within (a0.toInt64) 0 ((M.1 62 2).toInt64) M) fun r1 M2 =>
  if r1 = 0 then
    fX11_cut_20 a0 1 M2
  else
    fX11_cut_20 a0 0 M2
set_option maxRecDepth 100000 in
set_option maxHeartbeats 4000000 in
theorem zX11_cut {l : Launch} {d : Nat} {Q : Int32 → mv_M → Prop} (hd : 1 ≤ d) (a0 : Int32) (M : mv_M) (h : mv_ok (fX11_cut a0 M) Q) : mv l mX11_cut d 0 0 (lv_args 0 [.ref 62, .int a0]) [] M (mv_qI Q) := by
  unfold fX11_cut at h
  show mv l mX11_cut d 0 0 [(0, .ref 62), (1, .int a0)] [] M (mv_qI Q)
  refine mv_aload_n 0 dX11_cut_0 rfl ?_
  refine mv_iload_n 1 dX11_cut_1 rfl ?_
  refine mv_i2l dX11_cut_2 ?_
  refine mv_lconst 0 dX11_cut_3 (by decide) ?_
  refine mv_aload_n 0 dX11_cut_4 rfl ?_
  refine mv_getI fX11_151 (by decide) rfl rfl dX11_cut_5 ?_
  refine mv_i2l dX11_cut_8 ?_
  refine mv_csI (As := [.long (a0.toInt64), .long 0, .long ((M.1 62 2).toInt64)]) (st := [.ref 62]) okX11_within lX11_154 rfl (Nat.le_of_ble_eq_true rfl) rfl (Nat.le_of_ble_eq_true rfl) dX11_cut_9 (by omega) rfl (zX11_within (d := d - 1) (by omega) (a0.toInt64) 0 ((M.1 62 2).toInt64) M (mv_bindE h)) (fun r1 M2 h => ?_)
  refine mv_if_eq 19 dX11_cut_12 (by decide) (fun z => ?_) (fun z => ?_)
  · replace h := mv_ifT z h
    refine mv_iconst 1 dX11_cut_19 (by decide) ?_
    refine mv_sub [0, 1] rfl ?_
    exact zX11_cut_20 hd a0 1 M2 h
  · replace h := mv_ifF z h
    refine mv_iconst 0 dX11_cut_15 (by decide) ?_
    refine mv_goto 20 dX11_cut_16 (by decide) ?_
    refine mv_sub [0, 1] rfl ?_
    exact zX11_cut_20 hd a0 0 M2 h
theorem dX11_firstOf_0 : decode cX11_firstOf 0 = .ok (.iload_n 0, 1) := by decide +kernel
theorem dX11_firstOf_1 : decode cX11_firstOf 1 = .ok (.iconst 3, 1) := by decide +kernel
theorem dX11_firstOf_2 : decode cX11_firstOf 2 = .ok (.if_icmp .lt 7, 3) := by decide +kernel
theorem dX11_firstOf_5 : decode cX11_firstOf 5 = .ok (.iconst 1, 1) := by decide +kernel
theorem dX11_firstOf_6 : decode cX11_firstOf 6 = .ok (.goto 4, 3) := by decide +kernel
theorem dX11_firstOf_9 : decode cX11_firstOf 9 = .ok (.iconst 0, 1) := by decide +kernel
theorem dX11_firstOf_10 : decode cX11_firstOf 10 = .ok (.ireturn, 1) := by decide +kernel
noncomputable def fX11_firstOf (a0 : Int32) (M : mv_M) : Option (Int32 × mv_M) :=
  if a0 < 3 then
    some (0, M)
  else
    some (1, M)
set_option maxRecDepth 100000 in
set_option maxHeartbeats 4000000 in
theorem zX11_firstOf {l : Launch} {d : Nat} {Q : Int32 → mv_M → Prop} (hd : 0 ≤ d) (a0 : Int32) (M : mv_M) (h : mv_ok (fX11_firstOf a0 M) Q) : mv l mX11_firstOf d 0 0 (lv_args 0 [.int a0]) [] M (mv_qI Q) := by
  unfold fX11_firstOf at h
  show mv l mX11_firstOf d 0 0 [(0, .int a0)] [] M (mv_qI Q)
  refine mv_iload_n 0 dX11_firstOf_0 rfl ?_
  refine mv_iconst 3 dX11_firstOf_1 (by decide) ?_
  refine mv_icmp_lt 9 dX11_firstOf_2 (by decide) (fun z => ?_) (fun z => ?_)
  · replace h := mv_ifT z h
    refine mv_iconst 0 dX11_firstOf_9 (by decide) ?_
    exact mv_iret rfl dX11_firstOf_10 ⟨_, rfl, h⟩
  · replace h := mv_ifF z h
    refine mv_iconst 1 dX11_firstOf_5 (by decide) ?_
    refine mv_goto 10 dX11_firstOf_6 (by decide) ?_
    exact mv_iret rfl dX11_firstOf_10 ⟨_, rfl, h⟩
theorem dX11_secondOf_0 : decode cX11_secondOf 0 = .ok (.iload_n 0, 1) := by decide +kernel
theorem dX11_secondOf_1 : decode cX11_secondOf 1 = .ok (.iconst 2, 1) := by decide +kernel
theorem dX11_secondOf_2 : decode cX11_secondOf 2 = .ok (.if_icmp .eq 8, 3) := by decide +kernel
theorem dX11_secondOf_5 : decode cX11_secondOf 5 = .ok (.iload_n 0, 1) := by decide +kernel
theorem dX11_secondOf_6 : decode cX11_secondOf 6 = .ok (.iconst 4, 1) := by decide +kernel
theorem dX11_secondOf_7 : decode cX11_secondOf 7 = .ok (.if_icmp .ne 7, 3) := by decide +kernel
theorem dX11_secondOf_10 : decode cX11_secondOf 10 = .ok (.iconst 1, 1) := by decide +kernel
theorem dX11_secondOf_11 : decode cX11_secondOf 11 = .ok (.goto 4, 3) := by decide +kernel
theorem dX11_secondOf_14 : decode cX11_secondOf 14 = .ok (.iconst 0, 1) := by decide +kernel
theorem dX11_secondOf_15 : decode cX11_secondOf 15 = .ok (.ireturn, 1) := by decide +kernel
noncomputable def fX11_secondOf_10 (M : mv_M) : Option (Int32 × mv_M) :=
  some (1, M)
set_option maxRecDepth 100000 in
set_option maxHeartbeats 4000000 in
theorem zX11_secondOf_10 {l : Launch} {d : Nat} {Q : Int32 → mv_M → Prop} (hd : 0 ≤ d) (M : mv_M) (h : mv_ok (fX11_secondOf_10 M) Q) : mv l mX11_secondOf d 0 10 [] [] M (mv_qI Q) := by
  unfold fX11_secondOf_10 at h
  refine mv_iconst 1 dX11_secondOf_10 (by decide) ?_
  refine mv_goto 15 dX11_secondOf_11 (by decide) ?_
  exact mv_iret rfl dX11_secondOf_15 ⟨_, rfl, h⟩
noncomputable def fX11_secondOf (a0 : Int32) (M : mv_M) : Option (Int32 × mv_M) :=
  if a0 = 2 then
    fX11_secondOf_10 M
  else
    if a0 = 4 then
      fX11_secondOf_10 M
    else
      some (0, M)
set_option maxRecDepth 100000 in
set_option maxHeartbeats 4000000 in
theorem zX11_secondOf {l : Launch} {d : Nat} {Q : Int32 → mv_M → Prop} (hd : 0 ≤ d) (a0 : Int32) (M : mv_M) (h : mv_ok (fX11_secondOf a0 M) Q) : mv l mX11_secondOf d 0 0 (lv_args 0 [.int a0]) [] M (mv_qI Q) := by
  unfold fX11_secondOf at h
  show mv l mX11_secondOf d 0 0 [(0, .int a0)] [] M (mv_qI Q)
  refine mv_iload_n 0 dX11_secondOf_0 rfl ?_
  refine mv_iconst 2 dX11_secondOf_1 (by decide) ?_
  refine mv_icmp_eq 10 dX11_secondOf_2 (by decide) (fun z => ?_) (fun z => ?_)
  · replace h := mv_ifT z h
    refine mv_sub [] rfl ?_
    exact zX11_secondOf_10 hd M h
  · replace h := mv_ifF z h
    refine mv_iload_n 0 dX11_secondOf_5 rfl ?_
    refine mv_iconst 4 dX11_secondOf_6 (by decide) ?_
    refine mv_icmp_ne 14 dX11_secondOf_7 (by decide) (fun z => ?_) (fun z => ?_)
    · replace h := mv_ifF z h
      refine mv_iconst 0 dX11_secondOf_14 (by decide) ?_
      exact mv_iret rfl dX11_secondOf_15 ⟨_, rfl, h⟩
    · replace h := mv_ifT z h
      refine mv_sub [] rfl ?_
      exact zX11_secondOf_10 hd M h
theorem dX11_pairOf_0 : decode cX11_pairOf 0 = .ok (.iload_n 0, 1) := by decide +kernel
theorem dX11_pairOf_1 : decode cX11_pairOf 1 = .ok (.iconst 1, 1) := by decide +kernel
theorem dX11_pairOf_2 : decode cX11_pairOf 2 = .ok (.if_icmp .gt 8, 3) := by decide +kernel
theorem dX11_pairOf_5 : decode cX11_pairOf 5 = .ok (.iload_n 1, 1) := by decide +kernel
theorem dX11_pairOf_6 : decode cX11_pairOf 6 = .ok (.iconst 1, 1) := by decide +kernel
theorem dX11_pairOf_7 : decode cX11_pairOf 7 = .ok (.if_icmp .le 7, 3) := by decide +kernel
theorem dX11_pairOf_10 : decode cX11_pairOf 10 = .ok (.iconst (-1), 1) := by decide +kernel
theorem dX11_pairOf_11 : decode cX11_pairOf 11 = .ok (.goto 10, 3) := by decide +kernel
theorem dX11_pairOf_14 : decode cX11_pairOf 14 = .ok (.iconst 1, 1) := by decide +kernel
theorem dX11_pairOf_15 : decode cX11_pairOf 15 = .ok (.iconst 2, 1) := by decide +kernel
theorem dX11_pairOf_16 : decode cX11_pairOf 16 = .ok (.iload_n 0, 1) := by decide +kernel
theorem dX11_pairOf_17 : decode cX11_pairOf 17 = .ok (.imul, 1) := by decide +kernel
theorem dX11_pairOf_18 : decode cX11_pairOf 18 = .ok (.iadd, 1) := by decide +kernel
theorem dX11_pairOf_19 : decode cX11_pairOf 19 = .ok (.iload_n 1, 1) := by decide +kernel
theorem dX11_pairOf_20 : decode cX11_pairOf 20 = .ok (.iadd, 1) := by decide +kernel
theorem dX11_pairOf_21 : decode cX11_pairOf 21 = .ok (.ireturn, 1) := by decide +kernel
noncomputable def fX11_pairOf_10 (M : mv_M) : Option (Int32 × mv_M) :=
  some ((-1), M)
set_option maxRecDepth 100000 in
set_option maxHeartbeats 4000000 in
theorem zX11_pairOf_10 {l : Launch} {d : Nat} {Q : Int32 → mv_M → Prop} (hd : 0 ≤ d) (M : mv_M) (h : mv_ok (fX11_pairOf_10 M) Q) : mv l mX11_pairOf d 0 10 [] [] M (mv_qI Q) := by
  unfold fX11_pairOf_10 at h
  refine mv_iconst (-1) dX11_pairOf_10 (by decide) ?_
  refine mv_goto 21 dX11_pairOf_11 (by decide) ?_
  exact mv_iret rfl dX11_pairOf_21 ⟨_, rfl, h⟩
noncomputable def fX11_pairOf (a0 : Int32) (a1 : Int32) (M : mv_M) : Option (Int32 × mv_M) :=
  if 1 < a0 then
    fX11_pairOf_10 M
  else
    if a1 ≤ 1 then
      some ((1 + (2 * a0)) + a1, M)
    else
      fX11_pairOf_10 M
set_option maxRecDepth 100000 in
set_option maxHeartbeats 4000000 in
theorem zX11_pairOf {l : Launch} {d : Nat} {Q : Int32 → mv_M → Prop} (hd : 0 ≤ d) (a0 : Int32) (a1 : Int32) (M : mv_M) (h : mv_ok (fX11_pairOf a0 a1 M) Q) : mv l mX11_pairOf d 0 0 (lv_args 0 [.int a0, .int a1]) [] M (mv_qI Q) := by
  unfold fX11_pairOf at h
  show mv l mX11_pairOf d 0 0 [(0, .int a0), (1, .int a1)] [] M (mv_qI Q)
  refine mv_iload_n 0 dX11_pairOf_0 rfl ?_
  refine mv_iconst 1 dX11_pairOf_1 (by decide) ?_
  refine mv_icmp_gt 10 dX11_pairOf_2 (by decide) (fun z => ?_) (fun z => ?_)
  · replace h := mv_ifT z h
    refine mv_sub [] rfl ?_
    exact zX11_pairOf_10 hd M h
  · replace h := mv_ifF z h
    refine mv_iload_n 1 dX11_pairOf_5 rfl ?_
    refine mv_iconst 1 dX11_pairOf_6 (by decide) ?_
    refine mv_icmp_le 14 dX11_pairOf_7 (by decide) (fun z => ?_) (fun z => ?_)
    · replace h := mv_ifT z h
      refine mv_iconst 1 dX11_pairOf_14 (by decide) ?_
      refine mv_iconst 2 dX11_pairOf_15 (by decide) ?_
      refine mv_iload_n 0 dX11_pairOf_16 rfl ?_
      refine mv_imul dX11_pairOf_17 ?_
      refine mv_iadd dX11_pairOf_18 ?_
      refine mv_iload_n 1 dX11_pairOf_19 rfl ?_
      refine mv_iadd dX11_pairOf_20 ?_
      exact mv_iret rfl dX11_pairOf_21 ⟨_, rfl, h⟩
    · replace h := mv_ifF z h
      refine mv_sub [] rfl ?_
      exact zX11_pairOf_10 hd M h
theorem dX11_demands_0 : decode cX11_demands 0 = .ok (.iload_n 0, 1) := by decide +kernel
theorem dX11_demands_1 : decode cX11_demands 1 = .ok (.ifCond .ne 7, 3) := by decide +kernel
theorem dX11_demands_4 : decode cX11_demands 4 = .ok (.iconst 2, 1) := by decide +kernel
theorem dX11_demands_5 : decode cX11_demands 5 = .ok (.goto 24, 3) := by decide +kernel
theorem dX11_demands_8 : decode cX11_demands 8 = .ok (.iload_n 0, 1) := by decide +kernel
theorem dX11_demands_9 : decode cX11_demands 9 = .ok (.iconst 1, 1) := by decide +kernel
theorem dX11_demands_10 : decode cX11_demands 10 = .ok (.if_icmp .ne 7, 3) := by decide +kernel
theorem dX11_demands_13 : decode cX11_demands 13 = .ok (.iconst 5, 1) := by decide +kernel
theorem dX11_demands_14 : decode cX11_demands 14 = .ok (.goto 15, 3) := by decide +kernel
theorem dX11_demands_17 : decode cX11_demands 17 = .ok (.iload_n 0, 1) := by decide +kernel
theorem dX11_demands_18 : decode cX11_demands 18 = .ok (.iconst 4, 1) := by decide +kernel
theorem dX11_demands_19 : decode cX11_demands 19 = .ok (.if_icmp .ne 8, 3) := by decide +kernel
theorem dX11_demands_22 : decode cX11_demands 22 = .ok (.bipush 26, 2) := by decide +kernel
theorem dX11_demands_24 : decode cX11_demands 24 = .ok (.goto 5, 3) := by decide +kernel
theorem dX11_demands_27 : decode cX11_demands 27 = .ok (.bipush 11, 2) := by decide +kernel
theorem dX11_demands_29 : decode cX11_demands 29 = .ok (.ireturn, 1) := by decide +kernel
noncomputable def fX11_demands (a0 : Int32) (M : mv_M) : Option (Int32 × mv_M) :=
  if a0 = 0 then
    some (2, M)
  else
    if a0 = 1 then
      some (5, M)
    else
      if a0 = 4 then
        some (26, M)
      else
        some (11, M)
set_option maxRecDepth 100000 in
set_option maxHeartbeats 4000000 in
theorem zX11_demands {l : Launch} {d : Nat} {Q : Int32 → mv_M → Prop} (hd : 0 ≤ d) (a0 : Int32) (M : mv_M) (h : mv_ok (fX11_demands a0 M) Q) : mv l mX11_demands d 0 0 (lv_args 0 [.int a0]) [] M (mv_qI Q) := by
  unfold fX11_demands at h
  show mv l mX11_demands d 0 0 [(0, .int a0)] [] M (mv_qI Q)
  refine mv_iload_n 0 dX11_demands_0 rfl ?_
  refine mv_if_ne 8 dX11_demands_1 (by decide) (fun z => ?_) (fun z => ?_)
  · replace h := mv_ifF z h
    refine mv_iload_n 0 dX11_demands_8 rfl ?_
    refine mv_iconst 1 dX11_demands_9 (by decide) ?_
    refine mv_icmp_ne 17 dX11_demands_10 (by decide) (fun z => ?_) (fun z => ?_)
    · replace h := mv_ifF z h
      refine mv_iload_n 0 dX11_demands_17 rfl ?_
      refine mv_iconst 4 dX11_demands_18 (by decide) ?_
      refine mv_icmp_ne 27 dX11_demands_19 (by decide) (fun z => ?_) (fun z => ?_)
      · replace h := mv_ifF z h
        refine mv_bipush 11 dX11_demands_27 (by decide) ?_
        exact mv_iret rfl dX11_demands_29 ⟨_, rfl, h⟩
      · replace h := mv_ifT z h
        refine mv_bipush 26 dX11_demands_22 (by decide) ?_
        refine mv_goto 29 dX11_demands_24 (by decide) ?_
        exact mv_iret rfl dX11_demands_29 ⟨_, rfl, h⟩
    · replace h := mv_ifT z h
      refine mv_iconst 5 dX11_demands_13 (by decide) ?_
      refine mv_goto 29 dX11_demands_14 (by decide) ?_
      exact mv_iret rfl dX11_demands_29 ⟨_, rfl, h⟩
  · replace h := mv_ifT z h
    refine mv_iconst 2 dX11_demands_4 (by decide) ?_
    refine mv_goto 29 dX11_demands_5 (by decide) ?_
    exact mv_iret rfl dX11_demands_29 ⟨_, rfl, h⟩
theorem dX11_nearBoth_0 : decode cX11_nearBoth 0 = .ok (.iload_n 0, 1) := by decide +kernel
theorem dX11_nearBoth_1 : decode cX11_nearBoth 1 = .ok (.ifCond .eq 7, 3) := by decide +kernel
theorem dX11_nearBoth_4 : decode cX11_nearBoth 4 = .ok (.iload_n 1, 1) := by decide +kernel
theorem dX11_nearBoth_5 : decode cX11_nearBoth 5 = .ok (.ifCond .ne 15, 3) := by decide +kernel
theorem dX11_nearBoth_8 : decode cX11_nearBoth 8 = .ok (.iload_n 2, 1) := by decide +kernel
theorem dX11_nearBoth_9 : decode cX11_nearBoth 9 = .ok (.ifCond .eq 9, 3) := by decide +kernel
theorem dX11_nearBoth_12 : decode cX11_nearBoth 12 = .ok (.iload_n 0, 1) := by decide +kernel
theorem dX11_nearBoth_13 : decode cX11_nearBoth 13 = .ok (.iload_n 1, 1) := by decide +kernel
theorem dX11_nearBoth_14 : decode cX11_nearBoth 14 = .ok (.iadd, 1) := by decide +kernel
theorem dX11_nearBoth_15 : decode cX11_nearBoth 15 = .ok (.goto 4, 3) := by decide +kernel
theorem dX11_nearBoth_18 : decode cX11_nearBoth 18 = .ok (.iconst 0, 1) := by decide +kernel
theorem dX11_nearBoth_19 : decode cX11_nearBoth 19 = .ok (.ireturn, 1) := by decide +kernel
theorem dX11_nearBoth_20 : decode cX11_nearBoth 20 = .ok (.iload_n 0, 1) := by decide +kernel
theorem dX11_nearBoth_21 : decode cX11_nearBoth 21 = .ok (.iconst 1, 1) := by decide +kernel
theorem dX11_nearBoth_22 : decode cX11_nearBoth 22 = .ok (.isub, 1) := by decide +kernel
theorem dX11_nearBoth_23 : decode cX11_nearBoth 23 = .ok (.iconst 2, 1) := by decide +kernel
theorem dX11_nearBoth_24 : decode cX11_nearBoth 24 = .ok (.idiv, 1) := by decide +kernel
theorem dX11_nearBoth_25 : decode cX11_nearBoth 25 = .ok (.istore_n 3, 1) := by decide +kernel
theorem dX11_nearBoth_26 : decode cX11_nearBoth 26 = .ok (.iload_n 0, 1) := by decide +kernel
theorem dX11_nearBoth_27 : decode cX11_nearBoth 27 = .ok (.iconst 1, 1) := by decide +kernel
theorem dX11_nearBoth_28 : decode cX11_nearBoth 28 = .ok (.isub, 1) := by decide +kernel
theorem dX11_nearBoth_29 : decode cX11_nearBoth 29 = .ok (.iconst 2, 1) := by decide +kernel
theorem dX11_nearBoth_30 : decode cX11_nearBoth 30 = .ok (.irem, 1) := by decide +kernel
theorem dX11_nearBoth_31 : decode cX11_nearBoth 31 = .ok (.istore 4, 2) := by decide +kernel
theorem dX11_nearBoth_33 : decode cX11_nearBoth 33 = .ok (.iload_n 1, 1) := by decide +kernel
theorem dX11_nearBoth_34 : decode cX11_nearBoth 34 = .ok (.iconst 1, 1) := by decide +kernel
theorem dX11_nearBoth_35 : decode cX11_nearBoth 35 = .ok (.isub, 1) := by decide +kernel
theorem dX11_nearBoth_36 : decode cX11_nearBoth 36 = .ok (.iconst 2, 1) := by decide +kernel
theorem dX11_nearBoth_37 : decode cX11_nearBoth 37 = .ok (.idiv, 1) := by decide +kernel
theorem dX11_nearBoth_38 : decode cX11_nearBoth 38 = .ok (.istore 5, 2) := by decide +kernel
theorem dX11_nearBoth_40 : decode cX11_nearBoth 40 = .ok (.iload_n 1, 1) := by decide +kernel
theorem dX11_nearBoth_41 : decode cX11_nearBoth 41 = .ok (.iconst 1, 1) := by decide +kernel
theorem dX11_nearBoth_42 : decode cX11_nearBoth 42 = .ok (.isub, 1) := by decide +kernel
theorem dX11_nearBoth_43 : decode cX11_nearBoth 43 = .ok (.iconst 2, 1) := by decide +kernel
theorem dX11_nearBoth_44 : decode cX11_nearBoth 44 = .ok (.irem, 1) := by decide +kernel
theorem dX11_nearBoth_45 : decode cX11_nearBoth 45 = .ok (.istore 6, 2) := by decide +kernel
theorem dX11_nearBoth_47 : decode cX11_nearBoth 47 = .ok (.iconst 1, 1) := by decide +kernel
theorem dX11_nearBoth_48 : decode cX11_nearBoth 48 = .ok (.iconst 2, 1) := by decide +kernel
theorem dX11_nearBoth_49 : decode cX11_nearBoth 49 = .ok (.iload_n 2, 1) := by decide +kernel
theorem dX11_nearBoth_50 : decode cX11_nearBoth 50 = .ok (.ifCond .eq 10, 3) := by decide +kernel
theorem dX11_nearBoth_53 : decode cX11_nearBoth 53 = .ok (.iload_n 3, 1) := by decide +kernel
theorem dX11_nearBoth_54 : decode cX11_nearBoth 54 = .ok (.iload 5, 2) := by decide +kernel
theorem dX11_nearBoth_56 : decode cX11_nearBoth 56 = .ok (.ior, 1) := by decide +kernel
theorem dX11_nearBoth_57 : decode cX11_nearBoth 57 = .ok (.goto 7, 3) := by decide +kernel
theorem dX11_nearBoth_60 : decode cX11_nearBoth 60 = .ok (.iload_n 3, 1) := by decide +kernel
theorem dX11_nearBoth_61 : decode cX11_nearBoth 61 = .ok (.iload 5, 2) := by decide +kernel
theorem dX11_nearBoth_63 : decode cX11_nearBoth 63 = .ok (.iand, 1) := by decide +kernel
theorem dX11_nearBoth_64 : decode cX11_nearBoth 64 = .ok (.imul, 1) := by decide +kernel
theorem dX11_nearBoth_65 : decode cX11_nearBoth 65 = .ok (.iadd, 1) := by decide +kernel
theorem dX11_nearBoth_66 : decode cX11_nearBoth 66 = .ok (.iload_n 2, 1) := by decide +kernel
theorem dX11_nearBoth_67 : decode cX11_nearBoth 67 = .ok (.ifCond .eq 11, 3) := by decide +kernel
theorem dX11_nearBoth_70 : decode cX11_nearBoth 70 = .ok (.iload 4, 2) := by decide +kernel
theorem dX11_nearBoth_72 : decode cX11_nearBoth 72 = .ok (.iload 6, 2) := by decide +kernel
theorem dX11_nearBoth_74 : decode cX11_nearBoth 74 = .ok (.ior, 1) := by decide +kernel
theorem dX11_nearBoth_75 : decode cX11_nearBoth 75 = .ok (.goto 8, 3) := by decide +kernel
theorem dX11_nearBoth_78 : decode cX11_nearBoth 78 = .ok (.iload 4, 2) := by decide +kernel
theorem dX11_nearBoth_80 : decode cX11_nearBoth 80 = .ok (.iload 6, 2) := by decide +kernel
theorem dX11_nearBoth_82 : decode cX11_nearBoth 82 = .ok (.iand, 1) := by decide +kernel
theorem dX11_nearBoth_83 : decode cX11_nearBoth 83 = .ok (.iadd, 1) := by decide +kernel
theorem dX11_nearBoth_84 : decode cX11_nearBoth 84 = .ok (.ireturn, 1) := by decide +kernel
noncomputable def fX11_nearBoth_8 (x0 : Int32) (x1 : Int32) (x2 : Int32) (M : mv_M) : Option (Int32 × mv_M) :=
  if x2 = 0 then
    some (0, M)
  else
    some (x0 + x1, M)
set_option maxRecDepth 100000 in
set_option maxHeartbeats 4000000 in
theorem zX11_nearBoth_8 {l : Launch} {d : Nat} {Q : Int32 → mv_M → Prop} (hd : 0 ≤ d) (x0 : Int32) (x1 : Int32) (x2 : Int32) (M : mv_M) (h : mv_ok (fX11_nearBoth_8 x0 x1 x2 M) Q) : mv l mX11_nearBoth d 0 8 [(0, .int x0), (1, .int x1), (2, .int x2)] [] M (mv_qI Q) := by
  unfold fX11_nearBoth_8 at h
  refine mv_iload_n 2 dX11_nearBoth_8 rfl ?_
  refine mv_if_eq 18 dX11_nearBoth_9 (by decide) (fun z => ?_) (fun z => ?_)
  · replace h := mv_ifT z h
    refine mv_iconst 0 dX11_nearBoth_18 (by decide) ?_
    exact mv_iret rfl dX11_nearBoth_19 ⟨_, rfl, h⟩
  · replace h := mv_ifF z h
    refine mv_iload_n 0 dX11_nearBoth_12 rfl ?_
    refine mv_iload_n 1 dX11_nearBoth_13 rfl ?_
    refine mv_iadd dX11_nearBoth_14 ?_
    refine mv_goto 19 dX11_nearBoth_15 (by decide) ?_
    exact mv_iret rfl dX11_nearBoth_19 ⟨_, rfl, h⟩
noncomputable def fX11_nearBoth_83 (s0 : Int32) (s1 : Int32) (M : mv_M) : Option (Int32 × mv_M) :=
  some (s1 + s0, M)
set_option maxRecDepth 100000 in
set_option maxHeartbeats 4000000 in
theorem zX11_nearBoth_83 {l : Launch} {d : Nat} {Q : Int32 → mv_M → Prop} (hd : 0 ≤ d) (s0 : Int32) (s1 : Int32) (M : mv_M) (h : mv_ok (fX11_nearBoth_83 s0 s1 M) Q) : mv l mX11_nearBoth d 0 83 [] [.int s0, .int s1] M (mv_qI Q) := by
  unfold fX11_nearBoth_83 at h
  refine mv_iadd dX11_nearBoth_83 ?_
  exact mv_iret rfl dX11_nearBoth_84 ⟨_, rfl, h⟩
noncomputable def fX11_nearBoth_64 (x2 : Int32) (x4 : Int32) (x6 : Int32) (s0 : Int32) (s1 : Int32) (s2 : Int32) (M : mv_M) : Option (Int32 × mv_M) :=
  if x2 = 0 then
    fX11_nearBoth_83 (x4 &&& x6) (s2 + (s1 * s0)) M
  else
    fX11_nearBoth_83 (x4 ||| x6) (s2 + (s1 * s0)) M
set_option maxRecDepth 100000 in
set_option maxHeartbeats 4000000 in
theorem zX11_nearBoth_64 {l : Launch} {d : Nat} {Q : Int32 → mv_M → Prop} (hd : 0 ≤ d) (x2 : Int32) (x4 : Int32) (x6 : Int32) (s0 : Int32) (s1 : Int32) (s2 : Int32) (M : mv_M) (h : mv_ok (fX11_nearBoth_64 x2 x4 x6 s0 s1 s2 M) Q) : mv l mX11_nearBoth d 0 64 [(2, .int x2), (4, .int x4), (6, .int x6)] [.int s0, .int s1, .int s2] M (mv_qI Q) := by
  unfold fX11_nearBoth_64 at h
  refine mv_imul dX11_nearBoth_64 ?_
  refine mv_iadd dX11_nearBoth_65 ?_
  refine mv_iload_n 0 dX11_nearBoth_66 rfl ?_
  refine mv_if_eq 78 dX11_nearBoth_67 (by decide) (fun z => ?_) (fun z => ?_)
  · replace h := mv_ifT z h
    refine mv_iload 1 dX11_nearBoth_78 rfl ?_
    refine mv_iload 2 dX11_nearBoth_80 rfl ?_
    refine mv_iand dX11_nearBoth_82 ?_
    refine mv_sub [] rfl ?_
    exact zX11_nearBoth_83 hd (x4 &&& x6) (s2 + (s1 * s0)) M h
  · replace h := mv_ifF z h
    refine mv_iload 1 dX11_nearBoth_70 rfl ?_
    refine mv_iload 2 dX11_nearBoth_72 rfl ?_
    refine mv_ior dX11_nearBoth_74 ?_
    refine mv_goto 83 dX11_nearBoth_75 (by decide) ?_
    refine mv_sub [] rfl ?_
    exact zX11_nearBoth_83 hd (x4 ||| x6) (s2 + (s1 * s0)) M h
noncomputable def fX11_nearBoth (a0 : Int32) (a1 : Int32) (a2 : Int32) (M : mv_M) : Option (Int32 × mv_M) :=
  if a0 = 0 then
    fX11_nearBoth_8 a0 a1 a2 M
  else
    if a1 = 0 then
      fX11_nearBoth_8 a0 a1 a2 M
    else
      mv_let ((a0 - 1) / 2) fun v1 =>
      mv_let ((a0 - 1) - (a0 - 1) / 2 * 2) fun v2 =>
      mv_let ((a1 - 1) / 2) fun v3 =>
      mv_let ((a1 - 1) - (a1 - 1) / 2 * 2) fun v4 =>
      if a2 = 0 then
        fX11_nearBoth_64 a2 v2 v4 (v1 &&& v3) 2 1 M
      else
        fX11_nearBoth_64 a2 v2 v4 (v1 ||| v3) 2 1 M
set_option maxRecDepth 100000 in
set_option maxHeartbeats 4000000 in
theorem zX11_nearBoth {l : Launch} {d : Nat} {Q : Int32 → mv_M → Prop} (hd : 0 ≤ d) (a0 : Int32) (a1 : Int32) (a2 : Int32) (M : mv_M) (h : mv_ok (fX11_nearBoth a0 a1 a2 M) Q) : mv l mX11_nearBoth d 0 0 (lv_args 0 [.int a0, .int a1, .int a2]) [] M (mv_qI Q) := by
  unfold fX11_nearBoth at h
  show mv l mX11_nearBoth d 0 0 [(0, .int a0), (1, .int a1), (2, .int a2)] [] M (mv_qI Q)
  refine mv_iload_n 0 dX11_nearBoth_0 rfl ?_
  refine mv_if_eq 8 dX11_nearBoth_1 (by decide) (fun z => ?_) (fun z => ?_)
  · replace h := mv_ifT z h
    refine mv_sub [0, 1, 2] rfl ?_
    exact zX11_nearBoth_8 hd a0 a1 a2 M h
  · replace h := mv_ifF z h
    refine mv_iload_n 1 dX11_nearBoth_4 rfl ?_
    refine mv_if_ne 20 dX11_nearBoth_5 (by decide) (fun z => ?_) (fun z => ?_)
    · replace h := mv_ifF z h
      refine mv_iload_n 0 dX11_nearBoth_20 rfl ?_
      refine mv_iconst 1 dX11_nearBoth_21 (by decide) ?_
      refine mv_isub dX11_nearBoth_22 ?_
      refine mv_iconst 2 dX11_nearBoth_23 (by decide) ?_
      refine mv_idiv dX11_nearBoth_24 (by decide) ?_
      refine mv_topi (fun v1 ev1 => ?_)
      replace h := mv_letE h v1 ev1
      refine mv_istore_n [(3, .int v1), (0, .int a0), (1, .int a1), (2, .int a2)] dX11_nearBoth_25 (by decide) rfl ?_
      refine mv_iload_n 1 dX11_nearBoth_26 rfl ?_
      refine mv_iconst 1 dX11_nearBoth_27 (by decide) ?_
      refine mv_isub dX11_nearBoth_28 ?_
      refine mv_iconst 2 dX11_nearBoth_29 (by decide) ?_
      refine mv_irem dX11_nearBoth_30 (by decide) ?_
      refine mv_topi (fun v2 ev2 => ?_)
      replace h := mv_letE h v2 ev2
      refine mv_istore [(4, .int v2), (3, .int v1), (0, .int a0), (1, .int a1), (2, .int a2)] dX11_nearBoth_31 (by decide) rfl ?_
      refine mv_iload_n 3 dX11_nearBoth_33 rfl ?_
      refine mv_iconst 1 dX11_nearBoth_34 (by decide) ?_
      refine mv_isub dX11_nearBoth_35 ?_
      refine mv_iconst 2 dX11_nearBoth_36 (by decide) ?_
      refine mv_idiv dX11_nearBoth_37 (by decide) ?_
      refine mv_topi (fun v3 ev3 => ?_)
      replace h := mv_letE h v3 ev3
      refine mv_istore [(5, .int v3), (4, .int v2), (3, .int v1), (0, .int a0), (1, .int a1), (2, .int a2)] dX11_nearBoth_38 (by decide) rfl ?_
      refine mv_iload_n 4 dX11_nearBoth_40 rfl ?_
      refine mv_iconst 1 dX11_nearBoth_41 (by decide) ?_
      refine mv_isub dX11_nearBoth_42 ?_
      refine mv_iconst 2 dX11_nearBoth_43 (by decide) ?_
      refine mv_irem dX11_nearBoth_44 (by decide) ?_
      refine mv_topi (fun v4 ev4 => ?_)
      replace h := mv_letE h v4 ev4
      refine mv_istore [(6, .int v4), (5, .int v3), (4, .int v2), (3, .int v1), (0, .int a0), (1, .int a1), (2, .int a2)] dX11_nearBoth_45 (by decide) rfl ?_
      refine mv_iconst 1 dX11_nearBoth_47 (by decide) ?_
      refine mv_iconst 2 dX11_nearBoth_48 (by decide) ?_
      refine mv_iload_n 6 dX11_nearBoth_49 rfl ?_
      refine mv_if_eq 60 dX11_nearBoth_50 (by decide) (fun z => ?_) (fun z => ?_)
      · replace h := mv_ifT z h
        refine mv_iload_n 3 dX11_nearBoth_60 rfl ?_
        refine mv_iload 1 dX11_nearBoth_61 rfl ?_
        refine mv_iand dX11_nearBoth_63 ?_
        refine mv_sub [6, 2, 0] rfl ?_
        exact zX11_nearBoth_64 hd a2 v2 v4 (v1 &&& v3) 2 1 M h
      · replace h := mv_ifF z h
        refine mv_iload_n 3 dX11_nearBoth_53 rfl ?_
        refine mv_iload 1 dX11_nearBoth_54 rfl ?_
        refine mv_ior dX11_nearBoth_56 ?_
        refine mv_goto 64 dX11_nearBoth_57 (by decide) ?_
        refine mv_sub [6, 2, 0] rfl ?_
        exact zX11_nearBoth_64 hd a2 v2 v4 (v1 ||| v3) 2 1 M h
    · replace h := mv_ifT z h
      refine mv_sub [0, 1, 2] rfl ?_
      exact zX11_nearBoth_8 hd a0 a1 a2 M h
theorem dX11_partBoth_0 : decode cX11_partBoth 0 = .ok (.iload_n 0, 1) := by decide +kernel
theorem dX11_partBoth_1 : decode cX11_partBoth 1 = .ok (.ifCond .ne 19, 3) := by decide +kernel
theorem dX11_partBoth_4 : decode cX11_partBoth 4 = .ok (.iload_n 3, 1) := by decide +kernel
theorem dX11_partBoth_5 : decode cX11_partBoth 5 = .ok (.ifCond .eq 9, 3) := by decide +kernel
theorem dX11_partBoth_8 : decode cX11_partBoth 8 = .ok (.iload_n 1, 1) := by decide +kernel
theorem dX11_partBoth_9 : decode cX11_partBoth 9 = .ok (.iload_n 2, 1) := by decide +kernel
theorem dX11_partBoth_10 : decode cX11_partBoth 10 = .ok (.ior, 1) := by decide +kernel
theorem dX11_partBoth_11 : decode cX11_partBoth 11 = .ok (.goto 15, 3) := by decide +kernel
theorem dX11_partBoth_14 : decode cX11_partBoth 14 = .ok (.iload_n 1, 1) := by decide +kernel
theorem dX11_partBoth_15 : decode cX11_partBoth 15 = .ok (.iload_n 2, 1) := by decide +kernel
theorem dX11_partBoth_16 : decode cX11_partBoth 16 = .ok (.iand, 1) := by decide +kernel
theorem dX11_partBoth_17 : decode cX11_partBoth 17 = .ok (.goto 9, 3) := by decide +kernel
theorem dX11_partBoth_20 : decode cX11_partBoth 20 = .ok (.iload_n 1, 1) := by decide +kernel
theorem dX11_partBoth_21 : decode cX11_partBoth 21 = .ok (.iload_n 2, 1) := by decide +kernel
theorem dX11_partBoth_22 : decode cX11_partBoth 22 = .ok (.iload_n 3, 1) := by decide +kernel
theorem dX11_partBoth_23 : decode cX11_partBoth 23 = .ok (.invokestatic 158, 3) := by decide +kernel
theorem dX11_partBoth_26 : decode cX11_partBoth 26 = .ok (.ireturn, 1) := by decide +kernel
noncomputable def fX11_partBoth (a0 : Int32) (a1 : Int32) (a2 : Int32) (a3 : Int32) (M : mv_M) : Option (Int32 × mv_M) :=
  if a0 = 0 then
    if a3 = 0 then
      some (a1 &&& a2, M)
    else
      some (a1 ||| a2, M)
  else
    mv_bind (fX11_nearBoth a1 a2 a3 M) fun r1 M2 =>
    some (r1, M2)
set_option maxRecDepth 100000 in
set_option maxHeartbeats 4000000 in
theorem zX11_partBoth {l : Launch} {d : Nat} {Q : Int32 → mv_M → Prop} (hd : 1 ≤ d) (a0 : Int32) (a1 : Int32) (a2 : Int32) (a3 : Int32) (M : mv_M) (h : mv_ok (fX11_partBoth a0 a1 a2 a3 M) Q) : mv l mX11_partBoth d 0 0 (lv_args 0 [.int a0, .int a1, .int a2, .int a3]) [] M (mv_qI Q) := by
  unfold fX11_partBoth at h
  show mv l mX11_partBoth d 0 0 [(0, .int a0), (1, .int a1), (2, .int a2), (3, .int a3)] [] M (mv_qI Q)
  refine mv_iload_n 0 dX11_partBoth_0 rfl ?_
  refine mv_if_ne 20 dX11_partBoth_1 (by decide) (fun z => ?_) (fun z => ?_)
  · replace h := mv_ifF z h
    refine mv_iload_n 1 dX11_partBoth_20 rfl ?_
    refine mv_iload_n 2 dX11_partBoth_21 rfl ?_
    refine mv_iload_n 3 dX11_partBoth_22 rfl ?_
    refine mv_csI (As := [.int a1, .int a2, .int a3]) (st := []) okX11_nearBoth lX11_158 rfl (Nat.le_of_ble_eq_true rfl) rfl (Nat.le_of_ble_eq_true rfl) dX11_partBoth_23 (by omega) rfl (zX11_nearBoth (d := d - 1) (by omega) a1 a2 a3 M (mv_bindE h)) (fun r1 M2 h => ?_)
    exact mv_iret rfl dX11_partBoth_26 ⟨_, rfl, h⟩
  · replace h := mv_ifT z h
    refine mv_iload_n 3 dX11_partBoth_4 rfl ?_
    refine mv_if_eq 14 dX11_partBoth_5 (by decide) (fun z => ?_) (fun z => ?_)
    · replace h := mv_ifT z h
      refine mv_iload_n 1 dX11_partBoth_14 rfl ?_
      refine mv_iload_n 2 dX11_partBoth_15 rfl ?_
      refine mv_iand dX11_partBoth_16 ?_
      refine mv_goto 26 dX11_partBoth_17 (by decide) ?_
      exact mv_iret rfl dX11_partBoth_26 ⟨_, rfl, h⟩
    · replace h := mv_ifF z h
      refine mv_iload_n 1 dX11_partBoth_8 rfl ?_
      refine mv_iload_n 2 dX11_partBoth_9 rfl ?_
      refine mv_ior dX11_partBoth_10 ?_
      refine mv_goto 26 dX11_partBoth_11 (by decide) ?_
      exact mv_iret rfl dX11_partBoth_26 ⟨_, rfl, h⟩
theorem dX11_joined_0 : decode cX11_joined 0 = .ok (.iload_n 0, 1) := by decide +kernel
theorem dX11_joined_1 : decode cX11_joined 1 = .ok (.ifCond .eq 11, 3) := by decide +kernel
theorem dX11_joined_4 : decode cX11_joined 4 = .ok (.iload_n 1, 1) := by decide +kernel
theorem dX11_joined_5 : decode cX11_joined 5 = .ok (.ifCond .eq 7, 3) := by decide +kernel
theorem dX11_joined_8 : decode cX11_joined 8 = .ok (.iload_n 2, 1) := by decide +kernel
theorem dX11_joined_9 : decode cX11_joined 9 = .ok (.ifCond .ne 27, 3) := by decide +kernel
theorem dX11_joined_12 : decode cX11_joined 12 = .ok (.iload_n 1, 1) := by decide +kernel
theorem dX11_joined_13 : decode cX11_joined 13 = .ok (.ifCond .eq 7, 3) := by decide +kernel
theorem dX11_joined_16 : decode cX11_joined 16 = .ok (.iload_n 2, 1) := by decide +kernel
theorem dX11_joined_17 : decode cX11_joined 17 = .ok (.ifCond .ne 17, 3) := by decide +kernel
theorem dX11_joined_20 : decode cX11_joined 20 = .ok (.iload_n 3, 1) := by decide +kernel
theorem dX11_joined_21 : decode cX11_joined 21 = .ok (.ifCond .eq 9, 3) := by decide +kernel
theorem dX11_joined_24 : decode cX11_joined 24 = .ok (.iload_n 1, 1) := by decide +kernel
theorem dX11_joined_25 : decode cX11_joined 25 = .ok (.iload_n 2, 1) := by decide +kernel
theorem dX11_joined_26 : decode cX11_joined 26 = .ok (.iadd, 1) := by decide +kernel
theorem dX11_joined_27 : decode cX11_joined 27 = .ok (.goto 8, 3) := by decide +kernel
theorem dX11_joined_30 : decode cX11_joined 30 = .ok (.iconst 0, 1) := by decide +kernel
theorem dX11_joined_31 : decode cX11_joined 31 = .ok (.goto 4, 3) := by decide +kernel
theorem dX11_joined_34 : decode cX11_joined 34 = .ok (.iconst 1, 1) := by decide +kernel
theorem dX11_joined_35 : decode cX11_joined 35 = .ok (.ireturn, 1) := by decide +kernel
theorem dX11_joined_36 : decode cX11_joined 36 = .ok (.iload_n 0, 1) := by decide +kernel
theorem dX11_joined_37 : decode cX11_joined 37 = .ok (.invokestatic 162, 3) := by decide +kernel
theorem dX11_joined_40 : decode cX11_joined 40 = .ok (.invokestatic 166, 3) := by decide +kernel
theorem dX11_joined_43 : decode cX11_joined 43 = .ok (.istore 4, 2) := by decide +kernel
theorem dX11_joined_45 : decode cX11_joined 45 = .ok (.iload_n 0, 1) := by decide +kernel
theorem dX11_joined_46 : decode cX11_joined 46 = .ok (.invokestatic 169, 3) := by decide +kernel
theorem dX11_joined_49 : decode cX11_joined 49 = .ok (.iload_n 1, 1) := by decide +kernel
theorem dX11_joined_50 : decode cX11_joined 50 = .ok (.iconst 1, 1) := by decide +kernel
theorem dX11_joined_51 : decode cX11_joined 51 = .ok (.isub, 1) := by decide +kernel
theorem dX11_joined_52 : decode cX11_joined 52 = .ok (.iload 4, 2) := by decide +kernel
theorem dX11_joined_54 : decode cX11_joined 54 = .ok (.idiv, 1) := by decide +kernel
theorem dX11_joined_55 : decode cX11_joined 55 = .ok (.iload_n 2, 1) := by decide +kernel
theorem dX11_joined_56 : decode cX11_joined 56 = .ok (.iconst 1, 1) := by decide +kernel
theorem dX11_joined_57 : decode cX11_joined 57 = .ok (.isub, 1) := by decide +kernel
theorem dX11_joined_58 : decode cX11_joined 58 = .ok (.iload 4, 2) := by decide +kernel
theorem dX11_joined_60 : decode cX11_joined 60 = .ok (.idiv, 1) := by decide +kernel
theorem dX11_joined_61 : decode cX11_joined 61 = .ok (.iload_n 3, 1) := by decide +kernel
theorem dX11_joined_62 : decode cX11_joined 62 = .ok (.invokestatic 172, 3) := by decide +kernel
theorem dX11_joined_65 : decode cX11_joined 65 = .ok (.istore 5, 2) := by decide +kernel
theorem dX11_joined_67 : decode cX11_joined 67 = .ok (.iconst 1, 1) := by decide +kernel
theorem dX11_joined_68 : decode cX11_joined 68 = .ok (.iload 5, 2) := by decide +kernel
theorem dX11_joined_70 : decode cX11_joined 70 = .ok (.iload 4, 2) := by decide +kernel
theorem dX11_joined_72 : decode cX11_joined 72 = .ok (.imul, 1) := by decide +kernel
theorem dX11_joined_73 : decode cX11_joined 73 = .ok (.iadd, 1) := by decide +kernel
theorem dX11_joined_74 : decode cX11_joined 74 = .ok (.iload_n 0, 1) := by decide +kernel
theorem dX11_joined_75 : decode cX11_joined 75 = .ok (.invokestatic 162, 3) := by decide +kernel
theorem dX11_joined_78 : decode cX11_joined 78 = .ok (.iload_n 1, 1) := by decide +kernel
theorem dX11_joined_79 : decode cX11_joined 79 = .ok (.iconst 1, 1) := by decide +kernel
theorem dX11_joined_80 : decode cX11_joined 80 = .ok (.isub, 1) := by decide +kernel
theorem dX11_joined_81 : decode cX11_joined 81 = .ok (.iload 4, 2) := by decide +kernel
theorem dX11_joined_83 : decode cX11_joined 83 = .ok (.irem, 1) := by decide +kernel
theorem dX11_joined_84 : decode cX11_joined 84 = .ok (.iload_n 2, 1) := by decide +kernel
theorem dX11_joined_85 : decode cX11_joined 85 = .ok (.iconst 1, 1) := by decide +kernel
theorem dX11_joined_86 : decode cX11_joined 86 = .ok (.isub, 1) := by decide +kernel
theorem dX11_joined_87 : decode cX11_joined 87 = .ok (.iload 4, 2) := by decide +kernel
theorem dX11_joined_89 : decode cX11_joined 89 = .ok (.irem, 1) := by decide +kernel
theorem dX11_joined_90 : decode cX11_joined 90 = .ok (.iload_n 3, 1) := by decide +kernel
theorem dX11_joined_91 : decode cX11_joined 91 = .ok (.invokestatic 172, 3) := by decide +kernel
theorem dX11_joined_94 : decode cX11_joined 94 = .ok (.iadd, 1) := by decide +kernel
theorem dX11_joined_95 : decode cX11_joined 95 = .ok (.ireturn, 1) := by decide +kernel
noncomputable def fX11_joined_20 (x1 : Int32) (x2 : Int32) (x3 : Int32) (M : mv_M) : Option (Int32 × mv_M) :=
  if x3 = 0 then
    some (0, M)
  else
    some (x1 + x2, M)
set_option maxRecDepth 100000 in
set_option maxHeartbeats 4000000 in
theorem zX11_joined_20 {l : Launch} {d : Nat} {Q : Int32 → mv_M → Prop} (hd : 2 ≤ d) (x1 : Int32) (x2 : Int32) (x3 : Int32) (M : mv_M) (h : mv_ok (fX11_joined_20 x1 x2 x3 M) Q) : mv l mX11_joined d 0 20 [(1, .int x1), (2, .int x2), (3, .int x3)] [] M (mv_qI Q) := by
  unfold fX11_joined_20 at h
  refine mv_iload_n 2 dX11_joined_20 rfl ?_
  refine mv_if_eq 30 dX11_joined_21 (by decide) (fun z => ?_) (fun z => ?_)
  · replace h := mv_ifT z h
    refine mv_iconst 0 dX11_joined_30 (by decide) ?_
    refine mv_goto 35 dX11_joined_31 (by decide) ?_
    exact mv_iret rfl dX11_joined_35 ⟨_, rfl, h⟩
  · replace h := mv_ifF z h
    refine mv_iload_n 0 dX11_joined_24 rfl ?_
    refine mv_iload_n 1 dX11_joined_25 rfl ?_
    refine mv_iadd dX11_joined_26 ?_
    refine mv_goto 35 dX11_joined_27 (by decide) ?_
    exact mv_iret rfl dX11_joined_35 ⟨_, rfl, h⟩
noncomputable def fX11_joined_12 (x1 : Int32) (x2 : Int32) (x3 : Int32) (M : mv_M) : Option (Int32 × mv_M) :=
  if x1 = 0 then
    fX11_joined_20 x1 x2 x3 M
  else
    if x2 = 0 then
      fX11_joined_20 x1 x2 x3 M
    else
      some (1, M)
set_option maxRecDepth 100000 in
set_option maxHeartbeats 4000000 in
theorem zX11_joined_12 {l : Launch} {d : Nat} {Q : Int32 → mv_M → Prop} (hd : 2 ≤ d) (x1 : Int32) (x2 : Int32) (x3 : Int32) (M : mv_M) (h : mv_ok (fX11_joined_12 x1 x2 x3 M) Q) : mv l mX11_joined d 0 12 [(1, .int x1), (2, .int x2), (3, .int x3)] [] M (mv_qI Q) := by
  unfold fX11_joined_12 at h
  refine mv_iload_n 0 dX11_joined_12 rfl ?_
  refine mv_if_eq 20 dX11_joined_13 (by decide) (fun z => ?_) (fun z => ?_)
  · replace h := mv_ifT z h
    refine mv_sub [0, 1, 2] rfl ?_
    exact zX11_joined_20 hd x1 x2 x3 M h
  · replace h := mv_ifF z h
    refine mv_iload_n 1 dX11_joined_16 rfl ?_
    refine mv_if_ne 34 dX11_joined_17 (by decide) (fun z => ?_) (fun z => ?_)
    · replace h := mv_ifF z h
      refine mv_iconst 1 dX11_joined_34 (by decide) ?_
      exact mv_iret rfl dX11_joined_35 ⟨_, rfl, h⟩
    · replace h := mv_ifT z h
      refine mv_sub [0, 1, 2] rfl ?_
      exact zX11_joined_20 hd x1 x2 x3 M h
noncomputable def fX11_joined (a0 : Int32) (a1 : Int32) (a2 : Int32) (a3 : Int32) (M : mv_M) : Option (Int32 × mv_M) :=
  if a0 = 0 then
    fX11_joined_12 a1 a2 a3 M
  else
    if a1 = 0 then
      fX11_joined_12 a1 a2 a3 M
    else
      if a2 = 0 then
        fX11_joined_12 a1 a2 a3 M
      else
        mv_bind (fX11_secondOf a0 M) fun r1 M2 =>
        mv_bind (fX11_demands r1 M2) fun r3 M4 =>
        mv_bind (fX11_firstOf a0 M4) fun r5 M6 =>
        mv_chk (mv_nz r3) <|
        mv_chk (mv_nz r3) <|
        mv_bind (fX11_partBoth r5 ((a1 - 1) / r3) ((a2 - 1) / r3) a3 M6) fun r9 M10 =>
        mv_bind (fX11_secondOf a0 M10) fun r11 M12 =>
        mv_chk (mv_nz r3) <|
        mv_chk (mv_nz r3) <|
        mv_bind (fX11_partBoth r11 ((a1 - 1) - (a1 - 1) / r3 * r3) ((a2 - 1) - (a2 - 1) / r3 * r3) a3 M12) fun r15 M16 =>
        some ((1 + (r9 * r3)) + r15, M16)
set_option maxRecDepth 100000 in
set_option maxHeartbeats 4000000 in
theorem zX11_joined {l : Launch} {d : Nat} {Q : Int32 → mv_M → Prop} (hd : 2 ≤ d) (a0 : Int32) (a1 : Int32) (a2 : Int32) (a3 : Int32) (M : mv_M) (h : mv_ok (fX11_joined a0 a1 a2 a3 M) Q) : mv l mX11_joined d 0 0 (lv_args 0 [.int a0, .int a1, .int a2, .int a3]) [] M (mv_qI Q) := by
  unfold fX11_joined at h
  show mv l mX11_joined d 0 0 [(0, .int a0), (1, .int a1), (2, .int a2), (3, .int a3)] [] M (mv_qI Q)
  refine mv_iload_n 0 dX11_joined_0 rfl ?_
  refine mv_if_eq 12 dX11_joined_1 (by decide) (fun z => ?_) (fun z => ?_)
  · replace h := mv_ifT z h
    refine mv_sub [1, 2, 3] rfl ?_
    exact zX11_joined_12 hd a1 a2 a3 M h
  · replace h := mv_ifF z h
    refine mv_iload_n 1 dX11_joined_4 rfl ?_
    refine mv_if_eq 12 dX11_joined_5 (by decide) (fun z => ?_) (fun z => ?_)
    · replace h := mv_ifT z h
      refine mv_sub [1, 2, 3] rfl ?_
      exact zX11_joined_12 hd a1 a2 a3 M h
    · replace h := mv_ifF z h
      refine mv_iload_n 2 dX11_joined_8 rfl ?_
      refine mv_if_ne 36 dX11_joined_9 (by decide) (fun z => ?_) (fun z => ?_)
      · replace h := mv_ifF z h
        refine mv_iload_n 0 dX11_joined_36 rfl ?_
        refine mv_csI (As := [.int a0]) (st := []) okX11_secondOf lX11_162 rfl (Nat.le_of_ble_eq_true rfl) rfl (Nat.le_of_ble_eq_true rfl) dX11_joined_37 (by omega) rfl (zX11_secondOf (d := d - 1) (by omega) a0 M (mv_bindE h)) (fun r1 M2 h => ?_)
        refine mv_csI (As := [.int r1]) (st := []) okX11_demands lX11_166 rfl (Nat.le_of_ble_eq_true rfl) rfl (Nat.le_of_ble_eq_true rfl) dX11_joined_40 (by omega) rfl (zX11_demands (d := d - 1) (by omega) r1 M2 (mv_bindE h)) (fun r3 M4 h => ?_)
        refine mv_istore [(4, .int r3), (0, .int a0), (1, .int a1), (2, .int a2), (3, .int a3)] dX11_joined_43 (by decide) rfl ?_
        refine mv_iload_n 1 dX11_joined_45 rfl ?_
        refine mv_csI (As := [.int a0]) (st := []) okX11_firstOf lX11_169 rfl (Nat.le_of_ble_eq_true rfl) rfl (Nat.le_of_ble_eq_true rfl) dX11_joined_46 (by omega) rfl (zX11_firstOf (d := d - 1) (by omega) a0 M4 (mv_bindE h)) (fun r5 M6 h => ?_)
        refine mv_iload_n 2 dX11_joined_49 rfl ?_
        refine mv_iconst 1 dX11_joined_50 (by decide) ?_
        refine mv_isub dX11_joined_51 ?_
        refine mv_iload 0 dX11_joined_52 rfl ?_
        obtain ⟨hz7, h⟩ := mv_chkE h
        refine mv_idiv dX11_joined_54 (mv_nzE hz7) ?_
        refine mv_iload_n 3 dX11_joined_55 rfl ?_
        refine mv_iconst 1 dX11_joined_56 (by decide) ?_
        refine mv_isub dX11_joined_57 ?_
        refine mv_iload 0 dX11_joined_58 rfl ?_
        obtain ⟨hz8, h⟩ := mv_chkE h
        refine mv_idiv dX11_joined_60 (mv_nzE hz8) ?_
        refine mv_iload_n 4 dX11_joined_61 rfl ?_
        refine mv_csI (As := [.int r5, .int ((a1 - 1) / r3), .int ((a2 - 1) / r3), .int a3]) (st := []) okX11_partBoth lX11_172 rfl (Nat.le_of_ble_eq_true rfl) rfl (Nat.le_of_ble_eq_true rfl) dX11_joined_62 (by omega) rfl (zX11_partBoth (d := d - 1) (by omega) r5 ((a1 - 1) / r3) ((a2 - 1) / r3) a3 M6 (mv_bindE h)) (fun r9 M10 h => ?_)
        refine mv_istore [(5, .int r9), (4, .int r3), (0, .int a0), (1, .int a1), (2, .int a2), (3, .int a3)] dX11_joined_65 (by decide) rfl ?_
        refine mv_iconst 1 dX11_joined_67 (by decide) ?_
        refine mv_iload 0 dX11_joined_68 rfl ?_
        refine mv_iload 1 dX11_joined_70 rfl ?_
        refine mv_imul dX11_joined_72 ?_
        refine mv_iadd dX11_joined_73 ?_
        refine mv_iload_n 2 dX11_joined_74 rfl ?_
        refine mv_csI (As := [.int a0]) (st := [.int (1 + (r9 * r3))]) okX11_secondOf lX11_162 rfl (Nat.le_of_ble_eq_true rfl) rfl (Nat.le_of_ble_eq_true rfl) dX11_joined_75 (by omega) rfl (zX11_secondOf (d := d - 1) (by omega) a0 M10 (mv_bindE h)) (fun r11 M12 h => ?_)
        refine mv_iload_n 3 dX11_joined_78 rfl ?_
        refine mv_iconst 1 dX11_joined_79 (by decide) ?_
        refine mv_isub dX11_joined_80 ?_
        refine mv_iload 1 dX11_joined_81 rfl ?_
        obtain ⟨hz13, h⟩ := mv_chkE h
        refine mv_irem dX11_joined_83 (mv_nzE hz13) ?_
        refine mv_iload_n 4 dX11_joined_84 rfl ?_
        refine mv_iconst 1 dX11_joined_85 (by decide) ?_
        refine mv_isub dX11_joined_86 ?_
        refine mv_iload 1 dX11_joined_87 rfl ?_
        obtain ⟨hz14, h⟩ := mv_chkE h
        refine mv_irem dX11_joined_89 (mv_nzE hz14) ?_
        refine mv_iload_n 5 dX11_joined_90 rfl ?_
        refine mv_csI (As := [.int r11, .int ((a1 - 1) - (a1 - 1) / r3 * r3), .int ((a2 - 1) - (a2 - 1) / r3 * r3), .int a3]) (st := [.int (1 + (r9 * r3))]) okX11_partBoth lX11_172 rfl (Nat.le_of_ble_eq_true rfl) rfl (Nat.le_of_ble_eq_true rfl) dX11_joined_91 (by omega) rfl (zX11_partBoth (d := d - 1) (by omega) r11 ((a1 - 1) - (a1 - 1) / r3 * r3) ((a2 - 1) - (a2 - 1) / r3 * r3) a3 M12 (mv_bindE h)) (fun r15 M16 h => ?_)
        refine mv_iadd dX11_joined_94 ?_
        exact mv_iret rfl dX11_joined_95 ⟨_, rfl, h⟩
      · replace h := mv_ifT z h
        refine mv_sub [1, 2, 3] rfl ?_
        exact zX11_joined_12 hd a1 a2 a3 M h
theorem dX11_stop_0 : decode cX11_stop 0 = .ok (.aload_n 0, 1) := by decide +kernel
theorem dX11_stop_1 : decode cX11_stop 1 = .ok (.getfield 176, 3) := by decide +kernel
theorem dX11_stop_4 : decode cX11_stop 4 = .ok (.ifCond .ne 13, 3) := by decide +kernel
theorem dX11_stop_7 : decode cX11_stop 7 = .ok (.aload_n 0, 1) := by decide +kernel
theorem dX11_stop_8 : decode cX11_stop 8 = .ok (.iload_n 1, 1) := by decide +kernel
theorem dX11_stop_9 : decode cX11_stop 9 = .ok (.putfield 176, 3) := by decide +kernel
theorem dX11_stop_12 : decode cX11_stop 12 = .ok (.aload_n 0, 1) := by decide +kernel
theorem dX11_stop_13 : decode cX11_stop 13 = .ok (.iload_n 2, 1) := by decide +kernel
theorem dX11_stop_14 : decode cX11_stop 14 = .ok (.putfield 13, 3) := by decide +kernel
theorem dX11_stop_17 : decode cX11_stop 17 = .ok (.return_, 1) := by decide +kernel
noncomputable def fX11_stop (a0 : Int32) (a1 : Int32) (M : mv_M) : Option (Unit × mv_M) :=
  if (M.1 62 9) = 0 then
    mv_let (mv_si M 62 9 a0) fun M1 =>
    mv_let (mv_si M1 62 10 a1) fun M2 =>
    some ((), M2)
  else
    some ((), M)
set_option maxRecDepth 100000 in
set_option maxHeartbeats 4000000 in
theorem zX11_stop {l : Launch} {d : Nat} {Q : Unit → mv_M → Prop} (hd : 0 ≤ d) (a0 : Int32) (a1 : Int32) (M : mv_M) (h : mv_ok (fX11_stop a0 a1 M) Q) : mv l mX11_stop d 0 0 (lv_args 0 [.ref 62, .int a0, .int a1]) [] M (mv_qV Q) := by
  unfold fX11_stop at h
  show mv l mX11_stop d 0 0 [(0, .ref 62), (1, .int a0), (2, .int a1)] [] M (mv_qV Q)
  refine mv_aload_n 0 dX11_stop_0 rfl ?_
  refine mv_getI fX11_176 (by decide) rfl rfl dX11_stop_1 ?_
  refine mv_if_ne 17 dX11_stop_4 (by decide) (fun z => ?_) (fun z => ?_)
  · replace h := mv_ifF z h
    exact mv_vret rfl dX11_stop_17 ⟨rfl, h⟩
  · replace h := mv_ifT z h
    refine mv_aload_n 0 dX11_stop_7 rfl ?_
    refine mv_iload_n 1 dX11_stop_8 rfl ?_
    refine mv_putI fX11_176 (by decide) rfl rfl dX11_stop_9 (fun M1 eM1 => ?_)
    replace h := mv_letE h M1 eM1
    refine mv_aload_n 0 dX11_stop_12 rfl ?_
    refine mv_iload_n 2 dX11_stop_13 rfl ?_
    refine mv_putI fX11_13 (by decide) rfl rfl dX11_stop_14 (fun M2 eM2 => ?_)
    replace h := mv_letE h M2 eM2
    exact mv_vret rfl dX11_stop_17 ⟨rfl, h⟩
theorem dX11_isDigit_0 : decode cX11_isDigit 0 = .ok (.iload_n 0, 1) := by decide +kernel
theorem dX11_isDigit_1 : decode cX11_isDigit 1 = .ok (.bipush 48, 2) := by decide +kernel
theorem dX11_isDigit_3 : decode cX11_isDigit 3 = .ok (.if_icmp .lt 13, 3) := by decide +kernel
theorem dX11_isDigit_6 : decode cX11_isDigit 6 = .ok (.iload_n 0, 1) := by decide +kernel
theorem dX11_isDigit_7 : decode cX11_isDigit 7 = .ok (.bipush 57, 2) := by decide +kernel
theorem dX11_isDigit_9 : decode cX11_isDigit 9 = .ok (.if_icmp .gt 7, 3) := by decide +kernel
theorem dX11_isDigit_12 : decode cX11_isDigit 12 = .ok (.iconst 1, 1) := by decide +kernel
theorem dX11_isDigit_13 : decode cX11_isDigit 13 = .ok (.goto 4, 3) := by decide +kernel
theorem dX11_isDigit_16 : decode cX11_isDigit 16 = .ok (.iconst 0, 1) := by decide +kernel
theorem dX11_isDigit_17 : decode cX11_isDigit 17 = .ok (.ireturn, 1) := by decide +kernel
noncomputable def fX11_isDigit (a0 : Int32) (M : mv_M) : Option (Int32 × mv_M) :=
  if a0 < 48 then
    some (0, M)
  else
    if 57 < a0 then
      some (0, M)
    else
      some (1, M)
set_option maxRecDepth 100000 in
set_option maxHeartbeats 4000000 in
theorem zX11_isDigit {l : Launch} {d : Nat} {Q : Int32 → mv_M → Prop} (hd : 0 ≤ d) (a0 : Int32) (M : mv_M) (h : mv_ok (fX11_isDigit a0 M) Q) : mv l mX11_isDigit d 0 0 (lv_args 0 [.int a0]) [] M (mv_qI Q) := by
  unfold fX11_isDigit at h
  show mv l mX11_isDigit d 0 0 [(0, .int a0)] [] M (mv_qI Q)
  refine mv_iload_n 0 dX11_isDigit_0 rfl ?_
  refine mv_bipush 48 dX11_isDigit_1 (by decide) ?_
  refine mv_icmp_lt 16 dX11_isDigit_3 (by decide) (fun z => ?_) (fun z => ?_)
  · replace h := mv_ifT z h
    refine mv_iconst 0 dX11_isDigit_16 (by decide) ?_
    exact mv_zret (by decide) rfl dX11_isDigit_17 ⟨_, rfl, h⟩
  · replace h := mv_ifF z h
    refine mv_iload_n 0 dX11_isDigit_6 rfl ?_
    refine mv_bipush 57 dX11_isDigit_7 (by decide) ?_
    refine mv_icmp_gt 16 dX11_isDigit_9 (by decide) (fun z => ?_) (fun z => ?_)
    · replace h := mv_ifT z h
      refine mv_iconst 0 dX11_isDigit_16 (by decide) ?_
      exact mv_zret (by decide) rfl dX11_isDigit_17 ⟨_, rfl, h⟩
    · replace h := mv_ifF z h
      refine mv_iconst 1 dX11_isDigit_12 (by decide) ?_
      refine mv_goto 17 dX11_isDigit_13 (by decide) ?_
      exact mv_zret (by decide) rfl dX11_isDigit_17 ⟨_, rfl, h⟩
theorem dX11_isRow_0 : decode cX11_isRow 0 = .ok (.iload_n 0, 1) := by decide +kernel
theorem dX11_isRow_1 : decode cX11_isRow 1 = .ok (.invokestatic 179, 3) := by decide +kernel
theorem dX11_isRow_4 : decode cX11_isRow 4 = .ok (.ifCond .ne 15, 3) := by decide +kernel
theorem dX11_isRow_7 : decode cX11_isRow 7 = .ok (.iload_n 0, 1) := by decide +kernel
theorem dX11_isRow_8 : decode cX11_isRow 8 = .ok (.bipush 97, 2) := by decide +kernel
theorem dX11_isRow_10 : decode cX11_isRow 10 = .ok (.if_icmp .lt 13, 3) := by decide +kernel
theorem dX11_isRow_13 : decode cX11_isRow 13 = .ok (.iload_n 0, 1) := by decide +kernel
theorem dX11_isRow_14 : decode cX11_isRow 14 = .ok (.bipush 122, 2) := by decide +kernel
theorem dX11_isRow_16 : decode cX11_isRow 16 = .ok (.if_icmp .gt 7, 3) := by decide +kernel
theorem dX11_isRow_19 : decode cX11_isRow 19 = .ok (.iconst 1, 1) := by decide +kernel
theorem dX11_isRow_20 : decode cX11_isRow 20 = .ok (.goto 4, 3) := by decide +kernel
theorem dX11_isRow_23 : decode cX11_isRow 23 = .ok (.iconst 0, 1) := by decide +kernel
theorem dX11_isRow_24 : decode cX11_isRow 24 = .ok (.ireturn, 1) := by decide +kernel
noncomputable def fX11_isRow_19 (M : mv_M) : Option (Int32 × mv_M) :=
  some (1, M)
set_option maxRecDepth 100000 in
set_option maxHeartbeats 4000000 in
theorem zX11_isRow_19 {l : Launch} {d : Nat} {Q : Int32 → mv_M → Prop} (hd : 1 ≤ d) (M : mv_M) (h : mv_ok (fX11_isRow_19 M) Q) : mv l mX11_isRow d 0 19 [] [] M (mv_qI Q) := by
  unfold fX11_isRow_19 at h
  refine mv_iconst 1 dX11_isRow_19 (by decide) ?_
  refine mv_goto 24 dX11_isRow_20 (by decide) ?_
  exact mv_zret (by decide) rfl dX11_isRow_24 ⟨_, rfl, h⟩
noncomputable def fX11_isRow (a0 : Int32) (M : mv_M) : Option (Int32 × mv_M) :=
  mv_bind (fX11_isDigit a0 M) fun r1 M2 =>
  if r1 = 0 then
    if a0 < 97 then
      some (0, M2)
    else
      if 122 < a0 then
        some (0, M2)
      else
        fX11_isRow_19 M2
  else
    fX11_isRow_19 M2
set_option maxRecDepth 100000 in
set_option maxHeartbeats 4000000 in
theorem zX11_isRow {l : Launch} {d : Nat} {Q : Int32 → mv_M → Prop} (hd : 1 ≤ d) (a0 : Int32) (M : mv_M) (h : mv_ok (fX11_isRow a0 M) Q) : mv l mX11_isRow d 0 0 (lv_args 0 [.int a0]) [] M (mv_qI Q) := by
  unfold fX11_isRow at h
  show mv l mX11_isRow d 0 0 [(0, .int a0)] [] M (mv_qI Q)
  refine mv_iload_n 0 dX11_isRow_0 rfl ?_
  refine mv_csI (As := [.int a0]) (st := []) okX11_isDigit lX11_179 rfl (Nat.le_of_ble_eq_true rfl) rfl (Nat.le_of_ble_eq_true rfl) dX11_isRow_1 (by omega) rfl (zX11_isDigit (d := d - 1) (by omega) a0 M (mv_bindE h)) (fun r1 M2 h => ?_)
  refine mv_if_ne 19 dX11_isRow_4 (by decide) (fun z => ?_) (fun z => ?_)
  · replace h := mv_ifF z h
    refine mv_sub [] rfl ?_
    exact zX11_isRow_19 hd M2 h
  · replace h := mv_ifT z h
    refine mv_iload_n 0 dX11_isRow_7 rfl ?_
    refine mv_bipush 97 dX11_isRow_8 (by decide) ?_
    refine mv_icmp_lt 23 dX11_isRow_10 (by decide) (fun z => ?_) (fun z => ?_)
    · replace h := mv_ifT z h
      refine mv_iconst 0 dX11_isRow_23 (by decide) ?_
      exact mv_zret (by decide) rfl dX11_isRow_24 ⟨_, rfl, h⟩
    · replace h := mv_ifF z h
      refine mv_iload_n 0 dX11_isRow_13 rfl ?_
      refine mv_bipush 122 dX11_isRow_14 (by decide) ?_
      refine mv_icmp_gt 23 dX11_isRow_16 (by decide) (fun z => ?_) (fun z => ?_)
      · replace h := mv_ifT z h
        refine mv_iconst 0 dX11_isRow_23 (by decide) ?_
        exact mv_zret (by decide) rfl dX11_isRow_24 ⟨_, rfl, h⟩
      · replace h := mv_ifF z h
        refine mv_sub [] rfl ?_
        exact zX11_isRow_19 hd M2 h
theorem dX11_packed_0 : decode cX11_packed 0 = .ok (.iload_n 0, 1) := by decide +kernel
theorem dX11_packed_1 : decode cX11_packed 1 = .ok (.i2l, 1) := by decide +kernel
theorem dX11_packed_2 : decode cX11_packed 2 = .ok (.bipush 24, 2) := by decide +kernel
theorem dX11_packed_4 : decode cX11_packed 4 = .ok (.lshl, 1) := by decide +kernel
theorem dX11_packed_5 : decode cX11_packed 5 = .ok (.iload_n 1, 1) := by decide +kernel
theorem dX11_packed_6 : decode cX11_packed 6 = .ok (.bipush 16, 2) := by decide +kernel
theorem dX11_packed_8 : decode cX11_packed 8 = .ok (.ishl, 1) := by decide +kernel
theorem dX11_packed_9 : decode cX11_packed 9 = .ok (.i2l, 1) := by decide +kernel
theorem dX11_packed_10 : decode cX11_packed 10 = .ok (.lor, 1) := by decide +kernel
theorem dX11_packed_11 : decode cX11_packed 11 = .ok (.iload_n 2, 1) := by decide +kernel
theorem dX11_packed_12 : decode cX11_packed 12 = .ok (.bipush 8, 2) := by decide +kernel
theorem dX11_packed_14 : decode cX11_packed 14 = .ok (.ishl, 1) := by decide +kernel
theorem dX11_packed_15 : decode cX11_packed 15 = .ok (.i2l, 1) := by decide +kernel
theorem dX11_packed_16 : decode cX11_packed 16 = .ok (.lor, 1) := by decide +kernel
theorem dX11_packed_17 : decode cX11_packed 17 = .ok (.iload_n 3, 1) := by decide +kernel
theorem dX11_packed_18 : decode cX11_packed 18 = .ok (.i2l, 1) := by decide +kernel
theorem dX11_packed_19 : decode cX11_packed 19 = .ok (.lor, 1) := by decide +kernel
theorem dX11_packed_20 : decode cX11_packed 20 = .ok (.lreturn, 1) := by decide +kernel
noncomputable def fX11_packed (a0 : Int32) (a1 : Int32) (a2 : Int32) (a3 : Int32) (M : mv_M) : Option (Int64 × mv_M) :=
  some (((((a0.toInt64) <<< ((24 : Int32).toInt64 &&& 63)) ||| ((a1 <<< (16 &&& 31)).toInt64)) ||| ((a2 <<< (8 &&& 31)).toInt64)) ||| (a3.toInt64), M)
set_option maxRecDepth 100000 in
set_option maxHeartbeats 4000000 in
theorem zX11_packed {l : Launch} {d : Nat} {Q : Int64 → mv_M → Prop} (hd : 0 ≤ d) (a0 : Int32) (a1 : Int32) (a2 : Int32) (a3 : Int32) (M : mv_M) (h : mv_ok (fX11_packed a0 a1 a2 a3 M) Q) : mv l mX11_packed d 0 0 (lv_args 0 [.int a0, .int a1, .int a2, .int a3]) [] M (mv_qL Q) := by
  unfold fX11_packed at h
  show mv l mX11_packed d 0 0 [(0, .int a0), (1, .int a1), (2, .int a2), (3, .int a3)] [] M (mv_qL Q)
  refine mv_iload_n 0 dX11_packed_0 rfl ?_
  refine mv_i2l dX11_packed_1 ?_
  refine mv_bipush 24 dX11_packed_2 (by decide) ?_
  refine mv_lshl dX11_packed_4 ?_
  refine mv_iload_n 1 dX11_packed_5 rfl ?_
  refine mv_bipush 16 dX11_packed_6 (by decide) ?_
  refine mv_ishl dX11_packed_8 ?_
  refine mv_i2l dX11_packed_9 ?_
  refine mv_lor dX11_packed_10 ?_
  refine mv_iload_n 2 dX11_packed_11 rfl ?_
  refine mv_bipush 8 dX11_packed_12 (by decide) ?_
  refine mv_ishl dX11_packed_14 ?_
  refine mv_i2l dX11_packed_15 ?_
  refine mv_lor dX11_packed_16 ?_
  refine mv_iload_n 3 dX11_packed_17 rfl ?_
  refine mv_i2l dX11_packed_18 ?_
  refine mv_lor dX11_packed_19 ?_
  exact mv_lret rfl dX11_packed_20 ⟨_, rfl, h⟩
theorem dX11_wordOf_0 : decode cX11_wordOf 0 = .ok (.lload_n 0, 1) := by decide +kernel
theorem dX11_wordOf_1 : decode cX11_wordOf 1 = .ok (.iconst 0, 1) := by decide +kernel
theorem dX11_wordOf_2 : decode cX11_wordOf 2 = .ok (.bipush 110, 2) := by decide +kernel
theorem dX11_wordOf_4 : decode cX11_wordOf 4 = .ok (.bipush 117, 2) := by decide +kernel
theorem dX11_wordOf_6 : decode cX11_wordOf 6 = .ok (.bipush 109, 2) := by decide +kernel
theorem dX11_wordOf_8 : decode cX11_wordOf 8 = .ok (.invokestatic 183, 3) := by decide +kernel
theorem dX11_wordOf_11 : decode cX11_wordOf 11 = .ok (.lcmp, 1) := by decide +kernel
theorem dX11_wordOf_12 : decode cX11_wordOf 12 = .ok (.ifCond .ne 7, 3) := by decide +kernel
theorem dX11_wordOf_15 : decode cX11_wordOf 15 = .ok (.iconst 1, 1) := by decide +kernel
theorem dX11_wordOf_16 : decode cX11_wordOf 16 = .ok (.goto 161, 3) := by decide +kernel
theorem dX11_wordOf_19 : decode cX11_wordOf 19 = .ok (.lload_n 0, 1) := by decide +kernel
theorem dX11_wordOf_20 : decode cX11_wordOf 20 = .ok (.iconst 0, 1) := by decide +kernel
theorem dX11_wordOf_21 : decode cX11_wordOf 21 = .ok (.iconst 0, 1) := by decide +kernel
theorem dX11_wordOf_22 : decode cX11_wordOf 22 = .ok (.bipush 105, 2) := by decide +kernel
theorem dX11_wordOf_24 : decode cX11_wordOf 24 = .ok (.bipush 102, 2) := by decide +kernel
theorem dX11_wordOf_26 : decode cX11_wordOf 26 = .ok (.invokestatic 183, 3) := by decide +kernel
theorem dX11_wordOf_29 : decode cX11_wordOf 29 = .ok (.lcmp, 1) := by decide +kernel
theorem dX11_wordOf_30 : decode cX11_wordOf 30 = .ok (.ifCond .ne 7, 3) := by decide +kernel
theorem dX11_wordOf_33 : decode cX11_wordOf 33 = .ok (.iconst 2, 1) := by decide +kernel
theorem dX11_wordOf_34 : decode cX11_wordOf 34 = .ok (.goto 143, 3) := by decide +kernel
theorem dX11_wordOf_37 : decode cX11_wordOf 37 = .ok (.lload_n 0, 1) := by decide +kernel
theorem dX11_wordOf_38 : decode cX11_wordOf 38 = .ok (.bipush 116, 2) := by decide +kernel
theorem dX11_wordOf_40 : decode cX11_wordOf 40 = .ok (.bipush 104, 2) := by decide +kernel
theorem dX11_wordOf_42 : decode cX11_wordOf 42 = .ok (.bipush 101, 2) := by decide +kernel
theorem dX11_wordOf_44 : decode cX11_wordOf 44 = .ok (.bipush 110, 2) := by decide +kernel
theorem dX11_wordOf_46 : decode cX11_wordOf 46 = .ok (.invokestatic 183, 3) := by decide +kernel
theorem dX11_wordOf_49 : decode cX11_wordOf 49 = .ok (.lcmp, 1) := by decide +kernel
theorem dX11_wordOf_50 : decode cX11_wordOf 50 = .ok (.ifCond .ne 7, 3) := by decide +kernel
theorem dX11_wordOf_53 : decode cX11_wordOf 53 = .ok (.iconst 3, 1) := by decide +kernel
theorem dX11_wordOf_54 : decode cX11_wordOf 54 = .ok (.goto 123, 3) := by decide +kernel
theorem dX11_wordOf_57 : decode cX11_wordOf 57 = .ok (.lload_n 0, 1) := by decide +kernel
theorem dX11_wordOf_58 : decode cX11_wordOf 58 = .ok (.bipush 101, 2) := by decide +kernel
theorem dX11_wordOf_60 : decode cX11_wordOf 60 = .ok (.bipush 108, 2) := by decide +kernel
theorem dX11_wordOf_62 : decode cX11_wordOf 62 = .ok (.bipush 115, 2) := by decide +kernel
theorem dX11_wordOf_64 : decode cX11_wordOf 64 = .ok (.bipush 101, 2) := by decide +kernel
theorem dX11_wordOf_66 : decode cX11_wordOf 66 = .ok (.invokestatic 183, 3) := by decide +kernel
theorem dX11_wordOf_69 : decode cX11_wordOf 69 = .ok (.lcmp, 1) := by decide +kernel
theorem dX11_wordOf_70 : decode cX11_wordOf 70 = .ok (.ifCond .ne 7, 3) := by decide +kernel
theorem dX11_wordOf_73 : decode cX11_wordOf 73 = .ok (.iconst 4, 1) := by decide +kernel
theorem dX11_wordOf_74 : decode cX11_wordOf 74 = .ok (.goto 103, 3) := by decide +kernel
theorem dX11_wordOf_77 : decode cX11_wordOf 77 = .ok (.lload_n 0, 1) := by decide +kernel
theorem dX11_wordOf_78 : decode cX11_wordOf 78 = .ok (.iconst 0, 1) := by decide +kernel
theorem dX11_wordOf_79 : decode cX11_wordOf 79 = .ok (.bipush 108, 2) := by decide +kernel
theorem dX11_wordOf_81 : decode cX11_wordOf 81 = .ok (.bipush 101, 2) := by decide +kernel
theorem dX11_wordOf_83 : decode cX11_wordOf 83 = .ok (.bipush 116, 2) := by decide +kernel
theorem dX11_wordOf_85 : decode cX11_wordOf 85 = .ok (.invokestatic 183, 3) := by decide +kernel
theorem dX11_wordOf_88 : decode cX11_wordOf 88 = .ok (.lcmp, 1) := by decide +kernel
theorem dX11_wordOf_89 : decode cX11_wordOf 89 = .ok (.ifCond .ne 7, 3) := by decide +kernel
theorem dX11_wordOf_92 : decode cX11_wordOf 92 = .ok (.iconst 5, 1) := by decide +kernel
theorem dX11_wordOf_93 : decode cX11_wordOf 93 = .ok (.goto 84, 3) := by decide +kernel
theorem dX11_wordOf_96 : decode cX11_wordOf 96 = .ok (.lload_n 0, 1) := by decide +kernel
theorem dX11_wordOf_97 : decode cX11_wordOf 97 = .ok (.iconst 0, 1) := by decide +kernel
theorem dX11_wordOf_98 : decode cX11_wordOf 98 = .ok (.iconst 0, 1) := by decide +kernel
theorem dX11_wordOf_99 : decode cX11_wordOf 99 = .ok (.bipush 105, 2) := by decide +kernel
theorem dX11_wordOf_101 : decode cX11_wordOf 101 = .ok (.bipush 110, 2) := by decide +kernel
theorem dX11_wordOf_103 : decode cX11_wordOf 103 = .ok (.invokestatic 183, 3) := by decide +kernel
theorem dX11_wordOf_106 : decode cX11_wordOf 106 = .ok (.lcmp, 1) := by decide +kernel
theorem dX11_wordOf_107 : decode cX11_wordOf 107 = .ok (.ifCond .ne 8, 3) := by decide +kernel
theorem dX11_wordOf_110 : decode cX11_wordOf 110 = .ok (.bipush 6, 2) := by decide +kernel
theorem dX11_wordOf_112 : decode cX11_wordOf 112 = .ok (.goto 65, 3) := by decide +kernel
theorem dX11_wordOf_115 : decode cX11_wordOf 115 = .ok (.lload_n 0, 1) := by decide +kernel
theorem dX11_wordOf_116 : decode cX11_wordOf 116 = .ok (.bipush 99, 2) := by decide +kernel
theorem dX11_wordOf_118 : decode cX11_wordOf 118 = .ok (.bipush 97, 2) := by decide +kernel
theorem dX11_wordOf_120 : decode cX11_wordOf 120 = .ok (.bipush 115, 2) := by decide +kernel
theorem dX11_wordOf_122 : decode cX11_wordOf 122 = .ok (.bipush 101, 2) := by decide +kernel
theorem dX11_wordOf_124 : decode cX11_wordOf 124 = .ok (.invokestatic 183, 3) := by decide +kernel
theorem dX11_wordOf_127 : decode cX11_wordOf 127 = .ok (.lcmp, 1) := by decide +kernel
theorem dX11_wordOf_128 : decode cX11_wordOf 128 = .ok (.ifCond .ne 8, 3) := by decide +kernel
theorem dX11_wordOf_131 : decode cX11_wordOf 131 = .ok (.bipush 7, 2) := by decide +kernel
theorem dX11_wordOf_133 : decode cX11_wordOf 133 = .ok (.goto 44, 3) := by decide +kernel
theorem dX11_wordOf_136 : decode cX11_wordOf 136 = .ok (.lload_n 0, 1) := by decide +kernel
theorem dX11_wordOf_137 : decode cX11_wordOf 137 = .ok (.iconst 0, 1) := by decide +kernel
theorem dX11_wordOf_138 : decode cX11_wordOf 138 = .ok (.iconst 0, 1) := by decide +kernel
theorem dX11_wordOf_139 : decode cX11_wordOf 139 = .ok (.bipush 111, 2) := by decide +kernel
theorem dX11_wordOf_141 : decode cX11_wordOf 141 = .ok (.bipush 102, 2) := by decide +kernel
theorem dX11_wordOf_143 : decode cX11_wordOf 143 = .ok (.invokestatic 183, 3) := by decide +kernel
theorem dX11_wordOf_146 : decode cX11_wordOf 146 = .ok (.lcmp, 1) := by decide +kernel
theorem dX11_wordOf_147 : decode cX11_wordOf 147 = .ok (.ifCond .ne 8, 3) := by decide +kernel
theorem dX11_wordOf_150 : decode cX11_wordOf 150 = .ok (.bipush 8, 2) := by decide +kernel
theorem dX11_wordOf_152 : decode cX11_wordOf 152 = .ok (.goto 25, 3) := by decide +kernel
theorem dX11_wordOf_155 : decode cX11_wordOf 155 = .ok (.lload_n 0, 1) := by decide +kernel
theorem dX11_wordOf_156 : decode cX11_wordOf 156 = .ok (.bipush 102, 2) := by decide +kernel
theorem dX11_wordOf_158 : decode cX11_wordOf 158 = .ok (.bipush 97, 2) := by decide +kernel
theorem dX11_wordOf_160 : decode cX11_wordOf 160 = .ok (.bipush 105, 2) := by decide +kernel
theorem dX11_wordOf_162 : decode cX11_wordOf 162 = .ok (.bipush 108, 2) := by decide +kernel
theorem dX11_wordOf_164 : decode cX11_wordOf 164 = .ok (.invokestatic 183, 3) := by decide +kernel
theorem dX11_wordOf_167 : decode cX11_wordOf 167 = .ok (.lcmp, 1) := by decide +kernel
theorem dX11_wordOf_168 : decode cX11_wordOf 168 = .ok (.ifCond .ne 8, 3) := by decide +kernel
theorem dX11_wordOf_171 : decode cX11_wordOf 171 = .ok (.bipush 9, 2) := by decide +kernel
theorem dX11_wordOf_173 : decode cX11_wordOf 173 = .ok (.goto 4, 3) := by decide +kernel
theorem dX11_wordOf_176 : decode cX11_wordOf 176 = .ok (.iconst 0, 1) := by decide +kernel
theorem dX11_wordOf_177 : decode cX11_wordOf 177 = .ok (.ireturn, 1) := by decide +kernel
noncomputable def fX11_wordOf (a0 : Int64) (M : mv_M) : Option (Int32 × mv_M) :=
  mv_bind (fX11_packed 0 110 117 109 M) fun r1 M2 =>
  if (lg_cmp a0 r1) = 0 then
    some (1, M2)
  else
    mv_bind (fX11_packed 0 0 105 102 M2) fun r3 M4 =>
    if (lg_cmp a0 r3) = 0 then
      some (2, M4)
    else
      mv_bind (fX11_packed 116 104 101 110 M4) fun r5 M6 =>
      if (lg_cmp a0 r5) = 0 then
        some (3, M6)
      else
        mv_bind (fX11_packed 101 108 115 101 M6) fun r7 M8 =>
        if (lg_cmp a0 r7) = 0 then
          some (4, M8)
        else
          mv_bind (fX11_packed 0 108 101 116 M8) fun r9 M10 =>
          if (lg_cmp a0 r9) = 0 then
            some (5, M10)
          else
            mv_bind (fX11_packed 0 0 105 110 M10) fun r11 M12 =>
            if (lg_cmp a0 r11) = 0 then
              some (6, M12)
            else
              mv_bind (fX11_packed 99 97 115 101 M12) fun r13 M14 =>
              if (lg_cmp a0 r13) = 0 then
                some (7, M14)
              else
                mv_bind (fX11_packed 0 0 111 102 M14) fun r15 M16 =>
                if (lg_cmp a0 r15) = 0 then
                  some (8, M16)
                else
                  mv_bind (fX11_packed 102 97 105 108 M16) fun r17 M18 =>
                  if (lg_cmp a0 r17) = 0 then
                    some (9, M18)
                  else
                    some (0, M18)
set_option maxRecDepth 100000 in
set_option maxHeartbeats 4000000 in
theorem zX11_wordOf {l : Launch} {d : Nat} {Q : Int32 → mv_M → Prop} (hd : 1 ≤ d) (a0 : Int64) (M : mv_M) (h : mv_ok (fX11_wordOf a0 M) Q) : mv l mX11_wordOf d 0 0 (lv_args 0 [.long a0]) [] M (mv_qI Q) := by
  unfold fX11_wordOf at h
  show mv l mX11_wordOf d 0 0 [(0, .long a0)] [] M (mv_qI Q)
  refine mv_lload_n 0 dX11_wordOf_0 rfl ?_
  refine mv_iconst 0 dX11_wordOf_1 (by decide) ?_
  refine mv_bipush 110 dX11_wordOf_2 (by decide) ?_
  refine mv_bipush 117 dX11_wordOf_4 (by decide) ?_
  refine mv_bipush 109 dX11_wordOf_6 (by decide) ?_
  refine mv_csL (As := [.int 0, .int 110, .int 117, .int 109]) (st := [.long a0]) okX11_packed lX11_183 rfl (Nat.le_of_ble_eq_true rfl) rfl (Nat.le_of_ble_eq_true rfl) dX11_wordOf_8 (by omega) rfl (zX11_packed (d := d - 1) (by omega) 0 110 117 109 M (mv_bindE h)) (fun r1 M2 h => ?_)
  refine mv_lcmp dX11_wordOf_11 ?_
  refine mv_if_ne 19 dX11_wordOf_12 (by decide) (fun z => ?_) (fun z => ?_)
  · replace h := mv_ifF z h
    refine mv_lload_n 0 dX11_wordOf_19 rfl ?_
    refine mv_iconst 0 dX11_wordOf_20 (by decide) ?_
    refine mv_iconst 0 dX11_wordOf_21 (by decide) ?_
    refine mv_bipush 105 dX11_wordOf_22 (by decide) ?_
    refine mv_bipush 102 dX11_wordOf_24 (by decide) ?_
    refine mv_csL (As := [.int 0, .int 0, .int 105, .int 102]) (st := [.long a0]) okX11_packed lX11_183 rfl (Nat.le_of_ble_eq_true rfl) rfl (Nat.le_of_ble_eq_true rfl) dX11_wordOf_26 (by omega) rfl (zX11_packed (d := d - 1) (by omega) 0 0 105 102 M2 (mv_bindE h)) (fun r3 M4 h => ?_)
    refine mv_lcmp dX11_wordOf_29 ?_
    refine mv_if_ne 37 dX11_wordOf_30 (by decide) (fun z => ?_) (fun z => ?_)
    · replace h := mv_ifF z h
      refine mv_lload_n 0 dX11_wordOf_37 rfl ?_
      refine mv_bipush 116 dX11_wordOf_38 (by decide) ?_
      refine mv_bipush 104 dX11_wordOf_40 (by decide) ?_
      refine mv_bipush 101 dX11_wordOf_42 (by decide) ?_
      refine mv_bipush 110 dX11_wordOf_44 (by decide) ?_
      refine mv_csL (As := [.int 116, .int 104, .int 101, .int 110]) (st := [.long a0]) okX11_packed lX11_183 rfl (Nat.le_of_ble_eq_true rfl) rfl (Nat.le_of_ble_eq_true rfl) dX11_wordOf_46 (by omega) rfl (zX11_packed (d := d - 1) (by omega) 116 104 101 110 M4 (mv_bindE h)) (fun r5 M6 h => ?_)
      refine mv_lcmp dX11_wordOf_49 ?_
      refine mv_if_ne 57 dX11_wordOf_50 (by decide) (fun z => ?_) (fun z => ?_)
      · replace h := mv_ifF z h
        refine mv_lload_n 0 dX11_wordOf_57 rfl ?_
        refine mv_bipush 101 dX11_wordOf_58 (by decide) ?_
        refine mv_bipush 108 dX11_wordOf_60 (by decide) ?_
        refine mv_bipush 115 dX11_wordOf_62 (by decide) ?_
        refine mv_bipush 101 dX11_wordOf_64 (by decide) ?_
        refine mv_csL (As := [.int 101, .int 108, .int 115, .int 101]) (st := [.long a0]) okX11_packed lX11_183 rfl (Nat.le_of_ble_eq_true rfl) rfl (Nat.le_of_ble_eq_true rfl) dX11_wordOf_66 (by omega) rfl (zX11_packed (d := d - 1) (by omega) 101 108 115 101 M6 (mv_bindE h)) (fun r7 M8 h => ?_)
        refine mv_lcmp dX11_wordOf_69 ?_
        refine mv_if_ne 77 dX11_wordOf_70 (by decide) (fun z => ?_) (fun z => ?_)
        · replace h := mv_ifF z h
          refine mv_lload_n 0 dX11_wordOf_77 rfl ?_
          refine mv_iconst 0 dX11_wordOf_78 (by decide) ?_
          refine mv_bipush 108 dX11_wordOf_79 (by decide) ?_
          refine mv_bipush 101 dX11_wordOf_81 (by decide) ?_
          refine mv_bipush 116 dX11_wordOf_83 (by decide) ?_
          refine mv_csL (As := [.int 0, .int 108, .int 101, .int 116]) (st := [.long a0]) okX11_packed lX11_183 rfl (Nat.le_of_ble_eq_true rfl) rfl (Nat.le_of_ble_eq_true rfl) dX11_wordOf_85 (by omega) rfl (zX11_packed (d := d - 1) (by omega) 0 108 101 116 M8 (mv_bindE h)) (fun r9 M10 h => ?_)
          refine mv_lcmp dX11_wordOf_88 ?_
          refine mv_if_ne 96 dX11_wordOf_89 (by decide) (fun z => ?_) (fun z => ?_)
          · replace h := mv_ifF z h
            refine mv_lload_n 0 dX11_wordOf_96 rfl ?_
            refine mv_iconst 0 dX11_wordOf_97 (by decide) ?_
            refine mv_iconst 0 dX11_wordOf_98 (by decide) ?_
            refine mv_bipush 105 dX11_wordOf_99 (by decide) ?_
            refine mv_bipush 110 dX11_wordOf_101 (by decide) ?_
            refine mv_csL (As := [.int 0, .int 0, .int 105, .int 110]) (st := [.long a0]) okX11_packed lX11_183 rfl (Nat.le_of_ble_eq_true rfl) rfl (Nat.le_of_ble_eq_true rfl) dX11_wordOf_103 (by omega) rfl (zX11_packed (d := d - 1) (by omega) 0 0 105 110 M10 (mv_bindE h)) (fun r11 M12 h => ?_)
            refine mv_lcmp dX11_wordOf_106 ?_
            refine mv_if_ne 115 dX11_wordOf_107 (by decide) (fun z => ?_) (fun z => ?_)
            · replace h := mv_ifF z h
              refine mv_lload_n 0 dX11_wordOf_115 rfl ?_
              refine mv_bipush 99 dX11_wordOf_116 (by decide) ?_
              refine mv_bipush 97 dX11_wordOf_118 (by decide) ?_
              refine mv_bipush 115 dX11_wordOf_120 (by decide) ?_
              refine mv_bipush 101 dX11_wordOf_122 (by decide) ?_
              refine mv_csL (As := [.int 99, .int 97, .int 115, .int 101]) (st := [.long a0]) okX11_packed lX11_183 rfl (Nat.le_of_ble_eq_true rfl) rfl (Nat.le_of_ble_eq_true rfl) dX11_wordOf_124 (by omega) rfl (zX11_packed (d := d - 1) (by omega) 99 97 115 101 M12 (mv_bindE h)) (fun r13 M14 h => ?_)
              refine mv_lcmp dX11_wordOf_127 ?_
              refine mv_if_ne 136 dX11_wordOf_128 (by decide) (fun z => ?_) (fun z => ?_)
              · replace h := mv_ifF z h
                refine mv_lload_n 0 dX11_wordOf_136 rfl ?_
                refine mv_iconst 0 dX11_wordOf_137 (by decide) ?_
                refine mv_iconst 0 dX11_wordOf_138 (by decide) ?_
                refine mv_bipush 111 dX11_wordOf_139 (by decide) ?_
                refine mv_bipush 102 dX11_wordOf_141 (by decide) ?_
                refine mv_csL (As := [.int 0, .int 0, .int 111, .int 102]) (st := [.long a0]) okX11_packed lX11_183 rfl (Nat.le_of_ble_eq_true rfl) rfl (Nat.le_of_ble_eq_true rfl) dX11_wordOf_143 (by omega) rfl (zX11_packed (d := d - 1) (by omega) 0 0 111 102 M14 (mv_bindE h)) (fun r15 M16 h => ?_)
                refine mv_lcmp dX11_wordOf_146 ?_
                refine mv_if_ne 155 dX11_wordOf_147 (by decide) (fun z => ?_) (fun z => ?_)
                · replace h := mv_ifF z h
                  refine mv_lload_n 0 dX11_wordOf_155 rfl ?_
                  refine mv_bipush 102 dX11_wordOf_156 (by decide) ?_
                  refine mv_bipush 97 dX11_wordOf_158 (by decide) ?_
                  refine mv_bipush 105 dX11_wordOf_160 (by decide) ?_
                  refine mv_bipush 108 dX11_wordOf_162 (by decide) ?_
                  refine mv_csL (As := [.int 102, .int 97, .int 105, .int 108]) (st := [.long a0]) okX11_packed lX11_183 rfl (Nat.le_of_ble_eq_true rfl) rfl (Nat.le_of_ble_eq_true rfl) dX11_wordOf_164 (by omega) rfl (zX11_packed (d := d - 1) (by omega) 102 97 105 108 M16 (mv_bindE h)) (fun r17 M18 h => ?_)
                  refine mv_lcmp dX11_wordOf_167 ?_
                  refine mv_if_ne 176 dX11_wordOf_168 (by decide) (fun z => ?_) (fun z => ?_)
                  · replace h := mv_ifF z h
                    refine mv_iconst 0 dX11_wordOf_176 (by decide) ?_
                    exact mv_iret rfl dX11_wordOf_177 ⟨_, rfl, h⟩
                  · replace h := mv_ifT z h
                    refine mv_bipush 9 dX11_wordOf_171 (by decide) ?_
                    refine mv_goto 177 dX11_wordOf_173 (by decide) ?_
                    exact mv_iret rfl dX11_wordOf_177 ⟨_, rfl, h⟩
                · replace h := mv_ifT z h
                  refine mv_bipush 8 dX11_wordOf_150 (by decide) ?_
                  refine mv_goto 177 dX11_wordOf_152 (by decide) ?_
                  exact mv_iret rfl dX11_wordOf_177 ⟨_, rfl, h⟩
              · replace h := mv_ifT z h
                refine mv_bipush 7 dX11_wordOf_131 (by decide) ?_
                refine mv_goto 177 dX11_wordOf_133 (by decide) ?_
                exact mv_iret rfl dX11_wordOf_177 ⟨_, rfl, h⟩
            · replace h := mv_ifT z h
              refine mv_bipush 6 dX11_wordOf_110 (by decide) ?_
              refine mv_goto 177 dX11_wordOf_112 (by decide) ?_
              exact mv_iret rfl dX11_wordOf_177 ⟨_, rfl, h⟩
          · replace h := mv_ifT z h
            refine mv_iconst 5 dX11_wordOf_92 (by decide) ?_
            refine mv_goto 177 dX11_wordOf_93 (by decide) ?_
            exact mv_iret rfl dX11_wordOf_177 ⟨_, rfl, h⟩
        · replace h := mv_ifT z h
          refine mv_iconst 4 dX11_wordOf_73 (by decide) ?_
          refine mv_goto 177 dX11_wordOf_74 (by decide) ?_
          exact mv_iret rfl dX11_wordOf_177 ⟨_, rfl, h⟩
      · replace h := mv_ifT z h
        refine mv_iconst 3 dX11_wordOf_53 (by decide) ?_
        refine mv_goto 177 dX11_wordOf_54 (by decide) ?_
        exact mv_iret rfl dX11_wordOf_177 ⟨_, rfl, h⟩
    · replace h := mv_ifT z h
      refine mv_iconst 2 dX11_wordOf_33 (by decide) ?_
      refine mv_goto 177 dX11_wordOf_34 (by decide) ?_
      exact mv_iret rfl dX11_wordOf_177 ⟨_, rfl, h⟩
  · replace h := mv_ifT z h
    refine mv_iconst 1 dX11_wordOf_15 (by decide) ?_
    refine mv_goto 177 dX11_wordOf_16 (by decide) ?_
    exact mv_iret rfl dX11_wordOf_177 ⟨_, rfl, h⟩
theorem dX11_row_0 : decode cX11_row 0 = .ok (.iconst 1, 1) := by decide +kernel
theorem dX11_row_1 : decode cX11_row 1 = .ok (.istore_n 1, 1) := by decide +kernel
theorem dX11_row_2 : decode cX11_row 2 = .ok (.lconst 0, 1) := by decide +kernel
theorem dX11_row_3 : decode cX11_row 3 = .ok (.lstore_n 2, 1) := by decide +kernel
theorem dX11_row_4 : decode cX11_row 4 = .ok (.lconst 0, 1) := by decide +kernel
theorem dX11_row_5 : decode cX11_row 5 = .ok (.lstore 4, 2) := by decide +kernel
theorem dX11_row_7 : decode cX11_row 7 = .ok (.aload_n 0, 1) := by decide +kernel
theorem dX11_row_8 : decode cX11_row 8 = .ok (.getfield 187, 3) := by decide +kernel
theorem dX11_row_11 : decode cX11_row 11 = .ok (.aload_n 0, 1) := by decide +kernel
theorem dX11_row_12 : decode cX11_row 12 = .ok (.getfield 151, 3) := by decide +kernel
theorem dX11_row_15 : decode cX11_row 15 = .ok (.if_icmp .ge 109, 3) := by decide +kernel
theorem dX11_row_18 : decode cX11_row 18 = .ok (.aload_n 0, 1) := by decide +kernel
theorem dX11_row_19 : decode cX11_row 19 = .ok (.getfield 7, 3) := by decide +kernel
theorem dX11_row_22 : decode cX11_row 22 = .ok (.aload_n 0, 1) := by decide +kernel
theorem dX11_row_23 : decode cX11_row 23 = .ok (.getfield 187, 3) := by decide +kernel
theorem dX11_row_26 : decode cX11_row 26 = .ok (.iaload, 1) := by decide +kernel
theorem dX11_row_27 : decode cX11_row 27 = .ok (.invokestatic 199, 3) := by decide +kernel
theorem dX11_row_30 : decode cX11_row 30 = .ok (.ifCond .eq 94, 3) := by decide +kernel
theorem dX11_row_33 : decode cX11_row 33 = .ok (.iload_n 1, 1) := by decide +kernel
theorem dX11_row_34 : decode cX11_row 34 = .ok (.ifCond .eq 22, 3) := by decide +kernel
theorem dX11_row_37 : decode cX11_row 37 = .ok (.aload_n 0, 1) := by decide +kernel
theorem dX11_row_38 : decode cX11_row 38 = .ok (.getfield 7, 3) := by decide +kernel
theorem dX11_row_41 : decode cX11_row 41 = .ok (.aload_n 0, 1) := by decide +kernel
theorem dX11_row_42 : decode cX11_row 42 = .ok (.getfield 187, 3) := by decide +kernel
theorem dX11_row_45 : decode cX11_row 45 = .ok (.iaload, 1) := by decide +kernel
theorem dX11_row_46 : decode cX11_row 46 = .ok (.invokestatic 179, 3) := by decide +kernel
theorem dX11_row_49 : decode cX11_row 49 = .ok (.ifCond .eq 7, 3) := by decide +kernel
theorem dX11_row_52 : decode cX11_row 52 = .ok (.iconst 1, 1) := by decide +kernel
theorem dX11_row_53 : decode cX11_row 53 = .ok (.goto 4, 3) := by decide +kernel
theorem dX11_row_56 : decode cX11_row 56 = .ok (.iconst 0, 1) := by decide +kernel
theorem dX11_row_57 : decode cX11_row 57 = .ok (.istore_n 1, 1) := by decide +kernel
theorem dX11_row_58 : decode cX11_row 58 = .ok (.lload_n 2, 1) := by decide +kernel
theorem dX11_row_59 : decode cX11_row 59 = .ok (.bipush 8, 2) := by decide +kernel
theorem dX11_row_61 : decode cX11_row 61 = .ok (.lshl, 1) := by decide +kernel
theorem dX11_row_62 : decode cX11_row 62 = .ok (.aload_n 0, 1) := by decide +kernel
theorem dX11_row_63 : decode cX11_row 63 = .ok (.getfield 7, 3) := by decide +kernel
theorem dX11_row_66 : decode cX11_row 66 = .ok (.aload_n 0, 1) := by decide +kernel
theorem dX11_row_67 : decode cX11_row 67 = .ok (.getfield 187, 3) := by decide +kernel
theorem dX11_row_70 : decode cX11_row 70 = .ok (.iaload, 1) := by decide +kernel
theorem dX11_row_71 : decode cX11_row 71 = .ok (.i2l, 1) := by decide +kernel
theorem dX11_row_72 : decode cX11_row 72 = .ok (.lor, 1) := by decide +kernel
theorem dX11_row_73 : decode cX11_row 73 = .ok (.lstore_n 2, 1) := by decide +kernel
theorem dX11_row_74 : decode cX11_row 74 = .ok (.lload 4, 2) := by decide +kernel
theorem dX11_row_76 : decode cX11_row 76 = .ok (.ldc2_w 209, 3) := by decide +kernel
theorem dX11_row_79 : decode cX11_row 79 = .ok (.lcmp, 1) := by decide +kernel
theorem dX11_row_80 : decode cX11_row 80 = .ok (.ifCond .le 8, 3) := by decide +kernel
theorem dX11_row_83 : decode cX11_row 83 = .ok (.lload 4, 2) := by decide +kernel
theorem dX11_row_85 : decode cX11_row 85 = .ok (.goto 24, 3) := by decide +kernel
theorem dX11_row_88 : decode cX11_row 88 = .ok (.ldc2_w 211, 3) := by decide +kernel
theorem dX11_row_91 : decode cX11_row 91 = .ok (.lload 4, 2) := by decide +kernel
theorem dX11_row_93 : decode cX11_row 93 = .ok (.lmul, 1) := by decide +kernel
theorem dX11_row_94 : decode cX11_row 94 = .ok (.aload_n 0, 1) := by decide +kernel
theorem dX11_row_95 : decode cX11_row 95 = .ok (.getfield 7, 3) := by decide +kernel
theorem dX11_row_98 : decode cX11_row 98 = .ok (.aload_n 0, 1) := by decide +kernel
theorem dX11_row_99 : decode cX11_row 99 = .ok (.getfield 187, 3) := by decide +kernel
theorem dX11_row_102 : decode cX11_row 102 = .ok (.iaload, 1) := by decide +kernel
theorem dX11_row_103 : decode cX11_row 103 = .ok (.i2l, 1) := by decide +kernel
theorem dX11_row_104 : decode cX11_row 104 = .ok (.ladd, 1) := by decide +kernel
theorem dX11_row_105 : decode cX11_row 105 = .ok (.ldc2_w 213, 3) := by decide +kernel
theorem dX11_row_108 : decode cX11_row 108 = .ok (.lsub, 1) := by decide +kernel
theorem dX11_row_109 : decode cX11_row 109 = .ok (.lstore 4, 2) := by decide +kernel
theorem dX11_row_111 : decode cX11_row 111 = .ok (.aload_n 0, 1) := by decide +kernel
theorem dX11_row_112 : decode cX11_row 112 = .ok (.dup, 1) := by decide +kernel
theorem dX11_row_113 : decode cX11_row 113 = .ok (.getfield 187, 3) := by decide +kernel
theorem dX11_row_116 : decode cX11_row 116 = .ok (.iconst 1, 1) := by decide +kernel
theorem dX11_row_117 : decode cX11_row 117 = .ok (.iadd, 1) := by decide +kernel
theorem dX11_row_118 : decode cX11_row 118 = .ok (.putfield 187, 3) := by decide +kernel
theorem dX11_row_121 : decode cX11_row 121 = .ok (.goto (-114), 3) := by decide +kernel
theorem dX11_row_124 : decode cX11_row 124 = .ok (.aload_n 0, 1) := by decide +kernel
theorem dX11_row_125 : decode cX11_row 125 = .ok (.getfield 187, 3) := by decide +kernel
theorem dX11_row_128 : decode cX11_row 128 = .ok (.aload_n 0, 1) := by decide +kernel
theorem dX11_row_129 : decode cX11_row 129 = .ok (.getfield 190, 3) := by decide +kernel
theorem dX11_row_132 : decode cX11_row 132 = .ok (.isub, 1) := by decide +kernel
theorem dX11_row_133 : decode cX11_row 133 = .ok (.istore 6, 2) := by decide +kernel
theorem dX11_row_135 : decode cX11_row 135 = .ok (.aload_n 0, 1) := by decide +kernel
theorem dX11_row_136 : decode cX11_row 136 = .ok (.getfield 7, 3) := by decide +kernel
theorem dX11_row_139 : decode cX11_row 139 = .ok (.aload_n 0, 1) := by decide +kernel
theorem dX11_row_140 : decode cX11_row 140 = .ok (.getfield 190, 3) := by decide +kernel
theorem dX11_row_143 : decode cX11_row 143 = .ok (.iaload, 1) := by decide +kernel
theorem dX11_row_144 : decode cX11_row 144 = .ok (.invokestatic 179, 3) := by decide +kernel
theorem dX11_row_147 : decode cX11_row 147 = .ok (.ifCond .eq 34, 3) := by decide +kernel
theorem dX11_row_150 : decode cX11_row 150 = .ok (.aload_n 0, 1) := by decide +kernel
theorem dX11_row_151 : decode cX11_row 151 = .ok (.iload_n 1, 1) := by decide +kernel
theorem dX11_row_152 : decode cX11_row 152 = .ok (.ifCond .eq 15, 3) := by decide +kernel
theorem dX11_row_155 : decode cX11_row 155 = .ok (.iload 6, 2) := by decide +kernel
theorem dX11_row_157 : decode cX11_row 157 = .ok (.bipush 9, 2) := by decide +kernel
theorem dX11_row_159 : decode cX11_row 159 = .ok (.if_icmp .gt 8, 3) := by decide +kernel
theorem dX11_row_162 : decode cX11_row 162 = .ok (.bipush 11, 2) := by decide +kernel
theorem dX11_row_164 : decode cX11_row 164 = .ok (.goto 4, 3) := by decide +kernel
theorem dX11_row_167 : decode cX11_row 167 = .ok (.iconst 0, 1) := by decide +kernel
theorem dX11_row_168 : decode cX11_row 168 = .ok (.putfield 193, 3) := by decide +kernel
theorem dX11_row_171 : decode cX11_row 171 = .ok (.aload_n 0, 1) := by decide +kernel
theorem dX11_row_172 : decode cX11_row 172 = .ok (.lload 4, 2) := by decide +kernel
theorem dX11_row_174 : decode cX11_row 174 = .ok (.l2i, 1) := by decide +kernel
theorem dX11_row_175 : decode cX11_row 175 = .ok (.putfield 215, 3) := by decide +kernel
theorem dX11_row_178 : decode cX11_row 178 = .ok (.goto 51, 3) := by decide +kernel
theorem dX11_row_181 : decode cX11_row 181 = .ok (.iload 6, 2) := by decide +kernel
theorem dX11_row_183 : decode cX11_row 183 = .ok (.iconst 4, 1) := by decide +kernel
theorem dX11_row_184 : decode cX11_row 184 = .ok (.if_icmp .gt 10, 3) := by decide +kernel
theorem dX11_row_187 : decode cX11_row 187 = .ok (.lload_n 2, 1) := by decide +kernel
theorem dX11_row_188 : decode cX11_row 188 = .ok (.invokestatic 218, 3) := by decide +kernel
theorem dX11_row_191 : decode cX11_row 191 = .ok (.goto 4, 3) := by decide +kernel
theorem dX11_row_194 : decode cX11_row 194 = .ok (.iconst 0, 1) := by decide +kernel
theorem dX11_row_195 : decode cX11_row 195 = .ok (.istore 7, 2) := by decide +kernel
theorem dX11_row_197 : decode cX11_row 197 = .ok (.aload_n 0, 1) := by decide +kernel
theorem dX11_row_198 : decode cX11_row 198 = .ok (.iload 7, 2) := by decide +kernel
theorem dX11_row_200 : decode cX11_row 200 = .ok (.ifCond .le 8, 3) := by decide +kernel
theorem dX11_row_203 : decode cX11_row 203 = .ok (.iload 7, 2) := by decide +kernel
theorem dX11_row_205 : decode cX11_row 205 = .ok (.goto 16, 3) := by decide +kernel
theorem dX11_row_208 : decode cX11_row 208 = .ok (.iload 6, 2) := by decide +kernel
theorem dX11_row_210 : decode cX11_row 210 = .ok (.bipush 8, 2) := by decide +kernel
theorem dX11_row_212 : decode cX11_row 212 = .ok (.if_icmp .gt 8, 3) := by decide +kernel
theorem dX11_row_215 : decode cX11_row 215 = .ok (.bipush 10, 2) := by decide +kernel
theorem dX11_row_217 : decode cX11_row 217 = .ok (.goto 4, 3) := by decide +kernel
theorem dX11_row_220 : decode cX11_row 220 = .ok (.iconst 0, 1) := by decide +kernel
theorem dX11_row_221 : decode cX11_row 221 = .ok (.putfield 193, 3) := by decide +kernel
theorem dX11_row_224 : decode cX11_row 224 = .ok (.aload_n 0, 1) := by decide +kernel
theorem dX11_row_225 : decode cX11_row 225 = .ok (.lload_n 2, 1) := by decide +kernel
theorem dX11_row_226 : decode cX11_row 226 = .ok (.putfield 222, 3) := by decide +kernel
theorem dX11_row_229 : decode cX11_row 229 = .ok (.aload_n 0, 1) := by decide +kernel
theorem dX11_row_230 : decode cX11_row 230 = .ok (.getfield 193, 3) := by decide +kernel
theorem dX11_row_233 : decode cX11_row 233 = .ok (.ifCond .ne 12, 3) := by decide +kernel
theorem dX11_row_236 : decode cX11_row 236 = .ok (.aload_n 0, 1) := by decide +kernel
theorem dX11_row_237 : decode cX11_row 237 = .ok (.iconst 1, 1) := by decide +kernel
theorem dX11_row_238 : decode cX11_row 238 = .ok (.aload_n 0, 1) := by decide +kernel
theorem dX11_row_239 : decode cX11_row 239 = .ok (.getfield 190, 3) := by decide +kernel
theorem dX11_row_242 : decode cX11_row 242 = .ok (.invokevirtual 205, 3) := by decide +kernel
theorem dX11_row_245 : decode cX11_row 245 = .ok (.return_, 1) := by decide +kernel
noncomputable def fX11_row_109 (x1 : Int32) (x2 : Int64) (s0 : Int64) (M : mv_M) : Option (((Int32 × Int64 × Int64) ⊕ Unit) × mv_M) :=
  mv_let (mv_si M 62 3 ((M.1 62 3) + 1)) fun M18 =>
  some (.inl (x1, x2, s0), M18)
set_option maxRecDepth 100000 in
set_option maxHeartbeats 4000000 in
theorem zX11_row_109 {l : Launch} {d : Nat} {Q : Unit → mv_M → Prop} (hd : 2 ≤ d) (x1 : Int32) (x2 : Int64) (s0 : Int64) (M : mv_M) (h : mv_ok (fX11_row_109 x1 x2 s0 M) (mv_pq (fun (s : Int32 × Int64 × Int64) M => mv l mX11_row d 0 7 [(0, .ref 62), (1, .int s.1), (2, .long s.2.1), (4, .long s.2.2)] [] M (mv_qV Q)) Q)) : mv l mX11_row d 0 109 [(0, .ref 62), (1, .int x1), (2, .long x2)] [.long s0] M (mv_qV Q) := by
  unfold fX11_row_109 at h
  refine mv_lstore [(4, .long s0), (0, .ref 62), (1, .int x1), (2, .long x2)] dX11_row_109 (by decide) rfl ?_
  refine mv_aload_n 1 dX11_row_111 rfl ?_
  refine mv_dup dX11_row_112 rfl ?_
  refine mv_getI fX11_187 (by decide) rfl rfl dX11_row_113 ?_
  refine mv_iconst 1 dX11_row_116 (by decide) ?_
  refine mv_iadd dX11_row_117 ?_
  refine mv_putI fX11_187 (by decide) rfl rfl dX11_row_118 (fun M18 eM18 => ?_)
  replace h := mv_letE h M18 eM18
  refine mv_goto 7 dX11_row_121 (by decide) ?_
  refine mv_sub [1, 2, 3, 0] rfl ?_
  exact h
noncomputable def fX11_row_57 (x2 : Int64) (x4 : Int64) (s0 : Int32) (M : mv_M) : Option (((Int32 × Int64 × Int64) ⊕ Unit) × mv_M) :=
  mv_chk (mv_inb (M.1 62 3) 4000) <|
  mv_let ((x2 <<< ((8 : Int32).toInt64 &&& 63)) ||| ((M.1 63 (M.1 62 3).toNatClampNeg).toInt64)) fun v14 =>
  if (lg_cmp x4 1000000000) ≤ 0 then
    mv_chk (mv_inb (M.1 62 3) 4000) <|
    fX11_row_109 s0 v14 (((10 * x4) + ((M.1 63 (M.1 62 3).toNatClampNeg).toInt64)) - 48) M
  else
    fX11_row_109 s0 v14 x4 M
set_option maxRecDepth 100000 in
set_option maxHeartbeats 4000000 in
theorem zX11_row_57 {l : Launch} {d : Nat} {Q : Unit → mv_M → Prop} (hd : 2 ≤ d) (x2 : Int64) (x4 : Int64) (s0 : Int32) (M : mv_M) (h : mv_ok (fX11_row_57 x2 x4 s0 M) (mv_pq (fun (s : Int32 × Int64 × Int64) M => mv l mX11_row d 0 7 [(0, .ref 62), (1, .int s.1), (2, .long s.2.1), (4, .long s.2.2)] [] M (mv_qV Q)) Q)) : mv l mX11_row d 0 57 [(0, .ref 62), (2, .long x2), (4, .long x4)] [.int s0] M (mv_qV Q) := by
  unfold fX11_row_57 at h
  refine mv_istore_n [(1, .int s0), (0, .ref 62), (2, .long x2), (4, .long x4)] dX11_row_57 (by decide) rfl ?_
  refine mv_lload_n 2 dX11_row_58 rfl ?_
  refine mv_bipush 8 dX11_row_59 (by decide) ?_
  refine mv_lshl dX11_row_61 ?_
  refine mv_aload_n 1 dX11_row_62 rfl ?_
  refine mv_getR 63 fX11_7 (by decide) rfl rfl rfl dX11_row_63 ?_
  refine mv_aload_n 1 dX11_row_66 rfl ?_
  refine mv_getI fX11_187 (by decide) rfl rfl dX11_row_67 ?_
  obtain ⟨hi13, h⟩ := mv_chkE h
  refine mv_ild (by decide) rfl (mv_inE hi13) dX11_row_70 ?_
  refine mv_i2l dX11_row_71 ?_
  refine mv_lor dX11_row_72 ?_
  refine mv_topl (fun v14 ev14 => ?_)
  replace h := mv_letE h v14 ev14
  refine mv_lstore_n [(2, .long v14), (1, .int s0), (0, .ref 62), (4, .long x4)] dX11_row_73 (by decide) rfl ?_
  refine mv_lload 3 dX11_row_74 rfl ?_
  refine mv_ldc2 kX11_209 dX11_row_76 ?_
  refine mv_lcmp dX11_row_79 ?_
  refine mv_if_le 88 dX11_row_80 (by decide) (fun z => ?_) (fun z => ?_)
  · replace h := mv_ifT z h
    refine mv_ldc2 kX11_211 dX11_row_88 ?_
    refine mv_lload 3 dX11_row_91 rfl ?_
    refine mv_lmul dX11_row_93 ?_
    refine mv_aload_n 2 dX11_row_94 rfl ?_
    refine mv_getR 63 fX11_7 (by decide) rfl rfl rfl dX11_row_95 ?_
    refine mv_aload_n 2 dX11_row_98 rfl ?_
    refine mv_getI fX11_187 (by decide) rfl rfl dX11_row_99 ?_
    obtain ⟨hi15, h⟩ := mv_chkE h
    refine mv_ild (by decide) rfl (mv_inE hi15) dX11_row_102 ?_
    refine mv_i2l dX11_row_103 ?_
    refine mv_ladd dX11_row_104 ?_
    refine mv_ldc2 kX11_213 dX11_row_105 ?_
    refine mv_lsub dX11_row_108 ?_
    refine mv_sub [2, 1, 0] rfl ?_
    exact zX11_row_109 hd s0 v14 (((10 * x4) + ((M.1 63 (M.1 62 3).toNatClampNeg).toInt64)) - 48) M h
  · replace h := mv_ifF z h
    refine mv_lload 3 dX11_row_83 rfl ?_
    refine mv_goto 109 dX11_row_85 (by decide) ?_
    refine mv_sub [2, 1, 0] rfl ?_
    exact zX11_row_109 hd s0 v14 x4 M h
noncomputable def fX11_row_56 (x2 : Int64) (x4 : Int64) (M : mv_M) : Option (((Int32 × Int64 × Int64) ⊕ Unit) × mv_M) :=
  fX11_row_57 x2 x4 0 M
set_option maxRecDepth 100000 in
set_option maxHeartbeats 4000000 in
theorem zX11_row_56 {l : Launch} {d : Nat} {Q : Unit → mv_M → Prop} (hd : 2 ≤ d) (x2 : Int64) (x4 : Int64) (M : mv_M) (h : mv_ok (fX11_row_56 x2 x4 M) (mv_pq (fun (s : Int32 × Int64 × Int64) M => mv l mX11_row d 0 7 [(0, .ref 62), (1, .int s.1), (2, .long s.2.1), (4, .long s.2.2)] [] M (mv_qV Q)) Q)) : mv l mX11_row d 0 56 [(0, .ref 62), (2, .long x2), (4, .long x4)] [] M (mv_qV Q) := by
  unfold fX11_row_56 at h
  refine mv_iconst 0 dX11_row_56 (by decide) ?_
  refine mv_sub [0, 1, 2] rfl ?_
  exact zX11_row_57 hd x2 x4 0 M h
noncomputable def fX11_row_229 (M : mv_M) : Option (Unit × mv_M) :=
  if (M.1 62 4) = 0 then
    mv_bind (fX11_stop 1 (M.1 62 5) M) fun _ M21 =>
    some ((), M21)
  else
    some ((), M)
set_option maxRecDepth 100000 in
set_option maxHeartbeats 4000000 in
theorem zX11_row_229 {l : Launch} {d : Nat} {Q : Unit → mv_M → Prop} (hd : 2 ≤ d) (M : mv_M) (h : mv_ok (fX11_row_229 M) Q) : mv l mX11_row d 0 229 [(0, .ref 62)] [] M (mv_qV Q) := by
  unfold fX11_row_229 at h
  refine mv_aload_n 0 dX11_row_229 rfl ?_
  refine mv_getI fX11_193 (by decide) rfl rfl dX11_row_230 ?_
  refine mv_if_ne 245 dX11_row_233 (by decide) (fun z => ?_) (fun z => ?_)
  · replace h := mv_ifF z h
    exact mv_vret rfl dX11_row_245 ⟨rfl, h⟩
  · replace h := mv_ifT z h
    refine mv_aload_n 0 dX11_row_236 rfl ?_
    refine mv_iconst 1 dX11_row_237 (by decide) ?_
    refine mv_aload_n 0 dX11_row_238 rfl ?_
    refine mv_getI fX11_190 (by decide) rfl rfl dX11_row_239 ?_
    refine mv_cvV (As := [.int 1, .int (M.1 62 5)]) (st := []) okX11_stop lX11_205 (by decide) rfl rfl rfl (Nat.le_of_ble_eq_true rfl) rfl (Nat.le_of_ble_eq_true rfl) dX11_row_242 (by omega) rfl (zX11_stop (d := d - 1) (by omega) 1 (M.1 62 5) M (mv_bindE h)) (fun _ M21 h => ?_)
    exact mv_vret rfl dX11_row_245 ⟨rfl, h⟩
noncomputable def fX11_row_168 (x4 : Int64) (s0 : Int32) (M : mv_M) : Option (Unit × mv_M) :=
  mv_let (mv_si M 62 4 s0) fun M16 =>
  mv_let (mv_si M16 62 8 (x4.toInt32)) fun M17 =>
  fX11_row_229 M17
set_option maxRecDepth 100000 in
set_option maxHeartbeats 4000000 in
theorem zX11_row_168 {l : Launch} {d : Nat} {Q : Unit → mv_M → Prop} (hd : 2 ≤ d) (x4 : Int64) (s0 : Int32) (M : mv_M) (h : mv_ok (fX11_row_168 x4 s0 M) Q) : mv l mX11_row d 0 168 [(0, .ref 62), (4, .long x4)] [.int s0, .ref 62] M (mv_qV Q) := by
  unfold fX11_row_168 at h
  refine mv_putI fX11_193 (by decide) rfl rfl dX11_row_168 (fun M16 eM16 => ?_)
  replace h := mv_letE h M16 eM16
  refine mv_aload_n 0 dX11_row_171 rfl ?_
  refine mv_lload 1 dX11_row_172 rfl ?_
  refine mv_l2i dX11_row_174 ?_
  refine mv_putI fX11_215 (by decide) rfl rfl dX11_row_175 (fun M17 eM17 => ?_)
  replace h := mv_letE h M17 eM17
  refine mv_goto 229 dX11_row_178 (by decide) ?_
  refine mv_sub [0] rfl ?_
  exact zX11_row_229 hd M17 h
noncomputable def fX11_row_167 (x4 : Int64) (M : mv_M) : Option (Unit × mv_M) :=
  fX11_row_168 x4 0 M
set_option maxRecDepth 100000 in
set_option maxHeartbeats 4000000 in
theorem zX11_row_167 {l : Launch} {d : Nat} {Q : Unit → mv_M → Prop} (hd : 2 ≤ d) (x4 : Int64) (M : mv_M) (h : mv_ok (fX11_row_167 x4 M) Q) : mv l mX11_row d 0 167 [(0, .ref 62), (4, .long x4)] [.ref 62] M (mv_qV Q) := by
  unfold fX11_row_167 at h
  refine mv_iconst 0 dX11_row_167 (by decide) ?_
  refine mv_sub [0, 1] rfl ?_
  exact zX11_row_168 hd x4 0 M h
noncomputable def fX11_row_221 (x2 : Int64) (s0 : Int32) (M : mv_M) : Option (Unit × mv_M) :=
  mv_let (mv_si M 62 4 s0) fun M19 =>
  mv_let (mv_sl M19 62 7 x2) fun M20 =>
  fX11_row_229 M20
set_option maxRecDepth 100000 in
set_option maxHeartbeats 4000000 in
theorem zX11_row_221 {l : Launch} {d : Nat} {Q : Unit → mv_M → Prop} (hd : 2 ≤ d) (x2 : Int64) (s0 : Int32) (M : mv_M) (h : mv_ok (fX11_row_221 x2 s0 M) Q) : mv l mX11_row d 0 221 [(0, .ref 62), (2, .long x2)] [.int s0, .ref 62] M (mv_qV Q) := by
  unfold fX11_row_221 at h
  refine mv_putI fX11_193 (by decide) rfl rfl dX11_row_221 (fun M19 eM19 => ?_)
  replace h := mv_letE h M19 eM19
  refine mv_aload_n 0 dX11_row_224 rfl ?_
  refine mv_lload_n 1 dX11_row_225 rfl ?_
  refine mv_putL fX11_222 (by decide) rfl rfl dX11_row_226 (fun M20 eM20 => ?_)
  replace h := mv_letE h M20 eM20
  refine mv_sub [0] rfl ?_
  exact zX11_row_229 hd M20 h
noncomputable def fX11_row_195 (x2 : Int64) (x6 : Int32) (s0 : Int32) (M : mv_M) : Option (Unit × mv_M) :=
  if s0 ≤ 0 then
    if 8 < x6 then
      fX11_row_221 x2 0 M
    else
      fX11_row_221 x2 10 M
  else
    fX11_row_221 x2 s0 M
set_option maxRecDepth 100000 in
set_option maxHeartbeats 4000000 in
theorem zX11_row_195 {l : Launch} {d : Nat} {Q : Unit → mv_M → Prop} (hd : 2 ≤ d) (x2 : Int64) (x6 : Int32) (s0 : Int32) (M : mv_M) (h : mv_ok (fX11_row_195 x2 x6 s0 M) Q) : mv l mX11_row d 0 195 [(0, .ref 62), (2, .long x2), (6, .int x6)] [.int s0] M (mv_qV Q) := by
  unfold fX11_row_195 at h
  refine mv_istore [(7, .int s0), (0, .ref 62), (2, .long x2), (6, .int x6)] dX11_row_195 (by decide) rfl ?_
  refine mv_aload_n 1 dX11_row_197 rfl ?_
  refine mv_iload 0 dX11_row_198 rfl ?_
  refine mv_if_le 208 dX11_row_200 (by decide) (fun z => ?_) (fun z => ?_)
  · replace h := mv_ifT z h
    refine mv_iload 3 dX11_row_208 rfl ?_
    refine mv_bipush 8 dX11_row_210 (by decide) ?_
    refine mv_icmp_gt 220 dX11_row_212 (by decide) (fun z => ?_) (fun z => ?_)
    · replace h := mv_ifT z h
      refine mv_iconst 0 dX11_row_220 (by decide) ?_
      refine mv_sub [1, 2] rfl ?_
      exact zX11_row_221 hd x2 0 M h
    · replace h := mv_ifF z h
      refine mv_bipush 10 dX11_row_215 (by decide) ?_
      refine mv_goto 221 dX11_row_217 (by decide) ?_
      refine mv_sub [1, 2] rfl ?_
      exact zX11_row_221 hd x2 10 M h
  · replace h := mv_ifF z h
    refine mv_iload 0 dX11_row_203 rfl ?_
    refine mv_goto 221 dX11_row_205 (by decide) ?_
    refine mv_sub [1, 2] rfl ?_
    exact zX11_row_221 hd x2 s0 M h
noncomputable def fX11_row_124 (x1 : Int32) (x2 : Int64) (x4 : Int64) (M : mv_M) : Option (Unit × mv_M) :=
  mv_let ((M.1 62 3) - (M.1 62 5)) fun v7 =>
  mv_chk (mv_inb (M.1 62 5) 4000) <|
  mv_bind (fX11_isDigit (M.1 63 (M.1 62 5).toNatClampNeg) M) fun r9 M10 =>
  if r9 = 0 then
    if 4 < v7 then
      fX11_row_195 x2 v7 0 M10
    else
      mv_bind (fX11_wordOf x2 M10) fun r11 M12 =>
      fX11_row_195 x2 v7 r11 M12
  else
    if x1 = 0 then
      fX11_row_167 x4 M10
    else
      if 9 < v7 then
        fX11_row_167 x4 M10
      else
        fX11_row_168 x4 11 M10
set_option maxRecDepth 100000 in
set_option maxHeartbeats 4000000 in
theorem zX11_row_124 {l : Launch} {d : Nat} {Q : Unit → mv_M → Prop} (hd : 2 ≤ d) (x1 : Int32) (x2 : Int64) (x4 : Int64) (M : mv_M) (h : mv_ok (fX11_row_124 x1 x2 x4 M) Q) : mv l mX11_row d 0 124 [(0, .ref 62), (1, .int x1), (2, .long x2), (4, .long x4)] [] M (mv_qV Q) := by
  unfold fX11_row_124 at h
  refine mv_aload_n 0 dX11_row_124 rfl ?_
  refine mv_getI fX11_187 (by decide) rfl rfl dX11_row_125 ?_
  refine mv_aload_n 0 dX11_row_128 rfl ?_
  refine mv_getI fX11_190 (by decide) rfl rfl dX11_row_129 ?_
  refine mv_isub dX11_row_132 ?_
  refine mv_topi (fun v7 ev7 => ?_)
  replace h := mv_letE h v7 ev7
  refine mv_istore [(6, .int v7), (0, .ref 62), (1, .int x1), (2, .long x2), (4, .long x4)] dX11_row_133 (by decide) rfl ?_
  refine mv_aload_n 1 dX11_row_135 rfl ?_
  refine mv_getR 63 fX11_7 (by decide) rfl rfl rfl dX11_row_136 ?_
  refine mv_aload_n 1 dX11_row_139 rfl ?_
  refine mv_getI fX11_190 (by decide) rfl rfl dX11_row_140 ?_
  obtain ⟨hi8, h⟩ := mv_chkE h
  refine mv_ild (by decide) rfl (mv_inE hi8) dX11_row_143 ?_
  refine mv_csI (As := [.int (M.1 63 (M.1 62 5).toNatClampNeg)]) (st := []) okX11_isDigit lX11_179 rfl (Nat.le_of_ble_eq_true rfl) rfl (Nat.le_of_ble_eq_true rfl) dX11_row_144 (by omega) rfl (zX11_isDigit (d := d - 1) (by omega) (M.1 63 (M.1 62 5).toNatClampNeg) M (mv_bindE h)) (fun r9 M10 h => ?_)
  refine mv_if_eq 181 dX11_row_147 (by decide) (fun z => ?_) (fun z => ?_)
  · replace h := mv_ifT z h
    refine mv_iload 0 dX11_row_181 rfl ?_
    refine mv_iconst 4 dX11_row_183 (by decide) ?_
    refine mv_icmp_gt 194 dX11_row_184 (by decide) (fun z => ?_) (fun z => ?_)
    · replace h := mv_ifT z h
      refine mv_iconst 0 dX11_row_194 (by decide) ?_
      refine mv_sub [1, 3, 0] rfl ?_
      exact zX11_row_195 hd x2 v7 0 M10 h
    · replace h := mv_ifF z h
      refine mv_lload_n 3 dX11_row_187 rfl ?_
      refine mv_csI (As := [.long x2]) (st := []) okX11_wordOf lX11_218 rfl (Nat.le_of_ble_eq_true rfl) rfl (Nat.le_of_ble_eq_true rfl) dX11_row_188 (by omega) rfl (zX11_wordOf (d := d - 1) (by omega) x2 M10 (mv_bindE h)) (fun r11 M12 h => ?_)
      refine mv_goto 195 dX11_row_191 (by decide) ?_
      refine mv_sub [1, 3, 0] rfl ?_
      exact zX11_row_195 hd x2 v7 r11 M12 h
  · replace h := mv_ifF z h
    refine mv_aload_n 1 dX11_row_150 rfl ?_
    refine mv_iload_n 2 dX11_row_151 rfl ?_
    refine mv_if_eq 167 dX11_row_152 (by decide) (fun z => ?_) (fun z => ?_)
    · replace h := mv_ifT z h
      refine mv_sub [1, 4] rfl ?_
      exact zX11_row_167 hd x4 M10 h
    · replace h := mv_ifF z h
      refine mv_iload 0 dX11_row_155 rfl ?_
      refine mv_bipush 9 dX11_row_157 (by decide) ?_
      refine mv_icmp_gt 167 dX11_row_159 (by decide) (fun z => ?_) (fun z => ?_)
      · replace h := mv_ifT z h
        refine mv_sub [1, 4] rfl ?_
        exact zX11_row_167 hd x4 M10 h
      · replace h := mv_ifF z h
        refine mv_bipush 11 dX11_row_162 (by decide) ?_
        refine mv_goto 168 dX11_row_164 (by decide) ?_
        refine mv_sub [1, 4] rfl ?_
        exact zX11_row_168 hd x4 11 M10 h
noncomputable def gX11_row_7 (x1 : Int32) (x2 : Int64) (x4 : Int64) (M : mv_M) : Option (((Int32 × Int64 × Int64) ⊕ Unit) × mv_M) :=
  if (M.1 62 2) ≤ (M.1 62 3) then
    mv_inr (fX11_row_124 x1 x2 x4 M)
  else
    mv_chk (mv_inb (M.1 62 3) 4000) <|
    mv_bind (fX11_isRow (M.1 63 (M.1 62 3).toNatClampNeg) M) fun r2 M3 =>
    if r2 = 0 then
      mv_inr (fX11_row_124 x1 x2 x4 M3)
    else
      if x1 = 0 then
        fX11_row_56 x2 x4 M3
      else
        mv_chk (mv_inb (M3.1 62 3) 4000) <|
        mv_bind (fX11_isDigit (M3.1 63 (M3.1 62 3).toNatClampNeg) M3) fun r5 M6 =>
        if r5 = 0 then
          fX11_row_56 x2 x4 M6
        else
          fX11_row_57 x2 x4 1 M6
noncomputable def fX11_row_7 (x1 : Int32) (x2 : Int64) (x4 : Int64) (M : mv_M) : Option (Unit × mv_M) := mv_loop (fun (s : Int32 × Int64 × Int64) M => gX11_row_7 s.1 s.2.1 s.2.2 M) (x1, x2, x4) M
set_option maxRecDepth 100000 in
set_option maxHeartbeats 4000000 in
theorem zX11_row_7 {l : Launch} {d : Nat} {Q : Unit → mv_M → Prop} (hd : 2 ≤ d) (x1 : Int32) (x2 : Int64) (x4 : Int64) (M : mv_M) (h : mv_ok (fX11_row_7 x1 x2 x4 M) Q) : mv l mX11_row d 0 7 [(0, .ref 62), (1, .int x1), (2, .long x2), (4, .long x4)] [] M (mv_qV Q) := by
  unfold fX11_row_7 at h
  refine mv_loopE (A := (fun (s : Int32 × Int64 × Int64) M => mv l mX11_row d 0 7 [(0, .ref 62), (1, .int s.1), (2, .long s.2.1), (4, .long s.2.2)] [] M (mv_qV Q))) ?_ (x1, x2, x4) M h
  · rintro ⟨x1, x2, x4⟩ M h
    try dsimp only at h
    show mv l mX11_row d 0 7 [(0, .ref 62), (1, .int x1), (2, .long x2), (4, .long x4)] [] M (mv_qV Q)
    unfold gX11_row_7 at h
    refine mv_aload_n 0 dX11_row_7 rfl ?_
    refine mv_getI fX11_187 (by decide) rfl rfl dX11_row_8 ?_
    refine mv_aload_n 0 dX11_row_11 rfl ?_
    refine mv_getI fX11_151 (by decide) rfl rfl dX11_row_12 ?_
    refine mv_icmp_ge 124 dX11_row_15 (by decide) (fun z => ?_) (fun z => ?_)
    · replace h := mv_ifT z h
      refine mv_sub [0, 1, 2, 3] rfl ?_
      exact zX11_row_124 hd x1 x2 x4 M (mv_inrE h)
    · replace h := mv_ifF z h
      refine mv_aload_n 0 dX11_row_18 rfl ?_
      refine mv_getR 63 fX11_7 (by decide) rfl rfl rfl dX11_row_19 ?_
      refine mv_aload_n 0 dX11_row_22 rfl ?_
      refine mv_getI fX11_187 (by decide) rfl rfl dX11_row_23 ?_
      obtain ⟨hi1, h⟩ := mv_chkE h
      refine mv_ild (by decide) rfl (mv_inE hi1) dX11_row_26 ?_
      refine mv_csI (As := [.int (M.1 63 (M.1 62 3).toNatClampNeg)]) (st := []) okX11_isRow lX11_199 rfl (Nat.le_of_ble_eq_true rfl) rfl (Nat.le_of_ble_eq_true rfl) dX11_row_27 (by omega) rfl (zX11_isRow (d := d - 1) (by omega) (M.1 63 (M.1 62 3).toNatClampNeg) M (mv_bindE h)) (fun r2 M3 h => ?_)
      refine mv_if_eq 124 dX11_row_30 (by decide) (fun z => ?_) (fun z => ?_)
      · replace h := mv_ifT z h
        refine mv_sub [0, 1, 2, 3] rfl ?_
        exact zX11_row_124 hd x1 x2 x4 M3 (mv_inrE h)
      · replace h := mv_ifF z h
        refine mv_iload_n 1 dX11_row_33 rfl ?_
        refine mv_if_eq 56 dX11_row_34 (by decide) (fun z => ?_) (fun z => ?_)
        · replace h := mv_ifT z h
          refine mv_sub [0, 2, 3] rfl ?_
          exact zX11_row_56 hd x2 x4 M3 h
        · replace h := mv_ifF z h
          refine mv_aload_n 0 dX11_row_37 rfl ?_
          refine mv_getR 63 fX11_7 (by decide) rfl rfl rfl dX11_row_38 ?_
          refine mv_aload_n 0 dX11_row_41 rfl ?_
          refine mv_getI fX11_187 (by decide) rfl rfl dX11_row_42 ?_
          obtain ⟨hi4, h⟩ := mv_chkE h
          refine mv_ild (by decide) rfl (mv_inE hi4) dX11_row_45 ?_
          refine mv_csI (As := [.int (M3.1 63 (M3.1 62 3).toNatClampNeg)]) (st := []) okX11_isDigit lX11_179 rfl (Nat.le_of_ble_eq_true rfl) rfl (Nat.le_of_ble_eq_true rfl) dX11_row_46 (by omega) rfl (zX11_isDigit (d := d - 1) (by omega) (M3.1 63 (M3.1 62 3).toNatClampNeg) M3 (mv_bindE h)) (fun r5 M6 h => ?_)
          refine mv_if_eq 56 dX11_row_49 (by decide) (fun z => ?_) (fun z => ?_)
          · replace h := mv_ifT z h
            refine mv_sub [0, 2, 3] rfl ?_
            exact zX11_row_56 hd x2 x4 M6 h
          · replace h := mv_ifF z h
            refine mv_iconst 1 dX11_row_52 (by decide) ?_
            refine mv_goto 57 dX11_row_53 (by decide) ?_
            refine mv_sub [0, 2, 3] rfl ?_
            exact zX11_row_57 hd x2 x4 1 M6 h
noncomputable def fX11_row (M : mv_M) : Option (Unit × mv_M) :=
  fX11_row_7 1 0 0 M
set_option maxRecDepth 100000 in
set_option maxHeartbeats 4000000 in
theorem zX11_row {l : Launch} {d : Nat} {Q : Unit → mv_M → Prop} (hd : 2 ≤ d) (M : mv_M) (h : mv_ok (fX11_row M) Q) : mv l mX11_row d 0 0 (lv_args 0 [.ref 62]) [] M (mv_qV Q) := by
  unfold fX11_row at h
  show mv l mX11_row d 0 0 [(0, .ref 62)] [] M (mv_qV Q)
  refine mv_iconst 1 dX11_row_0 (by decide) ?_
  refine mv_istore_n [(1, .int 1), (0, .ref 62)] dX11_row_1 (by decide) rfl ?_
  refine mv_lconst 0 dX11_row_2 (by decide) ?_
  refine mv_lstore_n [(2, .long 0), (1, .int 1), (0, .ref 62)] dX11_row_3 (by decide) rfl ?_
  refine mv_lconst 0 dX11_row_4 (by decide) ?_
  refine mv_lstore [(4, .long 0), (2, .long 0), (1, .int 1), (0, .ref 62)] dX11_row_5 (by decide) rfl ?_
  refine mv_sub [3, 2, 1, 0] rfl ?_
  exact zX11_row_7 hd 1 0 0 M h
