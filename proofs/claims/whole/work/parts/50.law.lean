theorem cwL_13 : Cond.classLink RL 13 mv_e1 ∈ mv_T := mv_t3 200 rfl rfl
theorem cs_mv_e1 : Cond.castable mv_e1 mv_e1 ∈ mv_NW := mv_n3 207 rfl rfl
theorem cwL_19 : Cond.classLink RL 19 mv_e2 ∈ mv_T := mv_t4 40 rfl rfl
theorem cs_mv_e2 : Cond.castable mv_e2 mv_e2 ∈ mv_NW := mv_n4 47 rfl rfl
theorem cwL_25 : Cond.classLink RL 25 mv_e3 ∈ mv_T := mv_t4 64 rfl rfl
theorem cs_mv_e3 : Cond.castable mv_e3 mv_e3 ∈ mv_NW := mv_n4 76 rfl rfl
abbrev mL_feed : mv_Y := (yL_feed, cL_feed, 8, some .int, [(0, 16, 19, 13)])
theorem okL_feed : mv_MH mL_feed 7 := ⟨mv_t3 199 rfl rfl, mv_t1 0 rfl rfl, by decide, ⟨by decide, by decide, by decide⟩, by decide, mv_t3 198 rfl rfl⟩
abbrev mL_cut : mv_Y := (yL_cut, cL_cut, 4, some .int, [(0, 9, 12, 19)])
theorem okL_cut : mv_MH mL_cut 3 := ⟨mv_t4 39 rfl rfl, mv_t1 0 rfl rfl, by decide, ⟨by decide, by decide, by decide⟩, by decide, mv_t4 38 rfl rfl⟩
abbrev mL_function : mv_Y := (yL_function, cL_function, 5, some .int, [(0, 10, 13, 25)])
theorem okL_function : mv_MH mL_function 4 := ⟨mv_t4 63 rfl rfl, mv_t1 0 rfl rfl, by decide, ⟨by decide, by decide, by decide⟩, by decide, mv_t4 62 rfl rfl⟩
abbrev mL_rounds : mv_Y := (yL_rounds, cL_rounds, 3, some .int, [(0, 8, 11, 13)])
theorem okL_rounds : mv_MH mL_rounds 2 := ⟨mv_t4 98 rfl rfl, mv_t1 0 rfl rfl, by decide, ⟨by decide, by decide, by decide⟩, by decide, mv_t4 97 rfl rfl⟩
abbrev mL_dead : mv_Y := (yL_dead, cL_dead, 5, some .int, [(0, 17, 20, 13), (0, 17, 24, 25)])
theorem okL_dead : mv_MH mL_dead 4 := ⟨mv_t5 228 rfl rfl, mv_t1 0 rfl rfl, by decide, ⟨by decide, by decide, by decide⟩, by decide, mv_t5 227 rfl rfl⟩
abbrev mL_asks : mv_Y := (yL_asks, cL_asks, 6, some .int, [(0, 12, 15, 13), (0, 12, 19, 25)])
theorem okL_asks : mv_MH mL_asks 5 := ⟨mv_t6 6 rfl rfl, mv_t1 0 rfl rfl, by decide, ⟨by decide, by decide, by decide⟩, by decide, mv_t6 5 rfl rfl⟩
abbrev mL_strict : mv_Y := (yL_strict, cL_strict, 5, some .int, [(0, 17, 20, 13), (0, 17, 24, 25)])
theorem okL_strict : mv_MH mL_strict 4 := ⟨mv_t6 19 rfl rfl, mv_t1 0 rfl rfl, by decide, ⟨by decide, by decide, by decide⟩, by decide, mv_t6 18 rfl rfl⟩
abbrev mL_plant : mv_Y := (yL_plant, cL_plant, 7, some .int, [(0, 14, 17, 13), (0, 14, 21, 25), (0, 14, 25, 19)])
theorem okL_plant : mv_MH mL_plant 6 := ⟨mv_t6 26 rfl rfl, mv_t1 0 rfl rfl, by decide, ⟨by decide, by decide, by decide⟩, by decide, mv_t6 25 rfl rfl⟩
abbrev mL_check : mv_Y := (yL_check, cL_check, 3, some .int, [(0, 8, 11, 13)])
theorem okL_check : mv_MH mL_check 2 := ⟨mv_t6 38 rfl rfl, mv_t1 0 rfl rfl, by decide, ⟨by decide, by decide, by decide⟩, by decide, mv_t6 37 rfl rfl⟩
abbrev mL_input : mv_Y := (yL_input, cL_input, 5, some .int, [(0, 10, 13, 19), (0, 10, 17, 13)])
theorem okL_input : mv_MH mL_input 4 := ⟨mv_t6 53 rfl rfl, mv_t1 0 rfl rfl, by decide, ⟨by decide, by decide, by decide⟩, by decide, mv_t6 52 rfl rfl⟩
abbrev mL_run : mv_Y := (yL_run, cL_run, 6, some .int, [(0, 12, 15, 13), (0, 12, 19, 25), (0, 12, 23, 19)])
theorem okL_run : mv_MH mL_run 5 := ⟨mv_t6 66 rfl rfl, mv_t1 0 rfl rfl, by decide, ⟨by decide, by decide, by decide⟩, by decide, mv_t6 65 rfl rfl⟩
abbrev mL_told : mv_Y := (yL_told, cL_told, 4, some .int, [(0, 9, 12, 25)])
theorem okL_told : mv_MH mL_told 3 := ⟨mv_t6 204 rfl rfl, mv_t1 0 rfl rfl, by decide, ⟨by decide, by decide, by decide⟩, by decide, mv_t6 203 rfl rfl⟩
abbrev mL_result : mv_Y := (yL_result, cL_result, 4, some .int, [(0, 9, 12, 25)])
theorem okL_result : mv_MH mL_result 3 := ⟨mv_t6 215 rfl rfl, mv_t1 0 rfl rfl, by decide, ⟨by decide, by decide, by decide⟩, by decide, mv_t6 214 rfl rfl⟩
abbrev mL_needed : mv_Y := (yL_needed, cL_needed, 4, some .int, [(0, 16, 19, 25)])
theorem okL_needed : mv_MH mL_needed 3 := ⟨mv_t7 4 rfl rfl, mv_t1 0 rfl rfl, by decide, ⟨by decide, by decide, by decide⟩, by decide, mv_t7 3 rfl rfl⟩
abbrev mL_law : mv_Y := (⟨"StrictProofsLaw", "law", "([I)Z"⟩, cL_law, 7, ret, [])
theorem lL_7 : Cond.methodLink RL 7 yX10_feed ∈ mv_T := mv_t3 201 rfl rfl
theorem lL_15 : Cond.methodLink RL 15 yX10_cut ∈ mv_T := mv_t4 41 rfl rfl
theorem lL_21 : Cond.methodLink RL 21 yX10_function ∈ mv_T := mv_t4 65 rfl rfl
theorem lL_27 : Cond.methodLink RL 27 yX10_rounds ∈ mv_T := mv_t4 99 rfl rfl
theorem lL_31 : Cond.methodLink RL 31 yX10_dead ∈ mv_T := mv_t5 229 rfl rfl
theorem lL_35 : Cond.methodLink RL 35 yX10_asks ∈ mv_T := mv_t6 7 rfl rfl
theorem lL_39 : Cond.methodLink RL 39 yX10_strict ∈ mv_T := mv_t6 20 rfl rfl
theorem lL_42 : Cond.methodLink RL 42 yX10_plant ∈ mv_T := mv_t6 27 rfl rfl
theorem lL_46 : Cond.methodLink RL 46 yX10_check ∈ mv_T := mv_t6 39 rfl rfl
theorem lL_49 : Cond.methodLink RL 49 yX10_input ∈ mv_T := mv_t6 54 rfl rfl
theorem lL_52 : Cond.methodLink RL 52 yX10_run ∈ mv_T := mv_t6 67 rfl rfl
theorem lL_55 : Cond.methodLink RL 55 yX10_told ∈ mv_T := mv_t6 205 rfl rfl
theorem lL_58 : Cond.methodLink RL 58 yX10_result ∈ mv_T := mv_t6 216 rfl rfl
theorem lL_61 : Cond.methodLink RL 61 yX10_needed ∈ mv_T := mv_t7 5 rfl rfl
theorem lL_69 : Cond.methodLink RL 69 yL_feed ∈ mv_T := mv_t3 197 rfl rfl
theorem lL_74 : Cond.methodLink RL 74 yX11_feed ∈ mv_T := mv_t8 34 rfl rfl
theorem lL_75 : Cond.methodLink RL 75 yX11_thrown ∈ mv_T := mv_t8 30 rfl rfl
theorem lL_78 : Cond.methodLink RL 78 yL_cut ∈ mv_T := mv_t4 37 rfl rfl
theorem lL_81 : Cond.methodLink RL 81 yX11_cut ∈ mv_T := mv_t8 38 rfl rfl
theorem lL_82 : Cond.methodLink RL 82 yX10_read ∈ mv_T := mv_t2 173 rfl rfl
theorem lL_85 : Cond.methodLink RL 85 yX11_read ∈ mv_T := mv_t8 45 rfl rfl
theorem lL_86 : Cond.methodLink RL 86 yX10_place ∈ mv_T := mv_t3 193 rfl rfl
theorem lL_89 : Cond.methodLink RL 89 yX11_place ∈ mv_T := mv_t8 185 rfl rfl
theorem lL_90 : Cond.methodLink RL 90 yL_function ∈ mv_T := mv_t4 61 rfl rfl
theorem lL_93 : Cond.methodLink RL 93 yX11_function ∈ mv_T := mv_t8 189 rfl rfl
theorem lL_94 : Cond.methodLink RL 94 yL_rounds ∈ mv_T := mv_t4 96 rfl rfl
theorem lL_97 : Cond.methodLink RL 97 yX11_rounds ∈ mv_T := mv_t8 200 rfl rfl
theorem lL_98 : Cond.methodLink RL 98 yL_dead ∈ mv_T := mv_t5 226 rfl rfl
theorem lL_100 : Cond.methodLink RL 100 yX11_dead ∈ mv_T := mv_t8 237 rfl rfl
theorem lL_101 : Cond.methodLink RL 101 yL_asks ∈ mv_T := mv_t6 4 rfl rfl
theorem lL_104 : Cond.methodLink RL 104 yX11_asks_ ∈ mv_T := mv_t9 5 rfl rfl
theorem lL_105 : Cond.methodLink RL 105 yL_strict ∈ mv_T := mv_t6 17 rfl rfl
theorem lL_107 : Cond.methodLink RL 107 yX11_strict ∈ mv_T := mv_t9 21 rfl rfl
theorem lL_108 : Cond.methodLink RL 108 yL_plant ∈ mv_T := mv_t6 24 rfl rfl
theorem lL_111 : Cond.methodLink RL 111 yX11_plant ∈ mv_T := mv_t9 25 rfl rfl
theorem lL_112 : Cond.methodLink RL 112 yL_check ∈ mv_T := mv_t6 36 rfl rfl
theorem lL_114 : Cond.methodLink RL 114 yX11_check ∈ mv_T := mv_t9 29 rfl rfl
theorem lL_115 : Cond.methodLink RL 115 yL_input ∈ mv_T := mv_t6 51 rfl rfl
theorem lL_117 : Cond.methodLink RL 117 yX11_input ∈ mv_T := mv_t9 37 rfl rfl
theorem lL_118 : Cond.methodLink RL 118 yL_run ∈ mv_T := mv_t6 64 rfl rfl
theorem lL_120 : Cond.methodLink RL 120 yX11_run ∈ mv_T := mv_t9 42 rfl rfl
theorem lL_121 : Cond.methodLink RL 121 yL_told ∈ mv_T := mv_t6 202 rfl rfl
theorem lL_123 : Cond.methodLink RL 123 yX11_told ∈ mv_T := mv_t9 87 rfl rfl
theorem lL_124 : Cond.methodLink RL 124 yL_result ∈ mv_T := mv_t6 213 rfl rfl
theorem lL_126 : Cond.methodLink RL 126 yX11_result ∈ mv_T := mv_t9 92 rfl rfl
theorem lL_127 : Cond.methodLink RL 127 yL_needed ∈ mv_T := mv_t7 2 rfl rfl
theorem lL_129 : Cond.methodLink RL 129 yX11_needed ∈ mv_T := mv_t9 100 rfl rfl
theorem dL_feed_0 : decode cL_feed 0 = .ok (.aload 6, 2) := by decide +kernel
theorem dL_feed_2 : decode cL_feed 2 = .ok (.iconst 0, 1) := by decide +kernel
theorem dL_feed_3 : decode cL_feed 3 = .ok (.aload_n 0, 1) := by decide +kernel
theorem dL_feed_4 : decode cL_feed 4 = .ok (.iload_n 1, 1) := by decide +kernel
theorem dL_feed_5 : decode cL_feed 5 = .ok (.iload_n 2, 1) := by decide +kernel
theorem dL_feed_6 : decode cL_feed 6 = .ok (.iload_n 3, 1) := by decide +kernel
theorem dL_feed_7 : decode cL_feed 7 = .ok (.iload 4, 2) := by decide +kernel
theorem dL_feed_9 : decode cL_feed 9 = .ok (.iload 5, 2) := by decide +kernel
theorem dL_feed_11 : decode cL_feed 11 = .ok (.invokevirtual 7, 3) := by decide +kernel
theorem dL_feed_14 : decode cL_feed 14 = .ok (.i2l, 1) := by decide +kernel
theorem dL_feed_15 : decode cL_feed 15 = .ok (.lastore, 1) := by decide +kernel
theorem dL_feed_16 : decode cL_feed 16 = .ok (.goto 7, 3) := by decide +kernel
theorem dL_feed_19 : decode cL_feed 19 = .ok (.astore 7, 2) := by decide +kernel
theorem dL_feed_21 : decode cL_feed 21 = .ok (.iconst 1, 1) := by decide +kernel
theorem dL_feed_22 : decode cL_feed 22 = .ok (.ireturn, 1) := by decide +kernel
theorem dL_feed_23 : decode cL_feed 23 = .ok (.iconst 0, 1) := by decide +kernel
theorem dL_feed_24 : decode cL_feed 24 = .ok (.ireturn, 1) := by decide +kernel
noncomputable def fL_feed (a1 : Int32) (a2 : Int32) (a3 : Int32) (a4 : Int32) (a5 : Int32) (M : mv_M) : Option (Int32 × mv_M) :=
  mv_tryx (fX10_feed a1 a2 a3 a4 a5 M) (fun r3 M2 =>
      mv_let (mv_sl M2 106 (0 : Int32).toNatClampNeg (r3.toInt64)) fun M6 =>
      some (0, M6))
    (fun E4 M2 => if E4 = mv_e1 then some (1, M2) else none)
set_option maxRecDepth 100000 in
set_option maxHeartbeats 4000000 in
theorem zL_feed {l : Launch} {d : Nat} {Q : Int32 → mv_M → Prop} (hd : 8 ≤ d) (hl : l.stackTraces = false) (a1 : Int32) (a2 : Int32) (a3 : Int32) (a4 : Int32) (a5 : Int32) (M : mv_M) (h : mv_ok (fL_feed a1 a2 a3 a4 a5 M) Q) : mv l mL_feed d 4 0 (lv_args 0 [.ref 0, .int a1, .int a2, .int a3, .int a4, .int a5, .ref 106]) [] M (mv_qI Q) := by
  unfold fL_feed at h
  show mv l mL_feed d 4 0 [(0, .ref 0), (1, .int a1), (2, .int a2), (3, .int a3), (4, .int a4), (5, .int a5), (6, .ref 106)] [] M (mv_qI Q)
  refine mv_aload 6 dL_feed_0 rfl ?_
  refine mv_iconst 0 dL_feed_2 (by decide) ?_
  refine mv_aload_n 0 dL_feed_3 rfl ?_
  refine mv_iload_n 1 dL_feed_4 rfl ?_
  refine mv_iload_n 2 dL_feed_5 rfl ?_
  refine mv_iload_n 3 dL_feed_6 rfl ?_
  refine mv_iload 4 dL_feed_7 rfl ?_
  refine mv_iload 5 dL_feed_9 rfl ?_
  refine mv_try (k' := 4) (k2 := 0) (As := [.int a1, .int a2, .int a3, .int a4, .int a5]) (st := [.int 0, .ref 106]) okX10_feed lL_7 (by decide) rfl rfl rfl (Nat.le_of_ble_eq_true rfl) rfl (Nat.le_of_ble_eq_true rfl) dL_feed_11 (by omega) (by omega) (zX10_feed (d := d - 1) (by omega) hl a1 a2 a3 a4 a5 M (mv_tryxE h)) (fun E4 M2 hq => ?_) (fun v M2 hq => ?_)
  · rcases hq with ⟨_, e1, _⟩ | ⟨E2, e1, hq⟩
    · cases e1
    · cases e1
      have h := hq.2 E4 rfl
      by_cases z5 : E4 = mv_e1
      · replace h := mv_ifT z5 h
        subst z5
        refine ⟨19, ⟨[], ⟨0, 16, 19, 13⟩, [], rfl, fun _ w => absurd w List.not_mem_nil, rfl, by decide, ⟨mv_e1, cwL_13, cs_mv_e1⟩, rfl⟩, Or.inl ⟨7, dL_feed_19, by decide, ?_⟩⟩
        refine mv_iconst 1 dL_feed_21 (by decide) ?_
        exact mv_iret rfl dL_feed_22 ⟨_, rfl, h⟩
      · replace h := mv_ifF z5 h
        exact h.elim
  · rcases hq with ⟨r3, e1, hq⟩ | ⟨_, e1, _⟩
    · cases e1
      have h := hq.1 r3 rfl
      show mv l mL_feed d 0 14 [(0, .ref 0), (1, .int a1), (2, .int a2), (3, .int a3), (4, .int a4), (5, .int a5), (6, .ref 106)] [.int r3, .int 0, .ref 106] M2 (mv_qI Q)
      refine mv_i2l dL_feed_14 ?_
      refine mv_lst (by decide) rfl (mv_inE (by decide)) dL_feed_15 (fun M6 eM6 => ?_)
      replace h := mv_letE h M6 eM6
      refine mv_goto 23 dL_feed_16 (by decide) ?_
      refine mv_iconst 0 dL_feed_23 (by decide) ?_
      exact mv_iret rfl dL_feed_24 ⟨_, rfl, h⟩
    · cases e1
theorem dL_cut_0 : decode cL_cut 0 = .ok (.aload_n 2, 1) := by decide +kernel
theorem dL_cut_1 : decode cL_cut 1 = .ok (.iconst 0, 1) := by decide +kernel
theorem dL_cut_2 : decode cL_cut 2 = .ok (.aload_n 0, 1) := by decide +kernel
theorem dL_cut_3 : decode cL_cut 3 = .ok (.iload_n 1, 1) := by decide +kernel
theorem dL_cut_4 : decode cL_cut 4 = .ok (.invokevirtual 15, 3) := by decide +kernel
theorem dL_cut_7 : decode cL_cut 7 = .ok (.i2l, 1) := by decide +kernel
theorem dL_cut_8 : decode cL_cut 8 = .ok (.lastore, 1) := by decide +kernel
theorem dL_cut_9 : decode cL_cut 9 = .ok (.goto 6, 3) := by decide +kernel
theorem dL_cut_12 : decode cL_cut 12 = .ok (.astore_n 3, 1) := by decide +kernel
theorem dL_cut_13 : decode cL_cut 13 = .ok (.iconst 1, 1) := by decide +kernel
theorem dL_cut_14 : decode cL_cut 14 = .ok (.ireturn, 1) := by decide +kernel
theorem dL_cut_15 : decode cL_cut 15 = .ok (.iconst 0, 1) := by decide +kernel
theorem dL_cut_16 : decode cL_cut 16 = .ok (.ireturn, 1) := by decide +kernel
noncomputable def fL_cut (a1 : Int32) (M : mv_M) : Option (Int32 × mv_M) :=
  mv_tryx (fX10_cut a1 M) (fun r3 M2 =>
      mv_let (mv_sl M2 106 (0 : Int32).toNatClampNeg (r3.toInt64)) fun M6 =>
      some (0, M6))
    (fun E4 M2 => if E4 = mv_e2 then some (1, M2) else none)
set_option maxRecDepth 100000 in
set_option maxHeartbeats 4000000 in
theorem zL_cut {l : Launch} {d : Nat} {Q : Int32 → mv_M → Prop} (hd : 8 ≤ d) (hl : l.stackTraces = false) (a1 : Int32) (M : mv_M) (h : mv_ok (fL_cut a1 M) Q) : mv l mL_cut d 4 0 (lv_args 0 [.ref 0, .int a1, .ref 106]) [] M (mv_qI Q) := by
  unfold fL_cut at h
  show mv l mL_cut d 4 0 [(0, .ref 0), (1, .int a1), (2, .ref 106)] [] M (mv_qI Q)
  refine mv_aload_n 2 dL_cut_0 rfl ?_
  refine mv_iconst 0 dL_cut_1 (by decide) ?_
  refine mv_aload_n 0 dL_cut_2 rfl ?_
  refine mv_iload_n 1 dL_cut_3 rfl ?_
  refine mv_try (k' := 4) (k2 := 0) (As := [.int a1]) (st := [.int 0, .ref 106]) okX10_cut lL_15 (by decide) rfl rfl rfl (Nat.le_of_ble_eq_true rfl) rfl (Nat.le_of_ble_eq_true rfl) dL_cut_4 (by omega) (by omega) (zX10_cut (d := d - 1) (by omega) hl a1 M (mv_tryxE h)) (fun E4 M2 hq => ?_) (fun v M2 hq => ?_)
  · rcases hq with ⟨_, e1, _⟩ | ⟨E2, e1, hq⟩
    · cases e1
    · cases e1
      have h := hq.2 E4 rfl
      by_cases z5 : E4 = mv_e2
      · replace h := mv_ifT z5 h
        subst z5
        refine ⟨12, ⟨[], ⟨0, 9, 12, 19⟩, [], rfl, fun _ w => absurd w List.not_mem_nil, rfl, by decide, ⟨mv_e2, cwL_19, cs_mv_e2⟩, rfl⟩, Or.inr ⟨3, dL_cut_12, by decide, ?_⟩⟩
        refine mv_iconst 1 dL_cut_13 (by decide) ?_
        exact mv_iret rfl dL_cut_14 ⟨_, rfl, h⟩
      · replace h := mv_ifF z5 h
        exact h.elim
  · rcases hq with ⟨r3, e1, hq⟩ | ⟨_, e1, _⟩
    · cases e1
      have h := hq.1 r3 rfl
      show mv l mL_cut d 0 7 [(0, .ref 0), (1, .int a1), (2, .ref 106)] [.int r3, .int 0, .ref 106] M2 (mv_qI Q)
      refine mv_i2l dL_cut_7 ?_
      refine mv_lst (by decide) rfl (mv_inE (by decide)) dL_cut_8 (fun M6 eM6 => ?_)
      replace h := mv_letE h M6 eM6
      refine mv_goto 15 dL_cut_9 (by decide) ?_
      refine mv_iconst 0 dL_cut_15 (by decide) ?_
      exact mv_iret rfl dL_cut_16 ⟨_, rfl, h⟩
    · cases e1
theorem dL_function_0 : decode cL_function 0 = .ok (.aload_n 3, 1) := by decide +kernel
theorem dL_function_1 : decode cL_function 1 = .ok (.iconst 0, 1) := by decide +kernel
theorem dL_function_2 : decode cL_function 2 = .ok (.aload_n 0, 1) := by decide +kernel
theorem dL_function_3 : decode cL_function 3 = .ok (.iload_n 1, 1) := by decide +kernel
theorem dL_function_4 : decode cL_function 4 = .ok (.iload_n 2, 1) := by decide +kernel
theorem dL_function_5 : decode cL_function 5 = .ok (.invokevirtual 21, 3) := by decide +kernel
theorem dL_function_8 : decode cL_function 8 = .ok (.i2l, 1) := by decide +kernel
theorem dL_function_9 : decode cL_function 9 = .ok (.lastore, 1) := by decide +kernel
theorem dL_function_10 : decode cL_function 10 = .ok (.goto 7, 3) := by decide +kernel
theorem dL_function_13 : decode cL_function 13 = .ok (.astore 4, 2) := by decide +kernel
theorem dL_function_15 : decode cL_function 15 = .ok (.iconst 1, 1) := by decide +kernel
theorem dL_function_16 : decode cL_function 16 = .ok (.ireturn, 1) := by decide +kernel
theorem dL_function_17 : decode cL_function 17 = .ok (.iconst 0, 1) := by decide +kernel
theorem dL_function_18 : decode cL_function 18 = .ok (.ireturn, 1) := by decide +kernel
noncomputable def fL_function (a1 : Int32) (a2 : Int32) (M : mv_M) : Option (Int32 × mv_M) :=
  mv_tryx (fX10_function a1 a2 M) (fun r3 M2 =>
      mv_let (mv_sl M2 106 (0 : Int32).toNatClampNeg (r3.toInt64)) fun M6 =>
      some (0, M6))
    (fun E4 M2 => if E4 = mv_e3 then some (1, M2) else none)
set_option maxRecDepth 100000 in
set_option maxHeartbeats 4000000 in
theorem zL_function {l : Launch} {d : Nat} {Q : Int32 → mv_M → Prop} (hd : 8 ≤ d) (hl : l.stackTraces = false) (a1 : Int32) (a2 : Int32) (M : mv_M) (h : mv_ok (fL_function a1 a2 M) Q) : mv l mL_function d 4 0 (lv_args 0 [.ref 0, .int a1, .int a2, .ref 106]) [] M (mv_qI Q) := by
  unfold fL_function at h
  show mv l mL_function d 4 0 [(0, .ref 0), (1, .int a1), (2, .int a2), (3, .ref 106)] [] M (mv_qI Q)
  refine mv_aload_n 3 dL_function_0 rfl ?_
  refine mv_iconst 0 dL_function_1 (by decide) ?_
  refine mv_aload_n 0 dL_function_2 rfl ?_
  refine mv_iload_n 1 dL_function_3 rfl ?_
  refine mv_iload_n 2 dL_function_4 rfl ?_
  refine mv_try (k' := 4) (k2 := 0) (As := [.int a1, .int a2]) (st := [.int 0, .ref 106]) okX10_function lL_21 (by decide) rfl rfl rfl (Nat.le_of_ble_eq_true rfl) rfl (Nat.le_of_ble_eq_true rfl) dL_function_5 (by omega) (by omega) (zX10_function (d := d - 1) (by omega) hl a1 a2 M (mv_tryxE h)) (fun E4 M2 hq => ?_) (fun v M2 hq => ?_)
  · rcases hq with ⟨_, e1, _⟩ | ⟨E2, e1, hq⟩
    · cases e1
    · cases e1
      have h := hq.2 E4 rfl
      by_cases z5 : E4 = mv_e3
      · replace h := mv_ifT z5 h
        subst z5
        refine ⟨13, ⟨[], ⟨0, 10, 13, 25⟩, [], rfl, fun _ w => absurd w List.not_mem_nil, rfl, by decide, ⟨mv_e3, cwL_25, cs_mv_e3⟩, rfl⟩, Or.inl ⟨4, dL_function_13, by decide, ?_⟩⟩
        refine mv_iconst 1 dL_function_15 (by decide) ?_
        exact mv_iret rfl dL_function_16 ⟨_, rfl, h⟩
      · replace h := mv_ifF z5 h
        exact h.elim
  · rcases hq with ⟨r3, e1, hq⟩ | ⟨_, e1, _⟩
    · cases e1
      have h := hq.1 r3 rfl
      show mv l mL_function d 0 8 [(0, .ref 0), (1, .int a1), (2, .int a2), (3, .ref 106)] [.int r3, .int 0, .ref 106] M2 (mv_qI Q)
      refine mv_i2l dL_function_8 ?_
      refine mv_lst (by decide) rfl (mv_inE (by decide)) dL_function_9 (fun M6 eM6 => ?_)
      replace h := mv_letE h M6 eM6
      refine mv_goto 17 dL_function_10 (by decide) ?_
      refine mv_iconst 0 dL_function_17 (by decide) ?_
      exact mv_iret rfl dL_function_18 ⟨_, rfl, h⟩
    · cases e1
theorem dL_rounds_0 : decode cL_rounds 0 = .ok (.aload_n 1, 1) := by decide +kernel
theorem dL_rounds_1 : decode cL_rounds 1 = .ok (.iconst 0, 1) := by decide +kernel
theorem dL_rounds_2 : decode cL_rounds 2 = .ok (.aload_n 0, 1) := by decide +kernel
theorem dL_rounds_3 : decode cL_rounds 3 = .ok (.invokevirtual 27, 3) := by decide +kernel
theorem dL_rounds_6 : decode cL_rounds 6 = .ok (.i2l, 1) := by decide +kernel
theorem dL_rounds_7 : decode cL_rounds 7 = .ok (.lastore, 1) := by decide +kernel
theorem dL_rounds_8 : decode cL_rounds 8 = .ok (.goto 6, 3) := by decide +kernel
theorem dL_rounds_11 : decode cL_rounds 11 = .ok (.astore_n 2, 1) := by decide +kernel
theorem dL_rounds_12 : decode cL_rounds 12 = .ok (.iconst 1, 1) := by decide +kernel
theorem dL_rounds_13 : decode cL_rounds 13 = .ok (.ireturn, 1) := by decide +kernel
theorem dL_rounds_14 : decode cL_rounds 14 = .ok (.iconst 0, 1) := by decide +kernel
theorem dL_rounds_15 : decode cL_rounds 15 = .ok (.ireturn, 1) := by decide +kernel
noncomputable def fL_rounds (M : mv_M) : Option (Int32 × mv_M) :=
  mv_tryx (fX10_rounds M) (fun r3 M2 =>
      mv_let (mv_sl M2 106 (0 : Int32).toNatClampNeg (r3.toInt64)) fun M6 =>
      some (0, M6))
    (fun E4 M2 => if E4 = mv_e1 then some (1, M2) else none)
set_option maxRecDepth 100000 in
set_option maxHeartbeats 4000000 in
theorem zL_rounds {l : Launch} {d : Nat} {Q : Int32 → mv_M → Prop} (hd : 342 ≤ d) (hl : l.stackTraces = false) (M : mv_M) (h : mv_ok (fL_rounds M) Q) : mv l mL_rounds d 4 0 (lv_args 0 [.ref 0, .ref 106]) [] M (mv_qI Q) := by
  unfold fL_rounds at h
  show mv l mL_rounds d 4 0 [(0, .ref 0), (1, .ref 106)] [] M (mv_qI Q)
  refine mv_aload_n 1 dL_rounds_0 rfl ?_
  refine mv_iconst 0 dL_rounds_1 (by decide) ?_
  refine mv_aload_n 0 dL_rounds_2 rfl ?_
  refine mv_try (k' := 4) (k2 := 0) (As := []) (st := [.int 0, .ref 106]) okX10_rounds lL_27 (by decide) rfl rfl rfl (Nat.le_of_ble_eq_true rfl) rfl (Nat.le_of_ble_eq_true rfl) dL_rounds_3 (by omega) (by omega) (zX10_rounds (d := d - 1) (by omega) hl M (mv_tryxE h)) (fun E4 M2 hq => ?_) (fun v M2 hq => ?_)
  · rcases hq with ⟨_, e1, _⟩ | ⟨E2, e1, hq⟩
    · cases e1
    · cases e1
      have h := hq.2 E4 rfl
      by_cases z5 : E4 = mv_e1
      · replace h := mv_ifT z5 h
        subst z5
        refine ⟨11, ⟨[], ⟨0, 8, 11, 13⟩, [], rfl, fun _ w => absurd w List.not_mem_nil, rfl, by decide, ⟨mv_e1, cwL_13, cs_mv_e1⟩, rfl⟩, Or.inr ⟨2, dL_rounds_11, by decide, ?_⟩⟩
        refine mv_iconst 1 dL_rounds_12 (by decide) ?_
        exact mv_iret rfl dL_rounds_13 ⟨_, rfl, h⟩
      · replace h := mv_ifF z5 h
        exact h.elim
  · rcases hq with ⟨r3, e1, hq⟩ | ⟨_, e1, _⟩
    · cases e1
      have h := hq.1 r3 rfl
      show mv l mL_rounds d 0 6 [(0, .ref 0), (1, .ref 106)] [.int r3, .int 0, .ref 106] M2 (mv_qI Q)
      refine mv_i2l dL_rounds_6 ?_
      refine mv_lst (by decide) rfl (mv_inE (by decide)) dL_rounds_7 (fun M6 eM6 => ?_)
      replace h := mv_letE h M6 eM6
      refine mv_goto 14 dL_rounds_8 (by decide) ?_
      refine mv_iconst 0 dL_rounds_14 (by decide) ?_
      exact mv_iret rfl dL_rounds_15 ⟨_, rfl, h⟩
    · cases e1
theorem dL_dead_0 : decode cL_dead 0 = .ok (.aload_n 3, 1) := by decide +kernel
theorem dL_dead_1 : decode cL_dead 1 = .ok (.iconst 0, 1) := by decide +kernel
theorem dL_dead_2 : decode cL_dead 2 = .ok (.aload_n 0, 1) := by decide +kernel
theorem dL_dead_3 : decode cL_dead 3 = .ok (.iload_n 1, 1) := by decide +kernel
theorem dL_dead_4 : decode cL_dead 4 = .ok (.iload_n 2, 1) := by decide +kernel
theorem dL_dead_5 : decode cL_dead 5 = .ok (.invokevirtual 31, 3) := by decide +kernel
theorem dL_dead_8 : decode cL_dead 8 = .ok (.ifCond .eq 7, 3) := by decide +kernel
theorem dL_dead_11 : decode cL_dead 11 = .ok (.lconst 1, 1) := by decide +kernel
theorem dL_dead_12 : decode cL_dead 12 = .ok (.goto 4, 3) := by decide +kernel
theorem dL_dead_15 : decode cL_dead 15 = .ok (.lconst 0, 1) := by decide +kernel
theorem dL_dead_16 : decode cL_dead 16 = .ok (.lastore, 1) := by decide +kernel
theorem dL_dead_17 : decode cL_dead 17 = .ok (.goto 11, 3) := by decide +kernel
theorem dL_dead_20 : decode cL_dead 20 = .ok (.astore 4, 2) := by decide +kernel
theorem dL_dead_22 : decode cL_dead 22 = .ok (.iconst 1, 1) := by decide +kernel
theorem dL_dead_23 : decode cL_dead 23 = .ok (.ireturn, 1) := by decide +kernel
theorem dL_dead_24 : decode cL_dead 24 = .ok (.astore 4, 2) := by decide +kernel
theorem dL_dead_26 : decode cL_dead 26 = .ok (.iconst 2, 1) := by decide +kernel
theorem dL_dead_27 : decode cL_dead 27 = .ok (.ireturn, 1) := by decide +kernel
theorem dL_dead_28 : decode cL_dead 28 = .ok (.iconst 0, 1) := by decide +kernel
theorem dL_dead_29 : decode cL_dead 29 = .ok (.ireturn, 1) := by decide +kernel
noncomputable def fL_dead_16 (s0 : Int64) (s1 : Int32) (M : mv_M) : Option (Int32 × mv_M) :=
  mv_chk (mv_inb s1 1) <|
  mv_let (mv_sl M 106 s1.toNatClampNeg s0) fun M8 =>
  some (0, M8)
set_option maxRecDepth 100000 in
set_option maxHeartbeats 4000000 in
theorem zL_dead_16 {l : Launch} {d : Nat} {Q : Int32 → mv_M → Prop} (hd : 9 ≤ d) (hl : l.stackTraces = false) (s0 : Int64) (s1 : Int32) (M : mv_M) (h : mv_ok (fL_dead_16 s0 s1 M) Q) : mv l mL_dead d 0 16 [] [.long s0, .int s1, .ref 106] M (mv_qI Q) := by
  unfold fL_dead_16 at h
  obtain ⟨hi7, h⟩ := mv_chkE h
  refine mv_lst (by decide) rfl (mv_inE hi7) dL_dead_16 (fun M8 eM8 => ?_)
  replace h := mv_letE h M8 eM8
  refine mv_goto 28 dL_dead_17 (by decide) ?_
  refine mv_iconst 0 dL_dead_28 (by decide) ?_
  exact mv_iret rfl dL_dead_29 ⟨_, rfl, h⟩
noncomputable def fL_dead (a1 : Int32) (a2 : Int32) (M : mv_M) : Option (Int32 × mv_M) :=
  mv_tryx (fX10_dead a1 a2 M) (fun r3 M2 =>
      if r3 = 0 then
        fL_dead_16 0 0 M2
      else
        fL_dead_16 1 0 M2)
    (fun E4 M2 => if E4 = mv_e1 then some (1, M2) else if E4 = mv_e3 then some (2, M2) else none)
set_option maxRecDepth 100000 in
set_option maxHeartbeats 4000000 in
theorem zL_dead {l : Launch} {d : Nat} {Q : Int32 → mv_M → Prop} (hd : 9 ≤ d) (hl : l.stackTraces = false) (a1 : Int32) (a2 : Int32) (M : mv_M) (h : mv_ok (fL_dead a1 a2 M) Q) : mv l mL_dead d 4 0 (lv_args 0 [.ref 0, .int a1, .int a2, .ref 106]) [] M (mv_qI Q) := by
  unfold fL_dead at h
  show mv l mL_dead d 4 0 [(0, .ref 0), (1, .int a1), (2, .int a2), (3, .ref 106)] [] M (mv_qI Q)
  refine mv_aload_n 3 dL_dead_0 rfl ?_
  refine mv_iconst 0 dL_dead_1 (by decide) ?_
  refine mv_aload_n 0 dL_dead_2 rfl ?_
  refine mv_iload_n 1 dL_dead_3 rfl ?_
  refine mv_iload_n 2 dL_dead_4 rfl ?_
  refine mv_try (k' := 4) (k2 := 0) (As := [.int a1, .int a2]) (st := [.int 0, .ref 106]) okX10_dead lL_31 (by decide) rfl rfl rfl (Nat.le_of_ble_eq_true rfl) rfl (Nat.le_of_ble_eq_true rfl) dL_dead_5 (by omega) (by omega) (zX10_dead (d := d - 1) (by omega) hl a1 a2 M (mv_tryxE h)) (fun E4 M2 hq => ?_) (fun v M2 hq => ?_)
  · rcases hq with ⟨_, e1, _⟩ | ⟨E2, e1, hq⟩
    · cases e1
    · cases e1
      have h := hq.2 E4 rfl
      by_cases z5 : E4 = mv_e1
      · replace h := mv_ifT z5 h
        subst z5
        refine ⟨20, ⟨[], ⟨0, 17, 20, 13⟩, [⟨0, 17, 24, 25⟩], rfl, fun _ w => absurd w List.not_mem_nil, rfl, by decide, ⟨mv_e1, cwL_13, cs_mv_e1⟩, rfl⟩, Or.inl ⟨4, dL_dead_20, by decide, ?_⟩⟩
        refine mv_iconst 1 dL_dead_22 (by decide) ?_
        exact mv_iret rfl dL_dead_23 ⟨_, rfl, h⟩
      · replace h := mv_ifF z5 h
        by_cases z6 : E4 = mv_e3
        · replace h := mv_ifT z6 h
          subst z6
          refine ⟨24, ⟨[⟨0, 17, 20, 13⟩], ⟨0, 17, 24, 25⟩, [], rfl, List.forall_mem_cons.mpr ⟨Or.inr ⟨by decide, mv_e1, cwL_13, by decide⟩, fun _ w => absurd w List.not_mem_nil⟩, rfl, by decide, ⟨mv_e3, cwL_25, cs_mv_e3⟩, rfl⟩, Or.inl ⟨4, dL_dead_24, by decide, ?_⟩⟩
          refine mv_iconst 2 dL_dead_26 (by decide) ?_
          exact mv_iret rfl dL_dead_27 ⟨_, rfl, h⟩
        · replace h := mv_ifF z6 h
          exact h.elim
  · rcases hq with ⟨r3, e1, hq⟩ | ⟨_, e1, _⟩
    · cases e1
      have h := hq.1 r3 rfl
      show mv l mL_dead d 0 8 [(0, .ref 0), (1, .int a1), (2, .int a2), (3, .ref 106)] [.int r3, .int 0, .ref 106] M2 (mv_qI Q)
      refine mv_if_eq 15 dL_dead_8 (by decide) (fun z => ?_) (fun z => ?_)
      · replace h := mv_ifT z h
        refine mv_lconst 0 dL_dead_15 (by decide) ?_
        refine mv_sub [] rfl ?_
        exact zL_dead_16 hd hl 0 0 M2 h
      · replace h := mv_ifF z h
        refine mv_lconst 1 dL_dead_11 (by decide) ?_
        refine mv_goto 16 dL_dead_12 (by decide) ?_
        refine mv_sub [] rfl ?_
        exact zL_dead_16 hd hl 1 0 M2 h
    · cases e1
theorem dL_asks_0 : decode cL_asks 0 = .ok (.aload 4, 2) := by decide +kernel
theorem dL_asks_2 : decode cL_asks 2 = .ok (.iconst 0, 1) := by decide +kernel
theorem dL_asks_3 : decode cL_asks 3 = .ok (.aload_n 0, 1) := by decide +kernel
theorem dL_asks_4 : decode cL_asks 4 = .ok (.iload_n 1, 1) := by decide +kernel
theorem dL_asks_5 : decode cL_asks 5 = .ok (.iload_n 2, 1) := by decide +kernel
theorem dL_asks_6 : decode cL_asks 6 = .ok (.iload_n 3, 1) := by decide +kernel
theorem dL_asks_7 : decode cL_asks 7 = .ok (.invokevirtual 35, 3) := by decide +kernel
theorem dL_asks_10 : decode cL_asks 10 = .ok (.i2l, 1) := by decide +kernel
theorem dL_asks_11 : decode cL_asks 11 = .ok (.lastore, 1) := by decide +kernel
theorem dL_asks_12 : decode cL_asks 12 = .ok (.goto 11, 3) := by decide +kernel
theorem dL_asks_15 : decode cL_asks 15 = .ok (.astore 5, 2) := by decide +kernel
theorem dL_asks_17 : decode cL_asks 17 = .ok (.iconst 1, 1) := by decide +kernel
theorem dL_asks_18 : decode cL_asks 18 = .ok (.ireturn, 1) := by decide +kernel
theorem dL_asks_19 : decode cL_asks 19 = .ok (.astore 5, 2) := by decide +kernel
theorem dL_asks_21 : decode cL_asks 21 = .ok (.iconst 2, 1) := by decide +kernel
theorem dL_asks_22 : decode cL_asks 22 = .ok (.ireturn, 1) := by decide +kernel
theorem dL_asks_23 : decode cL_asks 23 = .ok (.iconst 0, 1) := by decide +kernel
theorem dL_asks_24 : decode cL_asks 24 = .ok (.ireturn, 1) := by decide +kernel
noncomputable def fL_asks (a1 : Int32) (a2 : Int32) (a3 : Int32) (M : mv_M) : Option (Int32 × mv_M) :=
  mv_tryx (fX10_asks a1 a2 a3 M) (fun r3 M2 =>
      mv_let (mv_sl M2 106 (0 : Int32).toNatClampNeg (r3.toInt64)) fun M7 =>
      some (0, M7))
    (fun E4 M2 => if E4 = mv_e1 then some (1, M2) else if E4 = mv_e3 then some (2, M2) else none)
set_option maxRecDepth 100000 in
set_option maxHeartbeats 4000000 in
theorem zL_asks {l : Launch} {d : Nat} {Q : Int32 → mv_M → Prop} (hd : 9 ≤ d) (hl : l.stackTraces = false) (a1 : Int32) (a2 : Int32) (a3 : Int32) (M : mv_M) (h : mv_ok (fL_asks a1 a2 a3 M) Q) : mv l mL_asks d 4 0 (lv_args 0 [.ref 0, .int a1, .int a2, .int a3, .ref 106]) [] M (mv_qI Q) := by
  unfold fL_asks at h
  show mv l mL_asks d 4 0 [(0, .ref 0), (1, .int a1), (2, .int a2), (3, .int a3), (4, .ref 106)] [] M (mv_qI Q)
  refine mv_aload 4 dL_asks_0 rfl ?_
  refine mv_iconst 0 dL_asks_2 (by decide) ?_
  refine mv_aload_n 0 dL_asks_3 rfl ?_
  refine mv_iload_n 1 dL_asks_4 rfl ?_
  refine mv_iload_n 2 dL_asks_5 rfl ?_
  refine mv_iload_n 3 dL_asks_6 rfl ?_
  refine mv_try (k' := 4) (k2 := 0) (As := [.int a1, .int a2, .int a3]) (st := [.int 0, .ref 106]) okX10_asks lL_35 (by decide) rfl rfl rfl (Nat.le_of_ble_eq_true rfl) rfl (Nat.le_of_ble_eq_true rfl) dL_asks_7 (by omega) (by omega) (zX10_asks (d := d - 1) (by omega) hl a1 a2 a3 M (mv_tryxE h)) (fun E4 M2 hq => ?_) (fun v M2 hq => ?_)
  · rcases hq with ⟨_, e1, _⟩ | ⟨E2, e1, hq⟩
    · cases e1
    · cases e1
      have h := hq.2 E4 rfl
      by_cases z5 : E4 = mv_e1
      · replace h := mv_ifT z5 h
        subst z5
        refine ⟨15, ⟨[], ⟨0, 12, 15, 13⟩, [⟨0, 12, 19, 25⟩], rfl, fun _ w => absurd w List.not_mem_nil, rfl, by decide, ⟨mv_e1, cwL_13, cs_mv_e1⟩, rfl⟩, Or.inl ⟨5, dL_asks_15, by decide, ?_⟩⟩
        refine mv_iconst 1 dL_asks_17 (by decide) ?_
        exact mv_iret rfl dL_asks_18 ⟨_, rfl, h⟩
      · replace h := mv_ifF z5 h
        by_cases z6 : E4 = mv_e3
        · replace h := mv_ifT z6 h
          subst z6
          refine ⟨19, ⟨[⟨0, 12, 15, 13⟩], ⟨0, 12, 19, 25⟩, [], rfl, List.forall_mem_cons.mpr ⟨Or.inr ⟨by decide, mv_e1, cwL_13, by decide⟩, fun _ w => absurd w List.not_mem_nil⟩, rfl, by decide, ⟨mv_e3, cwL_25, cs_mv_e3⟩, rfl⟩, Or.inl ⟨5, dL_asks_19, by decide, ?_⟩⟩
          refine mv_iconst 2 dL_asks_21 (by decide) ?_
          exact mv_iret rfl dL_asks_22 ⟨_, rfl, h⟩
        · replace h := mv_ifF z6 h
          exact h.elim
  · rcases hq with ⟨r3, e1, hq⟩ | ⟨_, e1, _⟩
    · cases e1
      have h := hq.1 r3 rfl
      show mv l mL_asks d 0 10 [(0, .ref 0), (1, .int a1), (2, .int a2), (3, .int a3), (4, .ref 106)] [.int r3, .int 0, .ref 106] M2 (mv_qI Q)
      refine mv_i2l dL_asks_10 ?_
      refine mv_lst (by decide) rfl (mv_inE (by decide)) dL_asks_11 (fun M7 eM7 => ?_)
      replace h := mv_letE h M7 eM7
      refine mv_goto 23 dL_asks_12 (by decide) ?_
      refine mv_iconst 0 dL_asks_23 (by decide) ?_
      exact mv_iret rfl dL_asks_24 ⟨_, rfl, h⟩
    · cases e1
theorem dL_strict_0 : decode cL_strict 0 = .ok (.aload_n 3, 1) := by decide +kernel
theorem dL_strict_1 : decode cL_strict 1 = .ok (.iconst 0, 1) := by decide +kernel
theorem dL_strict_2 : decode cL_strict 2 = .ok (.aload_n 0, 1) := by decide +kernel
theorem dL_strict_3 : decode cL_strict 3 = .ok (.iload_n 1, 1) := by decide +kernel
theorem dL_strict_4 : decode cL_strict 4 = .ok (.iload_n 2, 1) := by decide +kernel
theorem dL_strict_5 : decode cL_strict 5 = .ok (.invokevirtual 39, 3) := by decide +kernel
theorem dL_strict_8 : decode cL_strict 8 = .ok (.ifCond .eq 7, 3) := by decide +kernel
theorem dL_strict_11 : decode cL_strict 11 = .ok (.lconst 1, 1) := by decide +kernel
theorem dL_strict_12 : decode cL_strict 12 = .ok (.goto 4, 3) := by decide +kernel
theorem dL_strict_15 : decode cL_strict 15 = .ok (.lconst 0, 1) := by decide +kernel
theorem dL_strict_16 : decode cL_strict 16 = .ok (.lastore, 1) := by decide +kernel
theorem dL_strict_17 : decode cL_strict 17 = .ok (.goto 11, 3) := by decide +kernel
theorem dL_strict_20 : decode cL_strict 20 = .ok (.astore 4, 2) := by decide +kernel
theorem dL_strict_22 : decode cL_strict 22 = .ok (.iconst 1, 1) := by decide +kernel
theorem dL_strict_23 : decode cL_strict 23 = .ok (.ireturn, 1) := by decide +kernel
theorem dL_strict_24 : decode cL_strict 24 = .ok (.astore 4, 2) := by decide +kernel
theorem dL_strict_26 : decode cL_strict 26 = .ok (.iconst 2, 1) := by decide +kernel
theorem dL_strict_27 : decode cL_strict 27 = .ok (.ireturn, 1) := by decide +kernel
theorem dL_strict_28 : decode cL_strict 28 = .ok (.iconst 0, 1) := by decide +kernel
theorem dL_strict_29 : decode cL_strict 29 = .ok (.ireturn, 1) := by decide +kernel
noncomputable def fL_strict_16 (s0 : Int64) (s1 : Int32) (M : mv_M) : Option (Int32 × mv_M) :=
  mv_chk (mv_inb s1 1) <|
  mv_let (mv_sl M 106 s1.toNatClampNeg s0) fun M8 =>
  some (0, M8)
set_option maxRecDepth 100000 in
set_option maxHeartbeats 4000000 in
theorem zL_strict_16 {l : Launch} {d : Nat} {Q : Int32 → mv_M → Prop} (hd : 9 ≤ d) (hl : l.stackTraces = false) (s0 : Int64) (s1 : Int32) (M : mv_M) (h : mv_ok (fL_strict_16 s0 s1 M) Q) : mv l mL_strict d 0 16 [] [.long s0, .int s1, .ref 106] M (mv_qI Q) := by
  unfold fL_strict_16 at h
  obtain ⟨hi7, h⟩ := mv_chkE h
  refine mv_lst (by decide) rfl (mv_inE hi7) dL_strict_16 (fun M8 eM8 => ?_)
  replace h := mv_letE h M8 eM8
  refine mv_goto 28 dL_strict_17 (by decide) ?_
  refine mv_iconst 0 dL_strict_28 (by decide) ?_
  exact mv_iret rfl dL_strict_29 ⟨_, rfl, h⟩
noncomputable def fL_strict (a1 : Int32) (a2 : Int32) (M : mv_M) : Option (Int32 × mv_M) :=
  mv_tryx (fX10_strict a1 a2 M) (fun r3 M2 =>
      if r3 = 0 then
        fL_strict_16 0 0 M2
      else
        fL_strict_16 1 0 M2)
    (fun E4 M2 => if E4 = mv_e1 then some (1, M2) else if E4 = mv_e3 then some (2, M2) else none)
set_option maxRecDepth 100000 in
set_option maxHeartbeats 4000000 in
theorem zL_strict {l : Launch} {d : Nat} {Q : Int32 → mv_M → Prop} (hd : 9 ≤ d) (hl : l.stackTraces = false) (a1 : Int32) (a2 : Int32) (M : mv_M) (h : mv_ok (fL_strict a1 a2 M) Q) : mv l mL_strict d 4 0 (lv_args 0 [.ref 0, .int a1, .int a2, .ref 106]) [] M (mv_qI Q) := by
  unfold fL_strict at h
  show mv l mL_strict d 4 0 [(0, .ref 0), (1, .int a1), (2, .int a2), (3, .ref 106)] [] M (mv_qI Q)
  refine mv_aload_n 3 dL_strict_0 rfl ?_
  refine mv_iconst 0 dL_strict_1 (by decide) ?_
  refine mv_aload_n 0 dL_strict_2 rfl ?_
  refine mv_iload_n 1 dL_strict_3 rfl ?_
  refine mv_iload_n 2 dL_strict_4 rfl ?_
  refine mv_try (k' := 4) (k2 := 0) (As := [.int a1, .int a2]) (st := [.int 0, .ref 106]) okX10_strict lL_39 (by decide) rfl rfl rfl (Nat.le_of_ble_eq_true rfl) rfl (Nat.le_of_ble_eq_true rfl) dL_strict_5 (by omega) (by omega) (zX10_strict (d := d - 1) (by omega) hl a1 a2 M (mv_tryxE h)) (fun E4 M2 hq => ?_) (fun v M2 hq => ?_)
  · rcases hq with ⟨_, e1, _⟩ | ⟨E2, e1, hq⟩
    · cases e1
    · cases e1
      have h := hq.2 E4 rfl
      by_cases z5 : E4 = mv_e1
      · replace h := mv_ifT z5 h
        subst z5
        refine ⟨20, ⟨[], ⟨0, 17, 20, 13⟩, [⟨0, 17, 24, 25⟩], rfl, fun _ w => absurd w List.not_mem_nil, rfl, by decide, ⟨mv_e1, cwL_13, cs_mv_e1⟩, rfl⟩, Or.inl ⟨4, dL_strict_20, by decide, ?_⟩⟩
        refine mv_iconst 1 dL_strict_22 (by decide) ?_
        exact mv_iret rfl dL_strict_23 ⟨_, rfl, h⟩
      · replace h := mv_ifF z5 h
        by_cases z6 : E4 = mv_e3
        · replace h := mv_ifT z6 h
          subst z6
          refine ⟨24, ⟨[⟨0, 17, 20, 13⟩], ⟨0, 17, 24, 25⟩, [], rfl, List.forall_mem_cons.mpr ⟨Or.inr ⟨by decide, mv_e1, cwL_13, by decide⟩, fun _ w => absurd w List.not_mem_nil⟩, rfl, by decide, ⟨mv_e3, cwL_25, cs_mv_e3⟩, rfl⟩, Or.inl ⟨4, dL_strict_24, by decide, ?_⟩⟩
          refine mv_iconst 2 dL_strict_26 (by decide) ?_
          exact mv_iret rfl dL_strict_27 ⟨_, rfl, h⟩
        · replace h := mv_ifF z6 h
          exact h.elim
  · rcases hq with ⟨r3, e1, hq⟩ | ⟨_, e1, _⟩
    · cases e1
      have h := hq.1 r3 rfl
      show mv l mL_strict d 0 8 [(0, .ref 0), (1, .int a1), (2, .int a2), (3, .ref 106)] [.int r3, .int 0, .ref 106] M2 (mv_qI Q)
      refine mv_if_eq 15 dL_strict_8 (by decide) (fun z => ?_) (fun z => ?_)
      · replace h := mv_ifT z h
        refine mv_lconst 0 dL_strict_15 (by decide) ?_
        refine mv_sub [] rfl ?_
        exact zL_strict_16 hd hl 0 0 M2 h
      · replace h := mv_ifF z h
        refine mv_lconst 1 dL_strict_11 (by decide) ?_
        refine mv_goto 16 dL_strict_12 (by decide) ?_
        refine mv_sub [] rfl ?_
        exact zL_strict_16 hd hl 1 0 M2 h
    · cases e1
theorem dL_plant_0 : decode cL_plant 0 = .ok (.aload 5, 2) := by decide +kernel
theorem dL_plant_2 : decode cL_plant 2 = .ok (.iconst 0, 1) := by decide +kernel
theorem dL_plant_3 : decode cL_plant 3 = .ok (.aload_n 0, 1) := by decide +kernel
theorem dL_plant_4 : decode cL_plant 4 = .ok (.iload_n 1, 1) := by decide +kernel
theorem dL_plant_5 : decode cL_plant 5 = .ok (.iload_n 2, 1) := by decide +kernel
theorem dL_plant_6 : decode cL_plant 6 = .ok (.iload_n 3, 1) := by decide +kernel
theorem dL_plant_7 : decode cL_plant 7 = .ok (.iload 4, 2) := by decide +kernel
theorem dL_plant_9 : decode cL_plant 9 = .ok (.invokevirtual 42, 3) := by decide +kernel
theorem dL_plant_12 : decode cL_plant 12 = .ok (.i2l, 1) := by decide +kernel
theorem dL_plant_13 : decode cL_plant 13 = .ok (.lastore, 1) := by decide +kernel
theorem dL_plant_14 : decode cL_plant 14 = .ok (.goto 15, 3) := by decide +kernel
theorem dL_plant_17 : decode cL_plant 17 = .ok (.astore 6, 2) := by decide +kernel
theorem dL_plant_19 : decode cL_plant 19 = .ok (.iconst 1, 1) := by decide +kernel
theorem dL_plant_20 : decode cL_plant 20 = .ok (.ireturn, 1) := by decide +kernel
theorem dL_plant_21 : decode cL_plant 21 = .ok (.astore 6, 2) := by decide +kernel
theorem dL_plant_23 : decode cL_plant 23 = .ok (.iconst 2, 1) := by decide +kernel
theorem dL_plant_24 : decode cL_plant 24 = .ok (.ireturn, 1) := by decide +kernel
theorem dL_plant_25 : decode cL_plant 25 = .ok (.astore 6, 2) := by decide +kernel
theorem dL_plant_27 : decode cL_plant 27 = .ok (.iconst 3, 1) := by decide +kernel
theorem dL_plant_28 : decode cL_plant 28 = .ok (.ireturn, 1) := by decide +kernel
theorem dL_plant_29 : decode cL_plant 29 = .ok (.iconst 0, 1) := by decide +kernel
theorem dL_plant_30 : decode cL_plant 30 = .ok (.ireturn, 1) := by decide +kernel
noncomputable def fL_plant (a1 : Int32) (a2 : Int32) (a3 : Int32) (a4 : Int32) (M : mv_M) : Option (Int32 × mv_M) :=
  mv_tryx (fX10_plant a1 a2 a3 a4 M) (fun r3 M2 =>
      mv_let (mv_sl M2 106 (0 : Int32).toNatClampNeg (r3.toInt64)) fun M8 =>
      some (0, M8))
    (fun E4 M2 => if E4 = mv_e1 then some (1, M2) else if E4 = mv_e3 then some (2, M2) else if E4 = mv_e2 then some (3, M2) else none)
set_option maxRecDepth 100000 in
set_option maxHeartbeats 4000000 in
theorem zL_plant {l : Launch} {d : Nat} {Q : Int32 → mv_M → Prop} (hd : 9 ≤ d) (hl : l.stackTraces = false) (a1 : Int32) (a2 : Int32) (a3 : Int32) (a4 : Int32) (M : mv_M) (h : mv_ok (fL_plant a1 a2 a3 a4 M) Q) : mv l mL_plant d 4 0 (lv_args 0 [.ref 0, .int a1, .int a2, .int a3, .int a4, .ref 106]) [] M (mv_qI Q) := by
  unfold fL_plant at h
  show mv l mL_plant d 4 0 [(0, .ref 0), (1, .int a1), (2, .int a2), (3, .int a3), (4, .int a4), (5, .ref 106)] [] M (mv_qI Q)
  refine mv_aload 5 dL_plant_0 rfl ?_
  refine mv_iconst 0 dL_plant_2 (by decide) ?_
  refine mv_aload_n 0 dL_plant_3 rfl ?_
  refine mv_iload_n 1 dL_plant_4 rfl ?_
  refine mv_iload_n 2 dL_plant_5 rfl ?_
  refine mv_iload_n 3 dL_plant_6 rfl ?_
  refine mv_iload 4 dL_plant_7 rfl ?_
  refine mv_try (k' := 4) (k2 := 0) (As := [.int a1, .int a2, .int a3, .int a4]) (st := [.int 0, .ref 106]) okX10_plant lL_42 (by decide) rfl rfl rfl (Nat.le_of_ble_eq_true rfl) rfl (Nat.le_of_ble_eq_true rfl) dL_plant_9 (by omega) (by omega) (zX10_plant (d := d - 1) (by omega) hl a1 a2 a3 a4 M (mv_tryxE h)) (fun E4 M2 hq => ?_) (fun v M2 hq => ?_)
  · rcases hq with ⟨_, e1, _⟩ | ⟨E2, e1, hq⟩
    · cases e1
    · cases e1
      have h := hq.2 E4 rfl
      by_cases z5 : E4 = mv_e1
      · replace h := mv_ifT z5 h
        subst z5
        refine ⟨17, ⟨[], ⟨0, 14, 17, 13⟩, [⟨0, 14, 21, 25⟩, ⟨0, 14, 25, 19⟩], rfl, fun _ w => absurd w List.not_mem_nil, rfl, by decide, ⟨mv_e1, cwL_13, cs_mv_e1⟩, rfl⟩, Or.inl ⟨6, dL_plant_17, by decide, ?_⟩⟩
        refine mv_iconst 1 dL_plant_19 (by decide) ?_
        exact mv_iret rfl dL_plant_20 ⟨_, rfl, h⟩
      · replace h := mv_ifF z5 h
        by_cases z6 : E4 = mv_e3
        · replace h := mv_ifT z6 h
          subst z6
          refine ⟨21, ⟨[⟨0, 14, 17, 13⟩], ⟨0, 14, 21, 25⟩, [⟨0, 14, 25, 19⟩], rfl, List.forall_mem_cons.mpr ⟨Or.inr ⟨by decide, mv_e1, cwL_13, by decide⟩, fun _ w => absurd w List.not_mem_nil⟩, rfl, by decide, ⟨mv_e3, cwL_25, cs_mv_e3⟩, rfl⟩, Or.inl ⟨6, dL_plant_21, by decide, ?_⟩⟩
          refine mv_iconst 2 dL_plant_23 (by decide) ?_
          exact mv_iret rfl dL_plant_24 ⟨_, rfl, h⟩
        · replace h := mv_ifF z6 h
          by_cases z7 : E4 = mv_e2
          · replace h := mv_ifT z7 h
            subst z7
            refine ⟨25, ⟨[⟨0, 14, 17, 13⟩, ⟨0, 14, 21, 25⟩], ⟨0, 14, 25, 19⟩, [], rfl, List.forall_mem_cons.mpr ⟨Or.inr ⟨by decide, mv_e1, cwL_13, by decide⟩, List.forall_mem_cons.mpr ⟨Or.inr ⟨by decide, mv_e3, cwL_25, by decide⟩, fun _ w => absurd w List.not_mem_nil⟩⟩, rfl, by decide, ⟨mv_e2, cwL_19, cs_mv_e2⟩, rfl⟩, Or.inl ⟨6, dL_plant_25, by decide, ?_⟩⟩
            refine mv_iconst 3 dL_plant_27 (by decide) ?_
            exact mv_iret rfl dL_plant_28 ⟨_, rfl, h⟩
          · replace h := mv_ifF z7 h
            exact h.elim
  · rcases hq with ⟨r3, e1, hq⟩ | ⟨_, e1, _⟩
    · cases e1
      have h := hq.1 r3 rfl
      show mv l mL_plant d 0 12 [(0, .ref 0), (1, .int a1), (2, .int a2), (3, .int a3), (4, .int a4), (5, .ref 106)] [.int r3, .int 0, .ref 106] M2 (mv_qI Q)
      refine mv_i2l dL_plant_12 ?_
      refine mv_lst (by decide) rfl (mv_inE (by decide)) dL_plant_13 (fun M8 eM8 => ?_)
      replace h := mv_letE h M8 eM8
      refine mv_goto 29 dL_plant_14 (by decide) ?_
      refine mv_iconst 0 dL_plant_29 (by decide) ?_
      exact mv_iret rfl dL_plant_30 ⟨_, rfl, h⟩
    · cases e1
theorem dL_check_0 : decode cL_check 0 = .ok (.aload_n 1, 1) := by decide +kernel
theorem dL_check_1 : decode cL_check 1 = .ok (.iconst 0, 1) := by decide +kernel
theorem dL_check_2 : decode cL_check 2 = .ok (.aload_n 0, 1) := by decide +kernel
theorem dL_check_3 : decode cL_check 3 = .ok (.invokevirtual 46, 3) := by decide +kernel
theorem dL_check_6 : decode cL_check 6 = .ok (.i2l, 1) := by decide +kernel
theorem dL_check_7 : decode cL_check 7 = .ok (.lastore, 1) := by decide +kernel
theorem dL_check_8 : decode cL_check 8 = .ok (.goto 6, 3) := by decide +kernel
theorem dL_check_11 : decode cL_check 11 = .ok (.astore_n 2, 1) := by decide +kernel
theorem dL_check_12 : decode cL_check 12 = .ok (.iconst 1, 1) := by decide +kernel
theorem dL_check_13 : decode cL_check 13 = .ok (.ireturn, 1) := by decide +kernel
theorem dL_check_14 : decode cL_check 14 = .ok (.iconst 0, 1) := by decide +kernel
theorem dL_check_15 : decode cL_check 15 = .ok (.ireturn, 1) := by decide +kernel
noncomputable def fL_check (M : mv_M) : Option (Int32 × mv_M) :=
  mv_tryx (fX10_check M) (fun r3 M2 =>
      mv_let (mv_sl M2 106 (0 : Int32).toNatClampNeg (r3.toInt64)) fun M6 =>
      some (0, M6))
    (fun E4 M2 => if E4 = mv_e1 then some (1, M2) else none)
set_option maxRecDepth 100000 in
set_option maxHeartbeats 4000000 in
theorem zL_check {l : Launch} {d : Nat} {Q : Int32 → mv_M → Prop} (hd : 341 ≤ d) (hl : l.stackTraces = false) (M : mv_M) (h : mv_ok (fL_check M) Q) : mv l mL_check d 4 0 (lv_args 0 [.ref 0, .ref 106]) [] M (mv_qI Q) := by
  unfold fL_check at h
  show mv l mL_check d 4 0 [(0, .ref 0), (1, .ref 106)] [] M (mv_qI Q)
  refine mv_aload_n 1 dL_check_0 rfl ?_
  refine mv_iconst 0 dL_check_1 (by decide) ?_
  refine mv_aload_n 0 dL_check_2 rfl ?_
  refine mv_try (k' := 4) (k2 := 0) (As := []) (st := [.int 0, .ref 106]) okX10_check lL_46 (by decide) rfl rfl rfl (Nat.le_of_ble_eq_true rfl) rfl (Nat.le_of_ble_eq_true rfl) dL_check_3 (by omega) (by omega) (zX10_check (d := d - 1) (by omega) hl M (mv_tryxE h)) (fun E4 M2 hq => ?_) (fun v M2 hq => ?_)
  · rcases hq with ⟨_, e1, _⟩ | ⟨E2, e1, hq⟩
    · cases e1
    · cases e1
      have h := hq.2 E4 rfl
      by_cases z5 : E4 = mv_e1
      · replace h := mv_ifT z5 h
        subst z5
        refine ⟨11, ⟨[], ⟨0, 8, 11, 13⟩, [], rfl, fun _ w => absurd w List.not_mem_nil, rfl, by decide, ⟨mv_e1, cwL_13, cs_mv_e1⟩, rfl⟩, Or.inr ⟨2, dL_check_11, by decide, ?_⟩⟩
        refine mv_iconst 1 dL_check_12 (by decide) ?_
        exact mv_iret rfl dL_check_13 ⟨_, rfl, h⟩
      · replace h := mv_ifF z5 h
        exact h.elim
  · rcases hq with ⟨r3, e1, hq⟩ | ⟨_, e1, _⟩
    · cases e1
      have h := hq.1 r3 rfl
      show mv l mL_check d 0 6 [(0, .ref 0), (1, .ref 106)] [.int r3, .int 0, .ref 106] M2 (mv_qI Q)
      refine mv_i2l dL_check_6 ?_
      refine mv_lst (by decide) rfl (mv_inE (by decide)) dL_check_7 (fun M6 eM6 => ?_)
      replace h := mv_letE h M6 eM6
      refine mv_goto 14 dL_check_8 (by decide) ?_
      refine mv_iconst 0 dL_check_14 (by decide) ?_
      exact mv_iret rfl dL_check_15 ⟨_, rfl, h⟩
    · cases e1
theorem dL_input_0 : decode cL_input 0 = .ok (.aload_n 3, 1) := by decide +kernel
theorem dL_input_1 : decode cL_input 1 = .ok (.iconst 0, 1) := by decide +kernel
theorem dL_input_2 : decode cL_input 2 = .ok (.aload_n 0, 1) := by decide +kernel
theorem dL_input_3 : decode cL_input 3 = .ok (.iload_n 1, 1) := by decide +kernel
theorem dL_input_4 : decode cL_input 4 = .ok (.iload_n 2, 1) := by decide +kernel
theorem dL_input_5 : decode cL_input 5 = .ok (.invokevirtual 49, 3) := by decide +kernel
theorem dL_input_8 : decode cL_input 8 = .ok (.i2l, 1) := by decide +kernel
theorem dL_input_9 : decode cL_input 9 = .ok (.lastore, 1) := by decide +kernel
theorem dL_input_10 : decode cL_input 10 = .ok (.goto 11, 3) := by decide +kernel
theorem dL_input_13 : decode cL_input 13 = .ok (.astore 4, 2) := by decide +kernel
theorem dL_input_15 : decode cL_input 15 = .ok (.iconst 1, 1) := by decide +kernel
theorem dL_input_16 : decode cL_input 16 = .ok (.ireturn, 1) := by decide +kernel
theorem dL_input_17 : decode cL_input 17 = .ok (.astore 4, 2) := by decide +kernel
theorem dL_input_19 : decode cL_input 19 = .ok (.iconst 2, 1) := by decide +kernel
theorem dL_input_20 : decode cL_input 20 = .ok (.ireturn, 1) := by decide +kernel
theorem dL_input_21 : decode cL_input 21 = .ok (.iconst 0, 1) := by decide +kernel
theorem dL_input_22 : decode cL_input 22 = .ok (.ireturn, 1) := by decide +kernel
noncomputable def fL_input (a1 : Int32) (a2 : Int32) (M : mv_M) : Option (Int32 × mv_M) :=
  mv_tryx (fX10_input a1 a2 M) (fun r3 M2 =>
      mv_let (mv_sl M2 106 (0 : Int32).toNatClampNeg (r3.toInt64)) fun M7 =>
      some (0, M7))
    (fun E4 M2 => if E4 = mv_e2 then some (1, M2) else if E4 = mv_e1 then some (2, M2) else none)
set_option maxRecDepth 100000 in
set_option maxHeartbeats 4000000 in
theorem zL_input {l : Launch} {d : Nat} {Q : Int32 → mv_M → Prop} (hd : 8 ≤ d) (hl : l.stackTraces = false) (a1 : Int32) (a2 : Int32) (M : mv_M) (h : mv_ok (fL_input a1 a2 M) Q) : mv l mL_input d 4 0 (lv_args 0 [.ref 0, .int a1, .int a2, .ref 106]) [] M (mv_qI Q) := by
  unfold fL_input at h
  show mv l mL_input d 4 0 [(0, .ref 0), (1, .int a1), (2, .int a2), (3, .ref 106)] [] M (mv_qI Q)
  refine mv_aload_n 3 dL_input_0 rfl ?_
  refine mv_iconst 0 dL_input_1 (by decide) ?_
  refine mv_aload_n 0 dL_input_2 rfl ?_
  refine mv_iload_n 1 dL_input_3 rfl ?_
  refine mv_iload_n 2 dL_input_4 rfl ?_
  refine mv_try (k' := 4) (k2 := 0) (As := [.int a1, .int a2]) (st := [.int 0, .ref 106]) okX10_input lL_49 (by decide) rfl rfl rfl (Nat.le_of_ble_eq_true rfl) rfl (Nat.le_of_ble_eq_true rfl) dL_input_5 (by omega) (by omega) (zX10_input (d := d - 1) (by omega) hl a1 a2 M (mv_tryxE h)) (fun E4 M2 hq => ?_) (fun v M2 hq => ?_)
  · rcases hq with ⟨_, e1, _⟩ | ⟨E2, e1, hq⟩
    · cases e1
    · cases e1
      have h := hq.2 E4 rfl
      by_cases z5 : E4 = mv_e2
      · replace h := mv_ifT z5 h
        subst z5
        refine ⟨13, ⟨[], ⟨0, 10, 13, 19⟩, [⟨0, 10, 17, 13⟩], rfl, fun _ w => absurd w List.not_mem_nil, rfl, by decide, ⟨mv_e2, cwL_19, cs_mv_e2⟩, rfl⟩, Or.inl ⟨4, dL_input_13, by decide, ?_⟩⟩
        refine mv_iconst 1 dL_input_15 (by decide) ?_
        exact mv_iret rfl dL_input_16 ⟨_, rfl, h⟩
      · replace h := mv_ifF z5 h
        by_cases z6 : E4 = mv_e1
        · replace h := mv_ifT z6 h
          subst z6
          refine ⟨17, ⟨[⟨0, 10, 13, 19⟩], ⟨0, 10, 17, 13⟩, [], rfl, List.forall_mem_cons.mpr ⟨Or.inr ⟨by decide, mv_e2, cwL_19, by decide⟩, fun _ w => absurd w List.not_mem_nil⟩, rfl, by decide, ⟨mv_e1, cwL_13, cs_mv_e1⟩, rfl⟩, Or.inl ⟨4, dL_input_17, by decide, ?_⟩⟩
          refine mv_iconst 2 dL_input_19 (by decide) ?_
          exact mv_iret rfl dL_input_20 ⟨_, rfl, h⟩
        · replace h := mv_ifF z6 h
          exact h.elim
  · rcases hq with ⟨r3, e1, hq⟩ | ⟨_, e1, _⟩
    · cases e1
      have h := hq.1 r3 rfl
      show mv l mL_input d 0 8 [(0, .ref 0), (1, .int a1), (2, .int a2), (3, .ref 106)] [.int r3, .int 0, .ref 106] M2 (mv_qI Q)
      refine mv_i2l dL_input_8 ?_
      refine mv_lst (by decide) rfl (mv_inE (by decide)) dL_input_9 (fun M7 eM7 => ?_)
      replace h := mv_letE h M7 eM7
      refine mv_goto 21 dL_input_10 (by decide) ?_
      refine mv_iconst 0 dL_input_21 (by decide) ?_
      exact mv_iret rfl dL_input_22 ⟨_, rfl, h⟩
    · cases e1
theorem dL_run_0 : decode cL_run 0 = .ok (.aload 4, 2) := by decide +kernel
theorem dL_run_2 : decode cL_run 2 = .ok (.iconst 0, 1) := by decide +kernel
theorem dL_run_3 : decode cL_run 3 = .ok (.aload_n 0, 1) := by decide +kernel
theorem dL_run_4 : decode cL_run 4 = .ok (.iload_n 1, 1) := by decide +kernel
theorem dL_run_5 : decode cL_run 5 = .ok (.iload_n 2, 1) := by decide +kernel
theorem dL_run_6 : decode cL_run 6 = .ok (.iload_n 3, 1) := by decide +kernel
theorem dL_run_7 : decode cL_run 7 = .ok (.invokevirtual 52, 3) := by decide +kernel
theorem dL_run_10 : decode cL_run 10 = .ok (.i2l, 1) := by decide +kernel
theorem dL_run_11 : decode cL_run 11 = .ok (.lastore, 1) := by decide +kernel
theorem dL_run_12 : decode cL_run 12 = .ok (.goto 15, 3) := by decide +kernel
theorem dL_run_15 : decode cL_run 15 = .ok (.astore 5, 2) := by decide +kernel
theorem dL_run_17 : decode cL_run 17 = .ok (.iconst 1, 1) := by decide +kernel
theorem dL_run_18 : decode cL_run 18 = .ok (.ireturn, 1) := by decide +kernel
theorem dL_run_19 : decode cL_run 19 = .ok (.astore 5, 2) := by decide +kernel
theorem dL_run_21 : decode cL_run 21 = .ok (.iconst 2, 1) := by decide +kernel
theorem dL_run_22 : decode cL_run 22 = .ok (.ireturn, 1) := by decide +kernel
theorem dL_run_23 : decode cL_run 23 = .ok (.astore 5, 2) := by decide +kernel
theorem dL_run_25 : decode cL_run 25 = .ok (.iconst 3, 1) := by decide +kernel
theorem dL_run_26 : decode cL_run 26 = .ok (.ireturn, 1) := by decide +kernel
theorem dL_run_27 : decode cL_run 27 = .ok (.iconst 0, 1) := by decide +kernel
theorem dL_run_28 : decode cL_run 28 = .ok (.ireturn, 1) := by decide +kernel
noncomputable def fL_run (a1 : Int32) (a2 : Int32) (a3 : Int32) (M : mv_M) : Option (Int32 × mv_M) :=
  mv_tryx (fX10_run a1 a2 a3 M) (fun r3 M2 =>
      mv_let (mv_sl M2 106 (0 : Int32).toNatClampNeg (r3.toInt64)) fun M8 =>
      some (0, M8))
    (fun E4 M2 => if E4 = mv_e1 then some (1, M2) else if E4 = mv_e3 then some (2, M2) else if E4 = mv_e2 then some (3, M2) else none)
set_option maxRecDepth 100000 in
set_option maxHeartbeats 4000000 in
theorem zL_run {l : Launch} {d : Nat} {Q : Int32 → mv_M → Prop} (hd : 22 ≤ d) (hl : l.stackTraces = false) (a1 : Int32) (a2 : Int32) (a3 : Int32) (M : mv_M) (h : mv_ok (fL_run a1 a2 a3 M) Q) : mv l mL_run d 4 0 (lv_args 0 [.ref 0, .int a1, .int a2, .int a3, .ref 106]) [] M (mv_qI Q) := by
  unfold fL_run at h
  show mv l mL_run d 4 0 [(0, .ref 0), (1, .int a1), (2, .int a2), (3, .int a3), (4, .ref 106)] [] M (mv_qI Q)
  refine mv_aload 4 dL_run_0 rfl ?_
  refine mv_iconst 0 dL_run_2 (by decide) ?_
  refine mv_aload_n 0 dL_run_3 rfl ?_
  refine mv_iload_n 1 dL_run_4 rfl ?_
  refine mv_iload_n 2 dL_run_5 rfl ?_
  refine mv_iload_n 3 dL_run_6 rfl ?_
  refine mv_try (k' := 4) (k2 := 0) (As := [.int a1, .int a2, .int a3]) (st := [.int 0, .ref 106]) okX10_run lL_52 (by decide) rfl rfl rfl (Nat.le_of_ble_eq_true rfl) rfl (Nat.le_of_ble_eq_true rfl) dL_run_7 (by omega) (by omega) (zX10_run (d := d - 1) (by omega) hl a1 a2 a3 M (mv_tryxE h)) (fun E4 M2 hq => ?_) (fun v M2 hq => ?_)
  · rcases hq with ⟨_, e1, _⟩ | ⟨E2, e1, hq⟩
    · cases e1
    · cases e1
      have h := hq.2 E4 rfl
      by_cases z5 : E4 = mv_e1
      · replace h := mv_ifT z5 h
        subst z5
        refine ⟨15, ⟨[], ⟨0, 12, 15, 13⟩, [⟨0, 12, 19, 25⟩, ⟨0, 12, 23, 19⟩], rfl, fun _ w => absurd w List.not_mem_nil, rfl, by decide, ⟨mv_e1, cwL_13, cs_mv_e1⟩, rfl⟩, Or.inl ⟨5, dL_run_15, by decide, ?_⟩⟩
        refine mv_iconst 1 dL_run_17 (by decide) ?_
        exact mv_iret rfl dL_run_18 ⟨_, rfl, h⟩
      · replace h := mv_ifF z5 h
        by_cases z6 : E4 = mv_e3
        · replace h := mv_ifT z6 h
          subst z6
          refine ⟨19, ⟨[⟨0, 12, 15, 13⟩], ⟨0, 12, 19, 25⟩, [⟨0, 12, 23, 19⟩], rfl, List.forall_mem_cons.mpr ⟨Or.inr ⟨by decide, mv_e1, cwL_13, by decide⟩, fun _ w => absurd w List.not_mem_nil⟩, rfl, by decide, ⟨mv_e3, cwL_25, cs_mv_e3⟩, rfl⟩, Or.inl ⟨5, dL_run_19, by decide, ?_⟩⟩
          refine mv_iconst 2 dL_run_21 (by decide) ?_
          exact mv_iret rfl dL_run_22 ⟨_, rfl, h⟩
        · replace h := mv_ifF z6 h
          by_cases z7 : E4 = mv_e2
          · replace h := mv_ifT z7 h
            subst z7
            refine ⟨23, ⟨[⟨0, 12, 15, 13⟩, ⟨0, 12, 19, 25⟩], ⟨0, 12, 23, 19⟩, [], rfl, List.forall_mem_cons.mpr ⟨Or.inr ⟨by decide, mv_e1, cwL_13, by decide⟩, List.forall_mem_cons.mpr ⟨Or.inr ⟨by decide, mv_e3, cwL_25, by decide⟩, fun _ w => absurd w List.not_mem_nil⟩⟩, rfl, by decide, ⟨mv_e2, cwL_19, cs_mv_e2⟩, rfl⟩, Or.inl ⟨5, dL_run_23, by decide, ?_⟩⟩
            refine mv_iconst 3 dL_run_25 (by decide) ?_
            exact mv_iret rfl dL_run_26 ⟨_, rfl, h⟩
          · replace h := mv_ifF z7 h
            exact h.elim
  · rcases hq with ⟨r3, e1, hq⟩ | ⟨_, e1, _⟩
    · cases e1
      have h := hq.1 r3 rfl
      show mv l mL_run d 0 10 [(0, .ref 0), (1, .int a1), (2, .int a2), (3, .int a3), (4, .ref 106)] [.int r3, .int 0, .ref 106] M2 (mv_qI Q)
      refine mv_i2l dL_run_10 ?_
      refine mv_lst (by decide) rfl (mv_inE (by decide)) dL_run_11 (fun M8 eM8 => ?_)
      replace h := mv_letE h M8 eM8
      refine mv_goto 27 dL_run_12 (by decide) ?_
      refine mv_iconst 0 dL_run_27 (by decide) ?_
      exact mv_iret rfl dL_run_28 ⟨_, rfl, h⟩
    · cases e1
theorem dL_told_0 : decode cL_told 0 = .ok (.aload_n 2, 1) := by decide +kernel
theorem dL_told_1 : decode cL_told 1 = .ok (.iconst 0, 1) := by decide +kernel
theorem dL_told_2 : decode cL_told 2 = .ok (.aload_n 0, 1) := by decide +kernel
theorem dL_told_3 : decode cL_told 3 = .ok (.iload_n 1, 1) := by decide +kernel
theorem dL_told_4 : decode cL_told 4 = .ok (.invokevirtual 55, 3) := by decide +kernel
theorem dL_told_7 : decode cL_told 7 = .ok (.i2l, 1) := by decide +kernel
theorem dL_told_8 : decode cL_told 8 = .ok (.lastore, 1) := by decide +kernel
theorem dL_told_9 : decode cL_told 9 = .ok (.goto 6, 3) := by decide +kernel
theorem dL_told_12 : decode cL_told 12 = .ok (.astore_n 3, 1) := by decide +kernel
theorem dL_told_13 : decode cL_told 13 = .ok (.iconst 1, 1) := by decide +kernel
theorem dL_told_14 : decode cL_told 14 = .ok (.ireturn, 1) := by decide +kernel
theorem dL_told_15 : decode cL_told 15 = .ok (.iconst 0, 1) := by decide +kernel
theorem dL_told_16 : decode cL_told 16 = .ok (.ireturn, 1) := by decide +kernel
noncomputable def fL_told (a1 : Int32) (M : mv_M) : Option (Int32 × mv_M) :=
  mv_tryx (fX10_told a1 M) (fun r3 M2 =>
      mv_let (mv_sl M2 106 (0 : Int32).toNatClampNeg (r3.toInt64)) fun M6 =>
      some (0, M6))
    (fun E4 M2 => if E4 = mv_e3 then some (1, M2) else none)
set_option maxRecDepth 100000 in
set_option maxHeartbeats 4000000 in
theorem zL_told {l : Launch} {d : Nat} {Q : Int32 → mv_M → Prop} (hd : 8 ≤ d) (hl : l.stackTraces = false) (a1 : Int32) (M : mv_M) (h : mv_ok (fL_told a1 M) Q) : mv l mL_told d 4 0 (lv_args 0 [.ref 0, .int a1, .ref 106]) [] M (mv_qI Q) := by
  unfold fL_told at h
  show mv l mL_told d 4 0 [(0, .ref 0), (1, .int a1), (2, .ref 106)] [] M (mv_qI Q)
  refine mv_aload_n 2 dL_told_0 rfl ?_
  refine mv_iconst 0 dL_told_1 (by decide) ?_
  refine mv_aload_n 0 dL_told_2 rfl ?_
  refine mv_iload_n 1 dL_told_3 rfl ?_
  refine mv_try (k' := 4) (k2 := 0) (As := [.int a1]) (st := [.int 0, .ref 106]) okX10_told lL_55 (by decide) rfl rfl rfl (Nat.le_of_ble_eq_true rfl) rfl (Nat.le_of_ble_eq_true rfl) dL_told_4 (by omega) (by omega) (zX10_told (d := d - 1) (by omega) hl a1 M (mv_tryxE h)) (fun E4 M2 hq => ?_) (fun v M2 hq => ?_)
  · rcases hq with ⟨_, e1, _⟩ | ⟨E2, e1, hq⟩
    · cases e1
    · cases e1
      have h := hq.2 E4 rfl
      by_cases z5 : E4 = mv_e3
      · replace h := mv_ifT z5 h
        subst z5
        refine ⟨12, ⟨[], ⟨0, 9, 12, 25⟩, [], rfl, fun _ w => absurd w List.not_mem_nil, rfl, by decide, ⟨mv_e3, cwL_25, cs_mv_e3⟩, rfl⟩, Or.inr ⟨3, dL_told_12, by decide, ?_⟩⟩
        refine mv_iconst 1 dL_told_13 (by decide) ?_
        exact mv_iret rfl dL_told_14 ⟨_, rfl, h⟩
      · replace h := mv_ifF z5 h
        exact h.elim
  · rcases hq with ⟨r3, e1, hq⟩ | ⟨_, e1, _⟩
    · cases e1
      have h := hq.1 r3 rfl
      show mv l mL_told d 0 7 [(0, .ref 0), (1, .int a1), (2, .ref 106)] [.int r3, .int 0, .ref 106] M2 (mv_qI Q)
      refine mv_i2l dL_told_7 ?_
      refine mv_lst (by decide) rfl (mv_inE (by decide)) dL_told_8 (fun M6 eM6 => ?_)
      replace h := mv_letE h M6 eM6
      refine mv_goto 15 dL_told_9 (by decide) ?_
      refine mv_iconst 0 dL_told_15 (by decide) ?_
      exact mv_iret rfl dL_told_16 ⟨_, rfl, h⟩
    · cases e1
theorem dL_result_0 : decode cL_result 0 = .ok (.aload_n 2, 1) := by decide +kernel
theorem dL_result_1 : decode cL_result 1 = .ok (.iconst 0, 1) := by decide +kernel
theorem dL_result_2 : decode cL_result 2 = .ok (.aload_n 0, 1) := by decide +kernel
theorem dL_result_3 : decode cL_result 3 = .ok (.iload_n 1, 1) := by decide +kernel
theorem dL_result_4 : decode cL_result 4 = .ok (.invokevirtual 58, 3) := by decide +kernel
theorem dL_result_7 : decode cL_result 7 = .ok (.i2l, 1) := by decide +kernel
theorem dL_result_8 : decode cL_result 8 = .ok (.lastore, 1) := by decide +kernel
theorem dL_result_9 : decode cL_result 9 = .ok (.goto 6, 3) := by decide +kernel
theorem dL_result_12 : decode cL_result 12 = .ok (.astore_n 3, 1) := by decide +kernel
theorem dL_result_13 : decode cL_result 13 = .ok (.iconst 1, 1) := by decide +kernel
theorem dL_result_14 : decode cL_result 14 = .ok (.ireturn, 1) := by decide +kernel
theorem dL_result_15 : decode cL_result 15 = .ok (.iconst 0, 1) := by decide +kernel
theorem dL_result_16 : decode cL_result 16 = .ok (.ireturn, 1) := by decide +kernel
noncomputable def fL_result (a1 : Int32) (M : mv_M) : Option (Int32 × mv_M) :=
  mv_tryx (fX10_result a1 M) (fun r3 M2 =>
      mv_let (mv_sl M2 106 (0 : Int32).toNatClampNeg (r3.toInt64)) fun M6 =>
      some (0, M6))
    (fun E4 M2 => if E4 = mv_e3 then some (1, M2) else none)
set_option maxRecDepth 100000 in
set_option maxHeartbeats 4000000 in
theorem zL_result {l : Launch} {d : Nat} {Q : Int32 → mv_M → Prop} (hd : 18 ≤ d) (hl : l.stackTraces = false) (a1 : Int32) (M : mv_M) (h : mv_ok (fL_result a1 M) Q) : mv l mL_result d 4 0 (lv_args 0 [.ref 0, .int a1, .ref 106]) [] M (mv_qI Q) := by
  unfold fL_result at h
  show mv l mL_result d 4 0 [(0, .ref 0), (1, .int a1), (2, .ref 106)] [] M (mv_qI Q)
  refine mv_aload_n 2 dL_result_0 rfl ?_
  refine mv_iconst 0 dL_result_1 (by decide) ?_
  refine mv_aload_n 0 dL_result_2 rfl ?_
  refine mv_iload_n 1 dL_result_3 rfl ?_
  refine mv_try (k' := 4) (k2 := 0) (As := [.int a1]) (st := [.int 0, .ref 106]) okX10_result lL_58 (by decide) rfl rfl rfl (Nat.le_of_ble_eq_true rfl) rfl (Nat.le_of_ble_eq_true rfl) dL_result_4 (by omega) (by omega) (zX10_result (d := d - 1) (by omega) hl a1 M (mv_tryxE h)) (fun E4 M2 hq => ?_) (fun v M2 hq => ?_)
  · rcases hq with ⟨_, e1, _⟩ | ⟨E2, e1, hq⟩
    · cases e1
    · cases e1
      have h := hq.2 E4 rfl
      by_cases z5 : E4 = mv_e3
      · replace h := mv_ifT z5 h
        subst z5
        refine ⟨12, ⟨[], ⟨0, 9, 12, 25⟩, [], rfl, fun _ w => absurd w List.not_mem_nil, rfl, by decide, ⟨mv_e3, cwL_25, cs_mv_e3⟩, rfl⟩, Or.inr ⟨3, dL_result_12, by decide, ?_⟩⟩
        refine mv_iconst 1 dL_result_13 (by decide) ?_
        exact mv_iret rfl dL_result_14 ⟨_, rfl, h⟩
      · replace h := mv_ifF z5 h
        exact h.elim
  · rcases hq with ⟨r3, e1, hq⟩ | ⟨_, e1, _⟩
    · cases e1
      have h := hq.1 r3 rfl
      show mv l mL_result d 0 7 [(0, .ref 0), (1, .int a1), (2, .ref 106)] [.int r3, .int 0, .ref 106] M2 (mv_qI Q)
      refine mv_i2l dL_result_7 ?_
      refine mv_lst (by decide) rfl (mv_inE (by decide)) dL_result_8 (fun M6 eM6 => ?_)
      replace h := mv_letE h M6 eM6
      refine mv_goto 15 dL_result_9 (by decide) ?_
      refine mv_iconst 0 dL_result_15 (by decide) ?_
      exact mv_iret rfl dL_result_16 ⟨_, rfl, h⟩
    · cases e1
theorem dL_needed_0 : decode cL_needed 0 = .ok (.aload_n 2, 1) := by decide +kernel
theorem dL_needed_1 : decode cL_needed 1 = .ok (.iconst 0, 1) := by decide +kernel
theorem dL_needed_2 : decode cL_needed 2 = .ok (.aload_n 0, 1) := by decide +kernel
theorem dL_needed_3 : decode cL_needed 3 = .ok (.iload_n 1, 1) := by decide +kernel
theorem dL_needed_4 : decode cL_needed 4 = .ok (.invokevirtual 61, 3) := by decide +kernel
theorem dL_needed_7 : decode cL_needed 7 = .ok (.ifCond .eq 7, 3) := by decide +kernel
theorem dL_needed_10 : decode cL_needed 10 = .ok (.lconst 1, 1) := by decide +kernel
theorem dL_needed_11 : decode cL_needed 11 = .ok (.goto 4, 3) := by decide +kernel
theorem dL_needed_14 : decode cL_needed 14 = .ok (.lconst 0, 1) := by decide +kernel
theorem dL_needed_15 : decode cL_needed 15 = .ok (.lastore, 1) := by decide +kernel
theorem dL_needed_16 : decode cL_needed 16 = .ok (.goto 6, 3) := by decide +kernel
theorem dL_needed_19 : decode cL_needed 19 = .ok (.astore_n 3, 1) := by decide +kernel
theorem dL_needed_20 : decode cL_needed 20 = .ok (.iconst 1, 1) := by decide +kernel
theorem dL_needed_21 : decode cL_needed 21 = .ok (.ireturn, 1) := by decide +kernel
theorem dL_needed_22 : decode cL_needed 22 = .ok (.iconst 0, 1) := by decide +kernel
theorem dL_needed_23 : decode cL_needed 23 = .ok (.ireturn, 1) := by decide +kernel
noncomputable def fL_needed_15 (s0 : Int64) (s1 : Int32) (M : mv_M) : Option (Int32 × mv_M) :=
  mv_chk (mv_inb s1 1) <|
  mv_let (mv_sl M 106 s1.toNatClampNeg s0) fun M7 =>
  some (0, M7)
set_option maxRecDepth 100000 in
set_option maxHeartbeats 4000000 in
theorem zL_needed_15 {l : Launch} {d : Nat} {Q : Int32 → mv_M → Prop} (hd : 8 ≤ d) (hl : l.stackTraces = false) (s0 : Int64) (s1 : Int32) (M : mv_M) (h : mv_ok (fL_needed_15 s0 s1 M) Q) : mv l mL_needed d 0 15 [] [.long s0, .int s1, .ref 106] M (mv_qI Q) := by
  unfold fL_needed_15 at h
  obtain ⟨hi6, h⟩ := mv_chkE h
  refine mv_lst (by decide) rfl (mv_inE hi6) dL_needed_15 (fun M7 eM7 => ?_)
  replace h := mv_letE h M7 eM7
  refine mv_goto 22 dL_needed_16 (by decide) ?_
  refine mv_iconst 0 dL_needed_22 (by decide) ?_
  exact mv_iret rfl dL_needed_23 ⟨_, rfl, h⟩
noncomputable def fL_needed (a1 : Int32) (M : mv_M) : Option (Int32 × mv_M) :=
  mv_tryx (fX10_needed a1 M) (fun r3 M2 =>
      if r3 = 0 then
        fL_needed_15 0 0 M2
      else
        fL_needed_15 1 0 M2)
    (fun E4 M2 => if E4 = mv_e3 then some (1, M2) else none)
set_option maxRecDepth 100000 in
set_option maxHeartbeats 4000000 in
theorem zL_needed {l : Launch} {d : Nat} {Q : Int32 → mv_M → Prop} (hd : 8 ≤ d) (hl : l.stackTraces = false) (a1 : Int32) (M : mv_M) (h : mv_ok (fL_needed a1 M) Q) : mv l mL_needed d 4 0 (lv_args 0 [.ref 0, .int a1, .ref 106]) [] M (mv_qI Q) := by
  unfold fL_needed at h
  show mv l mL_needed d 4 0 [(0, .ref 0), (1, .int a1), (2, .ref 106)] [] M (mv_qI Q)
  refine mv_aload_n 2 dL_needed_0 rfl ?_
  refine mv_iconst 0 dL_needed_1 (by decide) ?_
  refine mv_aload_n 0 dL_needed_2 rfl ?_
  refine mv_iload_n 1 dL_needed_3 rfl ?_
  refine mv_try (k' := 4) (k2 := 0) (As := [.int a1]) (st := [.int 0, .ref 106]) okX10_needed lL_61 (by decide) rfl rfl rfl (Nat.le_of_ble_eq_true rfl) rfl (Nat.le_of_ble_eq_true rfl) dL_needed_4 (by omega) (by omega) (zX10_needed (d := d - 1) (by omega) hl a1 M (mv_tryxE h)) (fun E4 M2 hq => ?_) (fun v M2 hq => ?_)
  · rcases hq with ⟨_, e1, _⟩ | ⟨E2, e1, hq⟩
    · cases e1
    · cases e1
      have h := hq.2 E4 rfl
      by_cases z5 : E4 = mv_e3
      · replace h := mv_ifT z5 h
        subst z5
        refine ⟨19, ⟨[], ⟨0, 16, 19, 25⟩, [], rfl, fun _ w => absurd w List.not_mem_nil, rfl, by decide, ⟨mv_e3, cwL_25, cs_mv_e3⟩, rfl⟩, Or.inr ⟨3, dL_needed_19, by decide, ?_⟩⟩
        refine mv_iconst 1 dL_needed_20 (by decide) ?_
        exact mv_iret rfl dL_needed_21 ⟨_, rfl, h⟩
      · replace h := mv_ifF z5 h
        exact h.elim
  · rcases hq with ⟨r3, e1, hq⟩ | ⟨_, e1, _⟩
    · cases e1
      have h := hq.1 r3 rfl
      show mv l mL_needed d 0 7 [(0, .ref 0), (1, .int a1), (2, .ref 106)] [.int r3, .int 0, .ref 106] M2 (mv_qI Q)
      refine mv_if_eq 14 dL_needed_7 (by decide) (fun z => ?_) (fun z => ?_)
      · replace h := mv_ifT z h
        refine mv_lconst 0 dL_needed_14 (by decide) ?_
        refine mv_sub [] rfl ?_
        exact zL_needed_15 hd hl 0 0 M2 h
      · replace h := mv_ifF z h
        refine mv_lconst 1 dL_needed_10 (by decide) ?_
        refine mv_goto 15 dL_needed_11 (by decide) ?_
        refine mv_sub [] rfl ?_
        exact zL_needed_15 hd hl 1 0 M2 h
    · cases e1
theorem dL_law_20 : decode cL_law 20 = .ok (.iconst 0, 1) := by decide +kernel
theorem dL_law_21 : decode cL_law 21 = .ok (.istore 4, 2) := by decide +kernel
theorem dL_law_23 : decode cL_law 23 = .ok (.iload 4, 2) := by decide +kernel
theorem dL_law_25 : decode cL_law 25 = .ok (.aload_n 0, 1) := by decide +kernel
theorem dL_law_26 : decode cL_law 26 = .ok (.arraylength, 1) := by decide +kernel
theorem dL_law_27 : decode cL_law 27 = .ok (.bipush 6, 2) := by decide +kernel
theorem dL_law_29 : decode cL_law 29 = .ok (.isub, 1) := by decide +kernel
theorem dL_law_30 : decode cL_law 30 = .ok (.if_icmp .gt 1083, 3) := by decide +kernel
theorem dL_law_33 : decode cL_law 33 = .ok (.aload_n 0, 1) := by decide +kernel
theorem dL_law_34 : decode cL_law 34 = .ok (.iload 4, 2) := by decide +kernel
theorem dL_law_36 : decode cL_law 36 = .ok (.iaload, 1) := by decide +kernel
theorem dL_law_37 : decode cL_law 37 = .ok (.bipush 15, 2) := by decide +kernel
theorem dL_law_39 : decode cL_law 39 = .ok (.iand, 1) := by decide +kernel
theorem dL_law_40 : decode cL_law 40 = .ok (.tableswitch 1067 0 15 #[80, 184, 240, 253, 266, 334, 378, 453, 533, 608, 700, 744, 812, 892, 948, 1004], 80) := by decide +kernel
theorem dL_law_120 : decode cL_law 120 = .ok (.aload_n 1, 1) := by decide +kernel
theorem dL_law_121 : decode cL_law 121 = .ok (.aload_n 0, 1) := by decide +kernel
theorem dL_law_122 : decode cL_law 122 = .ok (.iload 4, 2) := by decide +kernel
theorem dL_law_124 : decode cL_law 124 = .ok (.iconst 1, 1) := by decide +kernel
theorem dL_law_125 : decode cL_law 125 = .ok (.iadd, 1) := by decide +kernel
theorem dL_law_126 : decode cL_law 126 = .ok (.iaload, 1) := by decide +kernel
theorem dL_law_127 : decode cL_law 127 = .ok (.aload_n 0, 1) := by decide +kernel
theorem dL_law_128 : decode cL_law 128 = .ok (.iload 4, 2) := by decide +kernel
theorem dL_law_130 : decode cL_law 130 = .ok (.iconst 2, 1) := by decide +kernel
theorem dL_law_131 : decode cL_law 131 = .ok (.iadd, 1) := by decide +kernel
theorem dL_law_132 : decode cL_law 132 = .ok (.iaload, 1) := by decide +kernel
theorem dL_law_133 : decode cL_law 133 = .ok (.aload_n 0, 1) := by decide +kernel
theorem dL_law_134 : decode cL_law 134 = .ok (.iload 4, 2) := by decide +kernel
theorem dL_law_136 : decode cL_law 136 = .ok (.iconst 3, 1) := by decide +kernel
theorem dL_law_137 : decode cL_law 137 = .ok (.iadd, 1) := by decide +kernel
theorem dL_law_138 : decode cL_law 138 = .ok (.iaload, 1) := by decide +kernel
theorem dL_law_139 : decode cL_law 139 = .ok (.aload_n 0, 1) := by decide +kernel
theorem dL_law_140 : decode cL_law 140 = .ok (.iload 4, 2) := by decide +kernel
theorem dL_law_142 : decode cL_law 142 = .ok (.iconst 4, 1) := by decide +kernel
theorem dL_law_143 : decode cL_law 143 = .ok (.iadd, 1) := by decide +kernel
theorem dL_law_144 : decode cL_law 144 = .ok (.iaload, 1) := by decide +kernel
theorem dL_law_145 : decode cL_law 145 = .ok (.aload_n 0, 1) := by decide +kernel
theorem dL_law_146 : decode cL_law 146 = .ok (.iload 4, 2) := by decide +kernel
theorem dL_law_148 : decode cL_law 148 = .ok (.iconst 5, 1) := by decide +kernel
theorem dL_law_149 : decode cL_law 149 = .ok (.iadd, 1) := by decide +kernel
theorem dL_law_150 : decode cL_law 150 = .ok (.iaload, 1) := by decide +kernel
theorem dL_law_151 : decode cL_law 151 = .ok (.aload_n 3, 1) := by decide +kernel
theorem dL_law_152 : decode cL_law 152 = .ok (.invokestatic 69, 3) := by decide +kernel
theorem dL_law_155 : decode cL_law 155 = .ok (.istore 5, 2) := by decide +kernel
theorem dL_law_157 : decode cL_law 157 = .ok (.aload_n 2, 1) := by decide +kernel
theorem dL_law_158 : decode cL_law 158 = .ok (.aload_n 0, 1) := by decide +kernel
theorem dL_law_159 : decode cL_law 159 = .ok (.iload 4, 2) := by decide +kernel
theorem dL_law_161 : decode cL_law 161 = .ok (.iconst 1, 1) := by decide +kernel
theorem dL_law_162 : decode cL_law 162 = .ok (.iadd, 1) := by decide +kernel
theorem dL_law_163 : decode cL_law 163 = .ok (.iaload, 1) := by decide +kernel
theorem dL_law_164 : decode cL_law 164 = .ok (.aload_n 0, 1) := by decide +kernel
theorem dL_law_165 : decode cL_law 165 = .ok (.iload 4, 2) := by decide +kernel
theorem dL_law_167 : decode cL_law 167 = .ok (.iconst 2, 1) := by decide +kernel
theorem dL_law_168 : decode cL_law 168 = .ok (.iadd, 1) := by decide +kernel
theorem dL_law_169 : decode cL_law 169 = .ok (.iaload, 1) := by decide +kernel
theorem dL_law_170 : decode cL_law 170 = .ok (.aload_n 0, 1) := by decide +kernel
theorem dL_law_171 : decode cL_law 171 = .ok (.iload 4, 2) := by decide +kernel
theorem dL_law_173 : decode cL_law 173 = .ok (.iconst 3, 1) := by decide +kernel
theorem dL_law_174 : decode cL_law 174 = .ok (.iadd, 1) := by decide +kernel
theorem dL_law_175 : decode cL_law 175 = .ok (.iaload, 1) := by decide +kernel
theorem dL_law_176 : decode cL_law 176 = .ok (.aload_n 0, 1) := by decide +kernel
theorem dL_law_177 : decode cL_law 177 = .ok (.iload 4, 2) := by decide +kernel
theorem dL_law_179 : decode cL_law 179 = .ok (.iconst 4, 1) := by decide +kernel
theorem dL_law_180 : decode cL_law 180 = .ok (.iadd, 1) := by decide +kernel
theorem dL_law_181 : decode cL_law 181 = .ok (.iaload, 1) := by decide +kernel
theorem dL_law_182 : decode cL_law 182 = .ok (.aload_n 0, 1) := by decide +kernel
theorem dL_law_183 : decode cL_law 183 = .ok (.iload 4, 2) := by decide +kernel
theorem dL_law_185 : decode cL_law 185 = .ok (.iconst 5, 1) := by decide +kernel
theorem dL_law_186 : decode cL_law 186 = .ok (.iadd, 1) := by decide +kernel
theorem dL_law_187 : decode cL_law 187 = .ok (.iaload, 1) := by decide +kernel
theorem dL_law_188 : decode cL_law 188 = .ok (.invokevirtual 74, 3) := by decide +kernel
theorem dL_law_191 : decode cL_law 191 = .ok (.istore 6, 2) := by decide +kernel
theorem dL_law_193 : decode cL_law 193 = .ok (.aload_n 2, 1) := by decide +kernel
theorem dL_law_194 : decode cL_law 194 = .ok (.invokevirtual 75, 3) := by decide +kernel
theorem dL_law_197 : decode cL_law 197 = .ok (.iload 5, 2) := by decide +kernel
theorem dL_law_199 : decode cL_law 199 = .ok (.if_icmp .eq 5, 3) := by decide +kernel
theorem dL_law_202 : decode cL_law 202 = .ok (.iconst 0, 1) := by decide +kernel
theorem dL_law_203 : decode cL_law 203 = .ok (.ireturn, 1) := by decide +kernel
theorem dL_law_204 : decode cL_law 204 = .ok (.iload 5, 2) := by decide +kernel
theorem dL_law_206 : decode cL_law 206 = .ok (.ifCond .ne 15, 3) := by decide +kernel
theorem dL_law_209 : decode cL_law 209 = .ok (.aload_n 3, 1) := by decide +kernel
theorem dL_law_210 : decode cL_law 210 = .ok (.iconst 0, 1) := by decide +kernel
theorem dL_law_211 : decode cL_law 211 = .ok (.laload, 1) := by decide +kernel
theorem dL_law_212 : decode cL_law 212 = .ok (.iload 6, 2) := by decide +kernel
theorem dL_law_214 : decode cL_law 214 = .ok (.i2l, 1) := by decide +kernel
theorem dL_law_215 : decode cL_law 215 = .ok (.lcmp, 1) := by decide +kernel
theorem dL_law_216 : decode cL_law 216 = .ok (.ifCond .eq 5, 3) := by decide +kernel
theorem dL_law_219 : decode cL_law 219 = .ok (.iconst 0, 1) := by decide +kernel
theorem dL_law_220 : decode cL_law 220 = .ok (.ireturn, 1) := by decide +kernel
theorem dL_law_221 : decode cL_law 221 = .ok (.goto 886, 3) := by decide +kernel
theorem dL_law_224 : decode cL_law 224 = .ok (.aload_n 1, 1) := by decide +kernel
theorem dL_law_225 : decode cL_law 225 = .ok (.aload_n 0, 1) := by decide +kernel
theorem dL_law_226 : decode cL_law 226 = .ok (.iload 4, 2) := by decide +kernel
theorem dL_law_228 : decode cL_law 228 = .ok (.iconst 1, 1) := by decide +kernel
theorem dL_law_229 : decode cL_law 229 = .ok (.iadd, 1) := by decide +kernel
theorem dL_law_230 : decode cL_law 230 = .ok (.iaload, 1) := by decide +kernel
theorem dL_law_231 : decode cL_law 231 = .ok (.aload_n 3, 1) := by decide +kernel
theorem dL_law_232 : decode cL_law 232 = .ok (.invokestatic 78, 3) := by decide +kernel
theorem dL_law_235 : decode cL_law 235 = .ok (.istore 5, 2) := by decide +kernel
theorem dL_law_237 : decode cL_law 237 = .ok (.aload_n 2, 1) := by decide +kernel
theorem dL_law_238 : decode cL_law 238 = .ok (.aload_n 0, 1) := by decide +kernel
theorem dL_law_239 : decode cL_law 239 = .ok (.iload 4, 2) := by decide +kernel
theorem dL_law_241 : decode cL_law 241 = .ok (.iconst 1, 1) := by decide +kernel
theorem dL_law_242 : decode cL_law 242 = .ok (.iadd, 1) := by decide +kernel
theorem dL_law_243 : decode cL_law 243 = .ok (.iaload, 1) := by decide +kernel
theorem dL_law_244 : decode cL_law 244 = .ok (.invokevirtual 81, 3) := by decide +kernel
theorem dL_law_247 : decode cL_law 247 = .ok (.istore 6, 2) := by decide +kernel
theorem dL_law_249 : decode cL_law 249 = .ok (.aload_n 2, 1) := by decide +kernel
theorem dL_law_250 : decode cL_law 250 = .ok (.invokevirtual 75, 3) := by decide +kernel
theorem dL_law_253 : decode cL_law 253 = .ok (.iload 5, 2) := by decide +kernel
theorem dL_law_255 : decode cL_law 255 = .ok (.if_icmp .eq 5, 3) := by decide +kernel
theorem dL_law_258 : decode cL_law 258 = .ok (.iconst 0, 1) := by decide +kernel
theorem dL_law_259 : decode cL_law 259 = .ok (.ireturn, 1) := by decide +kernel
theorem dL_law_260 : decode cL_law 260 = .ok (.iload 5, 2) := by decide +kernel
theorem dL_law_262 : decode cL_law 262 = .ok (.ifCond .ne 15, 3) := by decide +kernel
theorem dL_law_265 : decode cL_law 265 = .ok (.aload_n 3, 1) := by decide +kernel
theorem dL_law_266 : decode cL_law 266 = .ok (.iconst 0, 1) := by decide +kernel
theorem dL_law_267 : decode cL_law 267 = .ok (.laload, 1) := by decide +kernel
theorem dL_law_268 : decode cL_law 268 = .ok (.iload 6, 2) := by decide +kernel
theorem dL_law_270 : decode cL_law 270 = .ok (.i2l, 1) := by decide +kernel
theorem dL_law_271 : decode cL_law 271 = .ok (.lcmp, 1) := by decide +kernel
theorem dL_law_272 : decode cL_law 272 = .ok (.ifCond .eq 5, 3) := by decide +kernel
theorem dL_law_275 : decode cL_law 275 = .ok (.iconst 0, 1) := by decide +kernel
theorem dL_law_276 : decode cL_law 276 = .ok (.ireturn, 1) := by decide +kernel
theorem dL_law_277 : decode cL_law 277 = .ok (.goto 830, 3) := by decide +kernel
theorem dL_law_280 : decode cL_law 280 = .ok (.aload_n 1, 1) := by decide +kernel
theorem dL_law_281 : decode cL_law 281 = .ok (.invokevirtual 82, 3) := by decide +kernel
theorem dL_law_284 : decode cL_law 284 = .ok (.aload_n 2, 1) := by decide +kernel
theorem dL_law_285 : decode cL_law 285 = .ok (.invokevirtual 85, 3) := by decide +kernel
theorem dL_law_288 : decode cL_law 288 = .ok (.if_icmp .eq 819, 3) := by decide +kernel
theorem dL_law_291 : decode cL_law 291 = .ok (.iconst 0, 1) := by decide +kernel
theorem dL_law_292 : decode cL_law 292 = .ok (.ireturn, 1) := by decide +kernel
theorem dL_law_293 : decode cL_law 293 = .ok (.aload_n 1, 1) := by decide +kernel
theorem dL_law_294 : decode cL_law 294 = .ok (.invokevirtual 86, 3) := by decide +kernel
theorem dL_law_297 : decode cL_law 297 = .ok (.aload_n 2, 1) := by decide +kernel
theorem dL_law_298 : decode cL_law 298 = .ok (.invokevirtual 89, 3) := by decide +kernel
theorem dL_law_301 : decode cL_law 301 = .ok (.if_icmp .eq 806, 3) := by decide +kernel
theorem dL_law_304 : decode cL_law 304 = .ok (.iconst 0, 1) := by decide +kernel
theorem dL_law_305 : decode cL_law 305 = .ok (.ireturn, 1) := by decide +kernel
theorem dL_law_306 : decode cL_law 306 = .ok (.aload_n 1, 1) := by decide +kernel
theorem dL_law_307 : decode cL_law 307 = .ok (.aload_n 0, 1) := by decide +kernel
theorem dL_law_308 : decode cL_law 308 = .ok (.iload 4, 2) := by decide +kernel
theorem dL_law_310 : decode cL_law 310 = .ok (.iconst 1, 1) := by decide +kernel
theorem dL_law_311 : decode cL_law 311 = .ok (.iadd, 1) := by decide +kernel
theorem dL_law_312 : decode cL_law 312 = .ok (.iaload, 1) := by decide +kernel
theorem dL_law_313 : decode cL_law 313 = .ok (.aload_n 0, 1) := by decide +kernel
theorem dL_law_314 : decode cL_law 314 = .ok (.iload 4, 2) := by decide +kernel
theorem dL_law_316 : decode cL_law 316 = .ok (.iconst 2, 1) := by decide +kernel
theorem dL_law_317 : decode cL_law 317 = .ok (.iadd, 1) := by decide +kernel
theorem dL_law_318 : decode cL_law 318 = .ok (.iaload, 1) := by decide +kernel
theorem dL_law_319 : decode cL_law 319 = .ok (.aload_n 3, 1) := by decide +kernel
theorem dL_law_320 : decode cL_law 320 = .ok (.invokestatic 90, 3) := by decide +kernel
theorem dL_law_323 : decode cL_law 323 = .ok (.istore 5, 2) := by decide +kernel
theorem dL_law_325 : decode cL_law 325 = .ok (.aload_n 2, 1) := by decide +kernel
theorem dL_law_326 : decode cL_law 326 = .ok (.aload_n 0, 1) := by decide +kernel
theorem dL_law_327 : decode cL_law 327 = .ok (.iload 4, 2) := by decide +kernel
theorem dL_law_329 : decode cL_law 329 = .ok (.iconst 1, 1) := by decide +kernel
theorem dL_law_330 : decode cL_law 330 = .ok (.iadd, 1) := by decide +kernel
theorem dL_law_331 : decode cL_law 331 = .ok (.iaload, 1) := by decide +kernel
theorem dL_law_332 : decode cL_law 332 = .ok (.aload_n 0, 1) := by decide +kernel
theorem dL_law_333 : decode cL_law 333 = .ok (.iload 4, 2) := by decide +kernel
theorem dL_law_335 : decode cL_law 335 = .ok (.iconst 2, 1) := by decide +kernel
theorem dL_law_336 : decode cL_law 336 = .ok (.iadd, 1) := by decide +kernel
theorem dL_law_337 : decode cL_law 337 = .ok (.iaload, 1) := by decide +kernel
theorem dL_law_338 : decode cL_law 338 = .ok (.invokevirtual 93, 3) := by decide +kernel
theorem dL_law_341 : decode cL_law 341 = .ok (.istore 6, 2) := by decide +kernel
theorem dL_law_343 : decode cL_law 343 = .ok (.aload_n 2, 1) := by decide +kernel
theorem dL_law_344 : decode cL_law 344 = .ok (.invokevirtual 75, 3) := by decide +kernel
theorem dL_law_347 : decode cL_law 347 = .ok (.iload 5, 2) := by decide +kernel
theorem dL_law_349 : decode cL_law 349 = .ok (.if_icmp .eq 5, 3) := by decide +kernel
theorem dL_law_352 : decode cL_law 352 = .ok (.iconst 0, 1) := by decide +kernel
theorem dL_law_353 : decode cL_law 353 = .ok (.ireturn, 1) := by decide +kernel
theorem dL_law_354 : decode cL_law 354 = .ok (.iload 5, 2) := by decide +kernel
theorem dL_law_356 : decode cL_law 356 = .ok (.ifCond .ne 15, 3) := by decide +kernel
theorem dL_law_359 : decode cL_law 359 = .ok (.aload_n 3, 1) := by decide +kernel
theorem dL_law_360 : decode cL_law 360 = .ok (.iconst 0, 1) := by decide +kernel
theorem dL_law_361 : decode cL_law 361 = .ok (.laload, 1) := by decide +kernel
theorem dL_law_362 : decode cL_law 362 = .ok (.iload 6, 2) := by decide +kernel
theorem dL_law_364 : decode cL_law 364 = .ok (.i2l, 1) := by decide +kernel
theorem dL_law_365 : decode cL_law 365 = .ok (.lcmp, 1) := by decide +kernel
theorem dL_law_366 : decode cL_law 366 = .ok (.ifCond .eq 5, 3) := by decide +kernel
theorem dL_law_369 : decode cL_law 369 = .ok (.iconst 0, 1) := by decide +kernel
theorem dL_law_370 : decode cL_law 370 = .ok (.ireturn, 1) := by decide +kernel
theorem dL_law_371 : decode cL_law 371 = .ok (.goto 736, 3) := by decide +kernel
theorem dL_law_374 : decode cL_law 374 = .ok (.aload_n 1, 1) := by decide +kernel
theorem dL_law_375 : decode cL_law 375 = .ok (.aload_n 3, 1) := by decide +kernel
theorem dL_law_376 : decode cL_law 376 = .ok (.invokestatic 94, 3) := by decide +kernel
theorem dL_law_379 : decode cL_law 379 = .ok (.istore 5, 2) := by decide +kernel
theorem dL_law_381 : decode cL_law 381 = .ok (.aload_n 2, 1) := by decide +kernel
theorem dL_law_382 : decode cL_law 382 = .ok (.invokevirtual 97, 3) := by decide +kernel
theorem dL_law_385 : decode cL_law 385 = .ok (.istore 6, 2) := by decide +kernel
theorem dL_law_387 : decode cL_law 387 = .ok (.aload_n 2, 1) := by decide +kernel
theorem dL_law_388 : decode cL_law 388 = .ok (.invokevirtual 75, 3) := by decide +kernel
theorem dL_law_391 : decode cL_law 391 = .ok (.iload 5, 2) := by decide +kernel
theorem dL_law_393 : decode cL_law 393 = .ok (.if_icmp .eq 5, 3) := by decide +kernel
theorem dL_law_396 : decode cL_law 396 = .ok (.iconst 0, 1) := by decide +kernel
theorem dL_law_397 : decode cL_law 397 = .ok (.ireturn, 1) := by decide +kernel
theorem dL_law_398 : decode cL_law 398 = .ok (.iload 5, 2) := by decide +kernel
theorem dL_law_400 : decode cL_law 400 = .ok (.ifCond .ne 15, 3) := by decide +kernel
theorem dL_law_403 : decode cL_law 403 = .ok (.aload_n 3, 1) := by decide +kernel
theorem dL_law_404 : decode cL_law 404 = .ok (.iconst 0, 1) := by decide +kernel
theorem dL_law_405 : decode cL_law 405 = .ok (.laload, 1) := by decide +kernel
theorem dL_law_406 : decode cL_law 406 = .ok (.iload 6, 2) := by decide +kernel
theorem dL_law_408 : decode cL_law 408 = .ok (.i2l, 1) := by decide +kernel
theorem dL_law_409 : decode cL_law 409 = .ok (.lcmp, 1) := by decide +kernel
theorem dL_law_410 : decode cL_law 410 = .ok (.ifCond .eq 5, 3) := by decide +kernel
theorem dL_law_413 : decode cL_law 413 = .ok (.iconst 0, 1) := by decide +kernel
theorem dL_law_414 : decode cL_law 414 = .ok (.ireturn, 1) := by decide +kernel
theorem dL_law_415 : decode cL_law 415 = .ok (.goto 692, 3) := by decide +kernel
theorem dL_law_418 : decode cL_law 418 = .ok (.aload_n 1, 1) := by decide +kernel
theorem dL_law_419 : decode cL_law 419 = .ok (.aload_n 0, 1) := by decide +kernel
theorem dL_law_420 : decode cL_law 420 = .ok (.iload 4, 2) := by decide +kernel
theorem dL_law_422 : decode cL_law 422 = .ok (.iconst 1, 1) := by decide +kernel
theorem dL_law_423 : decode cL_law 423 = .ok (.iadd, 1) := by decide +kernel
theorem dL_law_424 : decode cL_law 424 = .ok (.iaload, 1) := by decide +kernel
theorem dL_law_425 : decode cL_law 425 = .ok (.aload_n 0, 1) := by decide +kernel
theorem dL_law_426 : decode cL_law 426 = .ok (.iload 4, 2) := by decide +kernel
theorem dL_law_428 : decode cL_law 428 = .ok (.iconst 2, 1) := by decide +kernel
theorem dL_law_429 : decode cL_law 429 = .ok (.iadd, 1) := by decide +kernel
theorem dL_law_430 : decode cL_law 430 = .ok (.iaload, 1) := by decide +kernel
theorem dL_law_431 : decode cL_law 431 = .ok (.aload_n 3, 1) := by decide +kernel
theorem dL_law_432 : decode cL_law 432 = .ok (.invokestatic 98, 3) := by decide +kernel
theorem dL_law_435 : decode cL_law 435 = .ok (.istore 5, 2) := by decide +kernel
theorem dL_law_437 : decode cL_law 437 = .ok (.aload_n 2, 1) := by decide +kernel
theorem dL_law_438 : decode cL_law 438 = .ok (.aload_n 0, 1) := by decide +kernel
theorem dL_law_439 : decode cL_law 439 = .ok (.iload 4, 2) := by decide +kernel
theorem dL_law_441 : decode cL_law 441 = .ok (.iconst 1, 1) := by decide +kernel
theorem dL_law_442 : decode cL_law 442 = .ok (.iadd, 1) := by decide +kernel
theorem dL_law_443 : decode cL_law 443 = .ok (.iaload, 1) := by decide +kernel
theorem dL_law_444 : decode cL_law 444 = .ok (.aload_n 0, 1) := by decide +kernel
theorem dL_law_445 : decode cL_law 445 = .ok (.iload 4, 2) := by decide +kernel
theorem dL_law_447 : decode cL_law 447 = .ok (.iconst 2, 1) := by decide +kernel
theorem dL_law_448 : decode cL_law 448 = .ok (.iadd, 1) := by decide +kernel
theorem dL_law_449 : decode cL_law 449 = .ok (.iaload, 1) := by decide +kernel
theorem dL_law_450 : decode cL_law 450 = .ok (.invokevirtual 100, 3) := by decide +kernel
theorem dL_law_453 : decode cL_law 453 = .ok (.istore 6, 2) := by decide +kernel
theorem dL_law_455 : decode cL_law 455 = .ok (.aload_n 2, 1) := by decide +kernel
theorem dL_law_456 : decode cL_law 456 = .ok (.invokevirtual 75, 3) := by decide +kernel
theorem dL_law_459 : decode cL_law 459 = .ok (.iload 5, 2) := by decide +kernel
theorem dL_law_461 : decode cL_law 461 = .ok (.if_icmp .eq 5, 3) := by decide +kernel
theorem dL_law_464 : decode cL_law 464 = .ok (.iconst 0, 1) := by decide +kernel
theorem dL_law_465 : decode cL_law 465 = .ok (.ireturn, 1) := by decide +kernel
theorem dL_law_466 : decode cL_law 466 = .ok (.iload 5, 2) := by decide +kernel
theorem dL_law_468 : decode cL_law 468 = .ok (.ifCond .ne 22, 3) := by decide +kernel
theorem dL_law_471 : decode cL_law 471 = .ok (.aload_n 3, 1) := by decide +kernel
theorem dL_law_472 : decode cL_law 472 = .ok (.iconst 0, 1) := by decide +kernel
theorem dL_law_473 : decode cL_law 473 = .ok (.laload, 1) := by decide +kernel
theorem dL_law_474 : decode cL_law 474 = .ok (.iload 6, 2) := by decide +kernel
theorem dL_law_476 : decode cL_law 476 = .ok (.ifCond .eq 7, 3) := by decide +kernel
theorem dL_law_479 : decode cL_law 479 = .ok (.lconst 1, 1) := by decide +kernel
theorem dL_law_480 : decode cL_law 480 = .ok (.goto 4, 3) := by decide +kernel
theorem dL_law_483 : decode cL_law 483 = .ok (.lconst 0, 1) := by decide +kernel
theorem dL_law_484 : decode cL_law 484 = .ok (.lcmp, 1) := by decide +kernel
theorem dL_law_485 : decode cL_law 485 = .ok (.ifCond .eq 5, 3) := by decide +kernel
theorem dL_law_488 : decode cL_law 488 = .ok (.iconst 0, 1) := by decide +kernel
theorem dL_law_489 : decode cL_law 489 = .ok (.ireturn, 1) := by decide +kernel
theorem dL_law_490 : decode cL_law 490 = .ok (.goto 617, 3) := by decide +kernel
theorem dL_law_493 : decode cL_law 493 = .ok (.aload_n 1, 1) := by decide +kernel
theorem dL_law_494 : decode cL_law 494 = .ok (.aload_n 0, 1) := by decide +kernel
theorem dL_law_495 : decode cL_law 495 = .ok (.iload 4, 2) := by decide +kernel
theorem dL_law_497 : decode cL_law 497 = .ok (.iconst 1, 1) := by decide +kernel
theorem dL_law_498 : decode cL_law 498 = .ok (.iadd, 1) := by decide +kernel
theorem dL_law_499 : decode cL_law 499 = .ok (.iaload, 1) := by decide +kernel
theorem dL_law_500 : decode cL_law 500 = .ok (.aload_n 0, 1) := by decide +kernel
theorem dL_law_501 : decode cL_law 501 = .ok (.iload 4, 2) := by decide +kernel
theorem dL_law_503 : decode cL_law 503 = .ok (.iconst 2, 1) := by decide +kernel
theorem dL_law_504 : decode cL_law 504 = .ok (.iadd, 1) := by decide +kernel
theorem dL_law_505 : decode cL_law 505 = .ok (.iaload, 1) := by decide +kernel
theorem dL_law_506 : decode cL_law 506 = .ok (.aload_n 0, 1) := by decide +kernel
theorem dL_law_507 : decode cL_law 507 = .ok (.iload 4, 2) := by decide +kernel
theorem dL_law_509 : decode cL_law 509 = .ok (.iconst 3, 1) := by decide +kernel
theorem dL_law_510 : decode cL_law 510 = .ok (.iadd, 1) := by decide +kernel
theorem dL_law_511 : decode cL_law 511 = .ok (.iaload, 1) := by decide +kernel
theorem dL_law_512 : decode cL_law 512 = .ok (.aload_n 3, 1) := by decide +kernel
theorem dL_law_513 : decode cL_law 513 = .ok (.invokestatic 101, 3) := by decide +kernel
theorem dL_law_516 : decode cL_law 516 = .ok (.istore 5, 2) := by decide +kernel
theorem dL_law_518 : decode cL_law 518 = .ok (.aload_n 2, 1) := by decide +kernel
theorem dL_law_519 : decode cL_law 519 = .ok (.aload_n 0, 1) := by decide +kernel
theorem dL_law_520 : decode cL_law 520 = .ok (.iload 4, 2) := by decide +kernel
theorem dL_law_522 : decode cL_law 522 = .ok (.iconst 1, 1) := by decide +kernel
theorem dL_law_523 : decode cL_law 523 = .ok (.iadd, 1) := by decide +kernel
theorem dL_law_524 : decode cL_law 524 = .ok (.iaload, 1) := by decide +kernel
theorem dL_law_525 : decode cL_law 525 = .ok (.aload_n 0, 1) := by decide +kernel
theorem dL_law_526 : decode cL_law 526 = .ok (.iload 4, 2) := by decide +kernel
theorem dL_law_528 : decode cL_law 528 = .ok (.iconst 2, 1) := by decide +kernel
theorem dL_law_529 : decode cL_law 529 = .ok (.iadd, 1) := by decide +kernel
theorem dL_law_530 : decode cL_law 530 = .ok (.iaload, 1) := by decide +kernel
theorem dL_law_531 : decode cL_law 531 = .ok (.aload_n 0, 1) := by decide +kernel
theorem dL_law_532 : decode cL_law 532 = .ok (.iload 4, 2) := by decide +kernel
theorem dL_law_534 : decode cL_law 534 = .ok (.iconst 3, 1) := by decide +kernel
theorem dL_law_535 : decode cL_law 535 = .ok (.iadd, 1) := by decide +kernel
theorem dL_law_536 : decode cL_law 536 = .ok (.iaload, 1) := by decide +kernel
theorem dL_law_537 : decode cL_law 537 = .ok (.invokevirtual 104, 3) := by decide +kernel
theorem dL_law_540 : decode cL_law 540 = .ok (.istore 6, 2) := by decide +kernel
theorem dL_law_542 : decode cL_law 542 = .ok (.aload_n 2, 1) := by decide +kernel
theorem dL_law_543 : decode cL_law 543 = .ok (.invokevirtual 75, 3) := by decide +kernel
theorem dL_law_546 : decode cL_law 546 = .ok (.iload 5, 2) := by decide +kernel
theorem dL_law_548 : decode cL_law 548 = .ok (.if_icmp .eq 5, 3) := by decide +kernel
theorem dL_law_551 : decode cL_law 551 = .ok (.iconst 0, 1) := by decide +kernel
theorem dL_law_552 : decode cL_law 552 = .ok (.ireturn, 1) := by decide +kernel
theorem dL_law_553 : decode cL_law 553 = .ok (.iload 5, 2) := by decide +kernel
theorem dL_law_555 : decode cL_law 555 = .ok (.ifCond .ne 15, 3) := by decide +kernel
theorem dL_law_558 : decode cL_law 558 = .ok (.aload_n 3, 1) := by decide +kernel
theorem dL_law_559 : decode cL_law 559 = .ok (.iconst 0, 1) := by decide +kernel
theorem dL_law_560 : decode cL_law 560 = .ok (.laload, 1) := by decide +kernel
theorem dL_law_561 : decode cL_law 561 = .ok (.iload 6, 2) := by decide +kernel
theorem dL_law_563 : decode cL_law 563 = .ok (.i2l, 1) := by decide +kernel
theorem dL_law_564 : decode cL_law 564 = .ok (.lcmp, 1) := by decide +kernel
theorem dL_law_565 : decode cL_law 565 = .ok (.ifCond .eq 5, 3) := by decide +kernel
theorem dL_law_568 : decode cL_law 568 = .ok (.iconst 0, 1) := by decide +kernel
theorem dL_law_569 : decode cL_law 569 = .ok (.ireturn, 1) := by decide +kernel
theorem dL_law_570 : decode cL_law 570 = .ok (.goto 537, 3) := by decide +kernel
theorem dL_law_573 : decode cL_law 573 = .ok (.aload_n 1, 1) := by decide +kernel
theorem dL_law_574 : decode cL_law 574 = .ok (.aload_n 0, 1) := by decide +kernel
theorem dL_law_575 : decode cL_law 575 = .ok (.iload 4, 2) := by decide +kernel
theorem dL_law_577 : decode cL_law 577 = .ok (.iconst 1, 1) := by decide +kernel
theorem dL_law_578 : decode cL_law 578 = .ok (.iadd, 1) := by decide +kernel
theorem dL_law_579 : decode cL_law 579 = .ok (.iaload, 1) := by decide +kernel
theorem dL_law_580 : decode cL_law 580 = .ok (.aload_n 0, 1) := by decide +kernel
theorem dL_law_581 : decode cL_law 581 = .ok (.iload 4, 2) := by decide +kernel
theorem dL_law_583 : decode cL_law 583 = .ok (.iconst 2, 1) := by decide +kernel
theorem dL_law_584 : decode cL_law 584 = .ok (.iadd, 1) := by decide +kernel
theorem dL_law_585 : decode cL_law 585 = .ok (.iaload, 1) := by decide +kernel
theorem dL_law_586 : decode cL_law 586 = .ok (.aload_n 3, 1) := by decide +kernel
theorem dL_law_587 : decode cL_law 587 = .ok (.invokestatic 105, 3) := by decide +kernel
theorem dL_law_590 : decode cL_law 590 = .ok (.istore 5, 2) := by decide +kernel
theorem dL_law_592 : decode cL_law 592 = .ok (.aload_n 2, 1) := by decide +kernel
theorem dL_law_593 : decode cL_law 593 = .ok (.aload_n 0, 1) := by decide +kernel
theorem dL_law_594 : decode cL_law 594 = .ok (.iload 4, 2) := by decide +kernel
theorem dL_law_596 : decode cL_law 596 = .ok (.iconst 1, 1) := by decide +kernel
theorem dL_law_597 : decode cL_law 597 = .ok (.iadd, 1) := by decide +kernel
theorem dL_law_598 : decode cL_law 598 = .ok (.iaload, 1) := by decide +kernel
theorem dL_law_599 : decode cL_law 599 = .ok (.aload_n 0, 1) := by decide +kernel
theorem dL_law_600 : decode cL_law 600 = .ok (.iload 4, 2) := by decide +kernel
theorem dL_law_602 : decode cL_law 602 = .ok (.iconst 2, 1) := by decide +kernel
theorem dL_law_603 : decode cL_law 603 = .ok (.iadd, 1) := by decide +kernel
theorem dL_law_604 : decode cL_law 604 = .ok (.iaload, 1) := by decide +kernel
theorem dL_law_605 : decode cL_law 605 = .ok (.invokevirtual 107, 3) := by decide +kernel
theorem dL_law_608 : decode cL_law 608 = .ok (.istore 6, 2) := by decide +kernel
theorem dL_law_610 : decode cL_law 610 = .ok (.aload_n 2, 1) := by decide +kernel
theorem dL_law_611 : decode cL_law 611 = .ok (.invokevirtual 75, 3) := by decide +kernel
theorem dL_law_614 : decode cL_law 614 = .ok (.iload 5, 2) := by decide +kernel
theorem dL_law_616 : decode cL_law 616 = .ok (.if_icmp .eq 5, 3) := by decide +kernel
theorem dL_law_619 : decode cL_law 619 = .ok (.iconst 0, 1) := by decide +kernel
theorem dL_law_620 : decode cL_law 620 = .ok (.ireturn, 1) := by decide +kernel
theorem dL_law_621 : decode cL_law 621 = .ok (.iload 5, 2) := by decide +kernel
theorem dL_law_623 : decode cL_law 623 = .ok (.ifCond .ne 22, 3) := by decide +kernel
theorem dL_law_626 : decode cL_law 626 = .ok (.aload_n 3, 1) := by decide +kernel
theorem dL_law_627 : decode cL_law 627 = .ok (.iconst 0, 1) := by decide +kernel
theorem dL_law_628 : decode cL_law 628 = .ok (.laload, 1) := by decide +kernel
theorem dL_law_629 : decode cL_law 629 = .ok (.iload 6, 2) := by decide +kernel
theorem dL_law_631 : decode cL_law 631 = .ok (.ifCond .eq 7, 3) := by decide +kernel
theorem dL_law_634 : decode cL_law 634 = .ok (.lconst 1, 1) := by decide +kernel
theorem dL_law_635 : decode cL_law 635 = .ok (.goto 4, 3) := by decide +kernel
theorem dL_law_638 : decode cL_law 638 = .ok (.lconst 0, 1) := by decide +kernel
theorem dL_law_639 : decode cL_law 639 = .ok (.lcmp, 1) := by decide +kernel
theorem dL_law_640 : decode cL_law 640 = .ok (.ifCond .eq 5, 3) := by decide +kernel
theorem dL_law_643 : decode cL_law 643 = .ok (.iconst 0, 1) := by decide +kernel
theorem dL_law_644 : decode cL_law 644 = .ok (.ireturn, 1) := by decide +kernel
theorem dL_law_645 : decode cL_law 645 = .ok (.goto 462, 3) := by decide +kernel
theorem dL_law_648 : decode cL_law 648 = .ok (.aload_n 1, 1) := by decide +kernel
theorem dL_law_649 : decode cL_law 649 = .ok (.aload_n 0, 1) := by decide +kernel
theorem dL_law_650 : decode cL_law 650 = .ok (.iload 4, 2) := by decide +kernel
theorem dL_law_652 : decode cL_law 652 = .ok (.iconst 1, 1) := by decide +kernel
theorem dL_law_653 : decode cL_law 653 = .ok (.iadd, 1) := by decide +kernel
theorem dL_law_654 : decode cL_law 654 = .ok (.iaload, 1) := by decide +kernel
theorem dL_law_655 : decode cL_law 655 = .ok (.aload_n 0, 1) := by decide +kernel
theorem dL_law_656 : decode cL_law 656 = .ok (.iload 4, 2) := by decide +kernel
theorem dL_law_658 : decode cL_law 658 = .ok (.iconst 2, 1) := by decide +kernel
theorem dL_law_659 : decode cL_law 659 = .ok (.iadd, 1) := by decide +kernel
theorem dL_law_660 : decode cL_law 660 = .ok (.iaload, 1) := by decide +kernel
theorem dL_law_661 : decode cL_law 661 = .ok (.aload_n 0, 1) := by decide +kernel
theorem dL_law_662 : decode cL_law 662 = .ok (.iload 4, 2) := by decide +kernel
theorem dL_law_664 : decode cL_law 664 = .ok (.iconst 3, 1) := by decide +kernel
theorem dL_law_665 : decode cL_law 665 = .ok (.iadd, 1) := by decide +kernel
theorem dL_law_666 : decode cL_law 666 = .ok (.iaload, 1) := by decide +kernel
theorem dL_law_667 : decode cL_law 667 = .ok (.aload_n 0, 1) := by decide +kernel
theorem dL_law_668 : decode cL_law 668 = .ok (.iload 4, 2) := by decide +kernel
theorem dL_law_670 : decode cL_law 670 = .ok (.iconst 4, 1) := by decide +kernel
theorem dL_law_671 : decode cL_law 671 = .ok (.iadd, 1) := by decide +kernel
theorem dL_law_672 : decode cL_law 672 = .ok (.iaload, 1) := by decide +kernel
theorem dL_law_673 : decode cL_law 673 = .ok (.aload_n 3, 1) := by decide +kernel
theorem dL_law_674 : decode cL_law 674 = .ok (.invokestatic 108, 3) := by decide +kernel
theorem dL_law_677 : decode cL_law 677 = .ok (.istore 5, 2) := by decide +kernel
theorem dL_law_679 : decode cL_law 679 = .ok (.aload_n 2, 1) := by decide +kernel
theorem dL_law_680 : decode cL_law 680 = .ok (.aload_n 0, 1) := by decide +kernel
theorem dL_law_681 : decode cL_law 681 = .ok (.iload 4, 2) := by decide +kernel
theorem dL_law_683 : decode cL_law 683 = .ok (.iconst 1, 1) := by decide +kernel
theorem dL_law_684 : decode cL_law 684 = .ok (.iadd, 1) := by decide +kernel
theorem dL_law_685 : decode cL_law 685 = .ok (.iaload, 1) := by decide +kernel
theorem dL_law_686 : decode cL_law 686 = .ok (.aload_n 0, 1) := by decide +kernel
theorem dL_law_687 : decode cL_law 687 = .ok (.iload 4, 2) := by decide +kernel
theorem dL_law_689 : decode cL_law 689 = .ok (.iconst 2, 1) := by decide +kernel
theorem dL_law_690 : decode cL_law 690 = .ok (.iadd, 1) := by decide +kernel
theorem dL_law_691 : decode cL_law 691 = .ok (.iaload, 1) := by decide +kernel
theorem dL_law_692 : decode cL_law 692 = .ok (.aload_n 0, 1) := by decide +kernel
theorem dL_law_693 : decode cL_law 693 = .ok (.iload 4, 2) := by decide +kernel
theorem dL_law_695 : decode cL_law 695 = .ok (.iconst 3, 1) := by decide +kernel
theorem dL_law_696 : decode cL_law 696 = .ok (.iadd, 1) := by decide +kernel
theorem dL_law_697 : decode cL_law 697 = .ok (.iaload, 1) := by decide +kernel
theorem dL_law_698 : decode cL_law 698 = .ok (.aload_n 0, 1) := by decide +kernel
theorem dL_law_699 : decode cL_law 699 = .ok (.iload 4, 2) := by decide +kernel
theorem dL_law_701 : decode cL_law 701 = .ok (.iconst 4, 1) := by decide +kernel
theorem dL_law_702 : decode cL_law 702 = .ok (.iadd, 1) := by decide +kernel
theorem dL_law_703 : decode cL_law 703 = .ok (.iaload, 1) := by decide +kernel
theorem dL_law_704 : decode cL_law 704 = .ok (.invokevirtual 111, 3) := by decide +kernel
theorem dL_law_707 : decode cL_law 707 = .ok (.istore 6, 2) := by decide +kernel
theorem dL_law_709 : decode cL_law 709 = .ok (.aload_n 2, 1) := by decide +kernel
theorem dL_law_710 : decode cL_law 710 = .ok (.invokevirtual 75, 3) := by decide +kernel
theorem dL_law_713 : decode cL_law 713 = .ok (.iload 5, 2) := by decide +kernel
theorem dL_law_715 : decode cL_law 715 = .ok (.if_icmp .eq 5, 3) := by decide +kernel
theorem dL_law_718 : decode cL_law 718 = .ok (.iconst 0, 1) := by decide +kernel
theorem dL_law_719 : decode cL_law 719 = .ok (.ireturn, 1) := by decide +kernel
theorem dL_law_720 : decode cL_law 720 = .ok (.iload 5, 2) := by decide +kernel
theorem dL_law_722 : decode cL_law 722 = .ok (.ifCond .ne 15, 3) := by decide +kernel
theorem dL_law_725 : decode cL_law 725 = .ok (.aload_n 3, 1) := by decide +kernel
theorem dL_law_726 : decode cL_law 726 = .ok (.iconst 0, 1) := by decide +kernel
theorem dL_law_727 : decode cL_law 727 = .ok (.laload, 1) := by decide +kernel
theorem dL_law_728 : decode cL_law 728 = .ok (.iload 6, 2) := by decide +kernel
theorem dL_law_730 : decode cL_law 730 = .ok (.i2l, 1) := by decide +kernel
theorem dL_law_731 : decode cL_law 731 = .ok (.lcmp, 1) := by decide +kernel
theorem dL_law_732 : decode cL_law 732 = .ok (.ifCond .eq 5, 3) := by decide +kernel
theorem dL_law_735 : decode cL_law 735 = .ok (.iconst 0, 1) := by decide +kernel
theorem dL_law_736 : decode cL_law 736 = .ok (.ireturn, 1) := by decide +kernel
theorem dL_law_737 : decode cL_law 737 = .ok (.goto 370, 3) := by decide +kernel
theorem dL_law_740 : decode cL_law 740 = .ok (.aload_n 1, 1) := by decide +kernel
theorem dL_law_741 : decode cL_law 741 = .ok (.aload_n 3, 1) := by decide +kernel
theorem dL_law_742 : decode cL_law 742 = .ok (.invokestatic 112, 3) := by decide +kernel
theorem dL_law_745 : decode cL_law 745 = .ok (.istore 5, 2) := by decide +kernel
theorem dL_law_747 : decode cL_law 747 = .ok (.aload_n 2, 1) := by decide +kernel
theorem dL_law_748 : decode cL_law 748 = .ok (.invokevirtual 114, 3) := by decide +kernel
theorem dL_law_751 : decode cL_law 751 = .ok (.istore 6, 2) := by decide +kernel
theorem dL_law_753 : decode cL_law 753 = .ok (.aload_n 2, 1) := by decide +kernel
theorem dL_law_754 : decode cL_law 754 = .ok (.invokevirtual 75, 3) := by decide +kernel
theorem dL_law_757 : decode cL_law 757 = .ok (.iload 5, 2) := by decide +kernel
theorem dL_law_759 : decode cL_law 759 = .ok (.if_icmp .eq 5, 3) := by decide +kernel
theorem dL_law_762 : decode cL_law 762 = .ok (.iconst 0, 1) := by decide +kernel
theorem dL_law_763 : decode cL_law 763 = .ok (.ireturn, 1) := by decide +kernel
theorem dL_law_764 : decode cL_law 764 = .ok (.iload 5, 2) := by decide +kernel
theorem dL_law_766 : decode cL_law 766 = .ok (.ifCond .ne 15, 3) := by decide +kernel
theorem dL_law_769 : decode cL_law 769 = .ok (.aload_n 3, 1) := by decide +kernel
theorem dL_law_770 : decode cL_law 770 = .ok (.iconst 0, 1) := by decide +kernel
theorem dL_law_771 : decode cL_law 771 = .ok (.laload, 1) := by decide +kernel
theorem dL_law_772 : decode cL_law 772 = .ok (.iload 6, 2) := by decide +kernel
theorem dL_law_774 : decode cL_law 774 = .ok (.i2l, 1) := by decide +kernel
theorem dL_law_775 : decode cL_law 775 = .ok (.lcmp, 1) := by decide +kernel
theorem dL_law_776 : decode cL_law 776 = .ok (.ifCond .eq 5, 3) := by decide +kernel
theorem dL_law_779 : decode cL_law 779 = .ok (.iconst 0, 1) := by decide +kernel
theorem dL_law_780 : decode cL_law 780 = .ok (.ireturn, 1) := by decide +kernel
theorem dL_law_781 : decode cL_law 781 = .ok (.goto 326, 3) := by decide +kernel
theorem dL_law_784 : decode cL_law 784 = .ok (.aload_n 1, 1) := by decide +kernel
theorem dL_law_785 : decode cL_law 785 = .ok (.aload_n 0, 1) := by decide +kernel
theorem dL_law_786 : decode cL_law 786 = .ok (.iload 4, 2) := by decide +kernel
theorem dL_law_788 : decode cL_law 788 = .ok (.iconst 1, 1) := by decide +kernel
theorem dL_law_789 : decode cL_law 789 = .ok (.iadd, 1) := by decide +kernel
theorem dL_law_790 : decode cL_law 790 = .ok (.iaload, 1) := by decide +kernel
theorem dL_law_791 : decode cL_law 791 = .ok (.aload_n 0, 1) := by decide +kernel
theorem dL_law_792 : decode cL_law 792 = .ok (.iload 4, 2) := by decide +kernel
theorem dL_law_794 : decode cL_law 794 = .ok (.iconst 2, 1) := by decide +kernel
theorem dL_law_795 : decode cL_law 795 = .ok (.iadd, 1) := by decide +kernel
theorem dL_law_796 : decode cL_law 796 = .ok (.iaload, 1) := by decide +kernel
theorem dL_law_797 : decode cL_law 797 = .ok (.aload_n 3, 1) := by decide +kernel
theorem dL_law_798 : decode cL_law 798 = .ok (.invokestatic 115, 3) := by decide +kernel
theorem dL_law_801 : decode cL_law 801 = .ok (.istore 5, 2) := by decide +kernel
theorem dL_law_803 : decode cL_law 803 = .ok (.aload_n 2, 1) := by decide +kernel
theorem dL_law_804 : decode cL_law 804 = .ok (.aload_n 0, 1) := by decide +kernel
theorem dL_law_805 : decode cL_law 805 = .ok (.iload 4, 2) := by decide +kernel
theorem dL_law_807 : decode cL_law 807 = .ok (.iconst 1, 1) := by decide +kernel
theorem dL_law_808 : decode cL_law 808 = .ok (.iadd, 1) := by decide +kernel
theorem dL_law_809 : decode cL_law 809 = .ok (.iaload, 1) := by decide +kernel
theorem dL_law_810 : decode cL_law 810 = .ok (.aload_n 0, 1) := by decide +kernel
theorem dL_law_811 : decode cL_law 811 = .ok (.iload 4, 2) := by decide +kernel
theorem dL_law_813 : decode cL_law 813 = .ok (.iconst 2, 1) := by decide +kernel
theorem dL_law_814 : decode cL_law 814 = .ok (.iadd, 1) := by decide +kernel
theorem dL_law_815 : decode cL_law 815 = .ok (.iaload, 1) := by decide +kernel
theorem dL_law_816 : decode cL_law 816 = .ok (.invokevirtual 117, 3) := by decide +kernel
theorem dL_law_819 : decode cL_law 819 = .ok (.istore 6, 2) := by decide +kernel
theorem dL_law_821 : decode cL_law 821 = .ok (.aload_n 2, 1) := by decide +kernel
theorem dL_law_822 : decode cL_law 822 = .ok (.invokevirtual 75, 3) := by decide +kernel
theorem dL_law_825 : decode cL_law 825 = .ok (.iload 5, 2) := by decide +kernel
theorem dL_law_827 : decode cL_law 827 = .ok (.if_icmp .eq 5, 3) := by decide +kernel
theorem dL_law_830 : decode cL_law 830 = .ok (.iconst 0, 1) := by decide +kernel
theorem dL_law_831 : decode cL_law 831 = .ok (.ireturn, 1) := by decide +kernel
theorem dL_law_832 : decode cL_law 832 = .ok (.iload 5, 2) := by decide +kernel
theorem dL_law_834 : decode cL_law 834 = .ok (.ifCond .ne 15, 3) := by decide +kernel
theorem dL_law_837 : decode cL_law 837 = .ok (.aload_n 3, 1) := by decide +kernel
theorem dL_law_838 : decode cL_law 838 = .ok (.iconst 0, 1) := by decide +kernel
theorem dL_law_839 : decode cL_law 839 = .ok (.laload, 1) := by decide +kernel
theorem dL_law_840 : decode cL_law 840 = .ok (.iload 6, 2) := by decide +kernel
theorem dL_law_842 : decode cL_law 842 = .ok (.i2l, 1) := by decide +kernel
theorem dL_law_843 : decode cL_law 843 = .ok (.lcmp, 1) := by decide +kernel
theorem dL_law_844 : decode cL_law 844 = .ok (.ifCond .eq 5, 3) := by decide +kernel
theorem dL_law_847 : decode cL_law 847 = .ok (.iconst 0, 1) := by decide +kernel
theorem dL_law_848 : decode cL_law 848 = .ok (.ireturn, 1) := by decide +kernel
theorem dL_law_849 : decode cL_law 849 = .ok (.goto 258, 3) := by decide +kernel
theorem dL_law_852 : decode cL_law 852 = .ok (.aload_n 1, 1) := by decide +kernel
theorem dL_law_853 : decode cL_law 853 = .ok (.aload_n 0, 1) := by decide +kernel
theorem dL_law_854 : decode cL_law 854 = .ok (.iload 4, 2) := by decide +kernel
theorem dL_law_856 : decode cL_law 856 = .ok (.iconst 1, 1) := by decide +kernel
theorem dL_law_857 : decode cL_law 857 = .ok (.iadd, 1) := by decide +kernel
theorem dL_law_858 : decode cL_law 858 = .ok (.iaload, 1) := by decide +kernel
theorem dL_law_859 : decode cL_law 859 = .ok (.aload_n 0, 1) := by decide +kernel
theorem dL_law_860 : decode cL_law 860 = .ok (.iload 4, 2) := by decide +kernel
theorem dL_law_862 : decode cL_law 862 = .ok (.iconst 2, 1) := by decide +kernel
theorem dL_law_863 : decode cL_law 863 = .ok (.iadd, 1) := by decide +kernel
theorem dL_law_864 : decode cL_law 864 = .ok (.iaload, 1) := by decide +kernel
theorem dL_law_865 : decode cL_law 865 = .ok (.aload_n 0, 1) := by decide +kernel
theorem dL_law_866 : decode cL_law 866 = .ok (.iload 4, 2) := by decide +kernel
theorem dL_law_868 : decode cL_law 868 = .ok (.iconst 3, 1) := by decide +kernel
theorem dL_law_869 : decode cL_law 869 = .ok (.iadd, 1) := by decide +kernel
theorem dL_law_870 : decode cL_law 870 = .ok (.iaload, 1) := by decide +kernel
theorem dL_law_871 : decode cL_law 871 = .ok (.aload_n 3, 1) := by decide +kernel
theorem dL_law_872 : decode cL_law 872 = .ok (.invokestatic 118, 3) := by decide +kernel
theorem dL_law_875 : decode cL_law 875 = .ok (.istore 5, 2) := by decide +kernel
theorem dL_law_877 : decode cL_law 877 = .ok (.aload_n 2, 1) := by decide +kernel
theorem dL_law_878 : decode cL_law 878 = .ok (.aload_n 0, 1) := by decide +kernel
theorem dL_law_879 : decode cL_law 879 = .ok (.iload 4, 2) := by decide +kernel
theorem dL_law_881 : decode cL_law 881 = .ok (.iconst 1, 1) := by decide +kernel
theorem dL_law_882 : decode cL_law 882 = .ok (.iadd, 1) := by decide +kernel
theorem dL_law_883 : decode cL_law 883 = .ok (.iaload, 1) := by decide +kernel
theorem dL_law_884 : decode cL_law 884 = .ok (.aload_n 0, 1) := by decide +kernel
theorem dL_law_885 : decode cL_law 885 = .ok (.iload 4, 2) := by decide +kernel
theorem dL_law_887 : decode cL_law 887 = .ok (.iconst 2, 1) := by decide +kernel
theorem dL_law_888 : decode cL_law 888 = .ok (.iadd, 1) := by decide +kernel
theorem dL_law_889 : decode cL_law 889 = .ok (.iaload, 1) := by decide +kernel
theorem dL_law_890 : decode cL_law 890 = .ok (.aload_n 0, 1) := by decide +kernel
theorem dL_law_891 : decode cL_law 891 = .ok (.iload 4, 2) := by decide +kernel
theorem dL_law_893 : decode cL_law 893 = .ok (.iconst 3, 1) := by decide +kernel
theorem dL_law_894 : decode cL_law 894 = .ok (.iadd, 1) := by decide +kernel
theorem dL_law_895 : decode cL_law 895 = .ok (.iaload, 1) := by decide +kernel
theorem dL_law_896 : decode cL_law 896 = .ok (.invokevirtual 120, 3) := by decide +kernel
theorem dL_law_899 : decode cL_law 899 = .ok (.istore 6, 2) := by decide +kernel
theorem dL_law_901 : decode cL_law 901 = .ok (.aload_n 2, 1) := by decide +kernel
theorem dL_law_902 : decode cL_law 902 = .ok (.invokevirtual 75, 3) := by decide +kernel
theorem dL_law_905 : decode cL_law 905 = .ok (.iload 5, 2) := by decide +kernel
theorem dL_law_907 : decode cL_law 907 = .ok (.if_icmp .eq 5, 3) := by decide +kernel
theorem dL_law_910 : decode cL_law 910 = .ok (.iconst 0, 1) := by decide +kernel
theorem dL_law_911 : decode cL_law 911 = .ok (.ireturn, 1) := by decide +kernel
theorem dL_law_912 : decode cL_law 912 = .ok (.iload 5, 2) := by decide +kernel
theorem dL_law_914 : decode cL_law 914 = .ok (.ifCond .ne 15, 3) := by decide +kernel
theorem dL_law_917 : decode cL_law 917 = .ok (.aload_n 3, 1) := by decide +kernel
theorem dL_law_918 : decode cL_law 918 = .ok (.iconst 0, 1) := by decide +kernel
theorem dL_law_919 : decode cL_law 919 = .ok (.laload, 1) := by decide +kernel
theorem dL_law_920 : decode cL_law 920 = .ok (.iload 6, 2) := by decide +kernel
theorem dL_law_922 : decode cL_law 922 = .ok (.i2l, 1) := by decide +kernel
theorem dL_law_923 : decode cL_law 923 = .ok (.lcmp, 1) := by decide +kernel
theorem dL_law_924 : decode cL_law 924 = .ok (.ifCond .eq 5, 3) := by decide +kernel
theorem dL_law_927 : decode cL_law 927 = .ok (.iconst 0, 1) := by decide +kernel
theorem dL_law_928 : decode cL_law 928 = .ok (.ireturn, 1) := by decide +kernel
theorem dL_law_929 : decode cL_law 929 = .ok (.goto 178, 3) := by decide +kernel
theorem dL_law_932 : decode cL_law 932 = .ok (.aload_n 1, 1) := by decide +kernel
theorem dL_law_933 : decode cL_law 933 = .ok (.aload_n 0, 1) := by decide +kernel
theorem dL_law_934 : decode cL_law 934 = .ok (.iload 4, 2) := by decide +kernel
theorem dL_law_936 : decode cL_law 936 = .ok (.iconst 1, 1) := by decide +kernel
theorem dL_law_937 : decode cL_law 937 = .ok (.iadd, 1) := by decide +kernel
theorem dL_law_938 : decode cL_law 938 = .ok (.iaload, 1) := by decide +kernel
theorem dL_law_939 : decode cL_law 939 = .ok (.aload_n 3, 1) := by decide +kernel
theorem dL_law_940 : decode cL_law 940 = .ok (.invokestatic 121, 3) := by decide +kernel
theorem dL_law_943 : decode cL_law 943 = .ok (.istore 5, 2) := by decide +kernel
theorem dL_law_945 : decode cL_law 945 = .ok (.aload_n 2, 1) := by decide +kernel
theorem dL_law_946 : decode cL_law 946 = .ok (.aload_n 0, 1) := by decide +kernel
theorem dL_law_947 : decode cL_law 947 = .ok (.iload 4, 2) := by decide +kernel
theorem dL_law_949 : decode cL_law 949 = .ok (.iconst 1, 1) := by decide +kernel
theorem dL_law_950 : decode cL_law 950 = .ok (.iadd, 1) := by decide +kernel
theorem dL_law_951 : decode cL_law 951 = .ok (.iaload, 1) := by decide +kernel
theorem dL_law_952 : decode cL_law 952 = .ok (.invokevirtual 123, 3) := by decide +kernel
theorem dL_law_955 : decode cL_law 955 = .ok (.istore 6, 2) := by decide +kernel
theorem dL_law_957 : decode cL_law 957 = .ok (.aload_n 2, 1) := by decide +kernel
theorem dL_law_958 : decode cL_law 958 = .ok (.invokevirtual 75, 3) := by decide +kernel
theorem dL_law_961 : decode cL_law 961 = .ok (.iload 5, 2) := by decide +kernel
theorem dL_law_963 : decode cL_law 963 = .ok (.if_icmp .eq 5, 3) := by decide +kernel
theorem dL_law_966 : decode cL_law 966 = .ok (.iconst 0, 1) := by decide +kernel
theorem dL_law_967 : decode cL_law 967 = .ok (.ireturn, 1) := by decide +kernel
theorem dL_law_968 : decode cL_law 968 = .ok (.iload 5, 2) := by decide +kernel
theorem dL_law_970 : decode cL_law 970 = .ok (.ifCond .ne 15, 3) := by decide +kernel
theorem dL_law_973 : decode cL_law 973 = .ok (.aload_n 3, 1) := by decide +kernel
theorem dL_law_974 : decode cL_law 974 = .ok (.iconst 0, 1) := by decide +kernel
theorem dL_law_975 : decode cL_law 975 = .ok (.laload, 1) := by decide +kernel
theorem dL_law_976 : decode cL_law 976 = .ok (.iload 6, 2) := by decide +kernel
theorem dL_law_978 : decode cL_law 978 = .ok (.i2l, 1) := by decide +kernel
theorem dL_law_979 : decode cL_law 979 = .ok (.lcmp, 1) := by decide +kernel
theorem dL_law_980 : decode cL_law 980 = .ok (.ifCond .eq 5, 3) := by decide +kernel
theorem dL_law_983 : decode cL_law 983 = .ok (.iconst 0, 1) := by decide +kernel
theorem dL_law_984 : decode cL_law 984 = .ok (.ireturn, 1) := by decide +kernel
theorem dL_law_985 : decode cL_law 985 = .ok (.goto 122, 3) := by decide +kernel
theorem dL_law_988 : decode cL_law 988 = .ok (.aload_n 1, 1) := by decide +kernel
theorem dL_law_989 : decode cL_law 989 = .ok (.aload_n 0, 1) := by decide +kernel
theorem dL_law_990 : decode cL_law 990 = .ok (.iload 4, 2) := by decide +kernel
theorem dL_law_992 : decode cL_law 992 = .ok (.iconst 1, 1) := by decide +kernel
theorem dL_law_993 : decode cL_law 993 = .ok (.iadd, 1) := by decide +kernel
theorem dL_law_994 : decode cL_law 994 = .ok (.iaload, 1) := by decide +kernel
theorem dL_law_995 : decode cL_law 995 = .ok (.aload_n 3, 1) := by decide +kernel
theorem dL_law_996 : decode cL_law 996 = .ok (.invokestatic 124, 3) := by decide +kernel
theorem dL_law_999 : decode cL_law 999 = .ok (.istore 5, 2) := by decide +kernel
theorem dL_law_1001 : decode cL_law 1001 = .ok (.aload_n 2, 1) := by decide +kernel
theorem dL_law_1002 : decode cL_law 1002 = .ok (.aload_n 0, 1) := by decide +kernel
theorem dL_law_1003 : decode cL_law 1003 = .ok (.iload 4, 2) := by decide +kernel
theorem dL_law_1005 : decode cL_law 1005 = .ok (.iconst 1, 1) := by decide +kernel
theorem dL_law_1006 : decode cL_law 1006 = .ok (.iadd, 1) := by decide +kernel
theorem dL_law_1007 : decode cL_law 1007 = .ok (.iaload, 1) := by decide +kernel
theorem dL_law_1008 : decode cL_law 1008 = .ok (.invokevirtual 126, 3) := by decide +kernel
theorem dL_law_1011 : decode cL_law 1011 = .ok (.istore 6, 2) := by decide +kernel
theorem dL_law_1013 : decode cL_law 1013 = .ok (.aload_n 2, 1) := by decide +kernel
theorem dL_law_1014 : decode cL_law 1014 = .ok (.invokevirtual 75, 3) := by decide +kernel
theorem dL_law_1017 : decode cL_law 1017 = .ok (.iload 5, 2) := by decide +kernel
theorem dL_law_1019 : decode cL_law 1019 = .ok (.if_icmp .eq 5, 3) := by decide +kernel
theorem dL_law_1022 : decode cL_law 1022 = .ok (.iconst 0, 1) := by decide +kernel
theorem dL_law_1023 : decode cL_law 1023 = .ok (.ireturn, 1) := by decide +kernel
theorem dL_law_1024 : decode cL_law 1024 = .ok (.iload 5, 2) := by decide +kernel
theorem dL_law_1026 : decode cL_law 1026 = .ok (.ifCond .ne 15, 3) := by decide +kernel
theorem dL_law_1029 : decode cL_law 1029 = .ok (.aload_n 3, 1) := by decide +kernel
theorem dL_law_1030 : decode cL_law 1030 = .ok (.iconst 0, 1) := by decide +kernel
theorem dL_law_1031 : decode cL_law 1031 = .ok (.laload, 1) := by decide +kernel
theorem dL_law_1032 : decode cL_law 1032 = .ok (.iload 6, 2) := by decide +kernel
theorem dL_law_1034 : decode cL_law 1034 = .ok (.i2l, 1) := by decide +kernel
theorem dL_law_1035 : decode cL_law 1035 = .ok (.lcmp, 1) := by decide +kernel
theorem dL_law_1036 : decode cL_law 1036 = .ok (.ifCond .eq 5, 3) := by decide +kernel
theorem dL_law_1039 : decode cL_law 1039 = .ok (.iconst 0, 1) := by decide +kernel
theorem dL_law_1040 : decode cL_law 1040 = .ok (.ireturn, 1) := by decide +kernel
theorem dL_law_1041 : decode cL_law 1041 = .ok (.goto 66, 3) := by decide +kernel
theorem dL_law_1044 : decode cL_law 1044 = .ok (.aload_n 1, 1) := by decide +kernel
theorem dL_law_1045 : decode cL_law 1045 = .ok (.aload_n 0, 1) := by decide +kernel
theorem dL_law_1046 : decode cL_law 1046 = .ok (.iload 4, 2) := by decide +kernel
theorem dL_law_1048 : decode cL_law 1048 = .ok (.iconst 1, 1) := by decide +kernel
theorem dL_law_1049 : decode cL_law 1049 = .ok (.iadd, 1) := by decide +kernel
theorem dL_law_1050 : decode cL_law 1050 = .ok (.iaload, 1) := by decide +kernel
theorem dL_law_1051 : decode cL_law 1051 = .ok (.aload_n 3, 1) := by decide +kernel
theorem dL_law_1052 : decode cL_law 1052 = .ok (.invokestatic 127, 3) := by decide +kernel
theorem dL_law_1055 : decode cL_law 1055 = .ok (.istore 5, 2) := by decide +kernel
theorem dL_law_1057 : decode cL_law 1057 = .ok (.aload_n 2, 1) := by decide +kernel
theorem dL_law_1058 : decode cL_law 1058 = .ok (.aload_n 0, 1) := by decide +kernel
theorem dL_law_1059 : decode cL_law 1059 = .ok (.iload 4, 2) := by decide +kernel
theorem dL_law_1061 : decode cL_law 1061 = .ok (.iconst 1, 1) := by decide +kernel
theorem dL_law_1062 : decode cL_law 1062 = .ok (.iadd, 1) := by decide +kernel
theorem dL_law_1063 : decode cL_law 1063 = .ok (.iaload, 1) := by decide +kernel
theorem dL_law_1064 : decode cL_law 1064 = .ok (.invokevirtual 129, 3) := by decide +kernel
theorem dL_law_1067 : decode cL_law 1067 = .ok (.istore 6, 2) := by decide +kernel
theorem dL_law_1069 : decode cL_law 1069 = .ok (.aload_n 2, 1) := by decide +kernel
theorem dL_law_1070 : decode cL_law 1070 = .ok (.invokevirtual 75, 3) := by decide +kernel
theorem dL_law_1073 : decode cL_law 1073 = .ok (.iload 5, 2) := by decide +kernel
theorem dL_law_1075 : decode cL_law 1075 = .ok (.if_icmp .eq 5, 3) := by decide +kernel
theorem dL_law_1078 : decode cL_law 1078 = .ok (.iconst 0, 1) := by decide +kernel
theorem dL_law_1079 : decode cL_law 1079 = .ok (.ireturn, 1) := by decide +kernel
theorem dL_law_1080 : decode cL_law 1080 = .ok (.iload 5, 2) := by decide +kernel
theorem dL_law_1082 : decode cL_law 1082 = .ok (.ifCond .ne 22, 3) := by decide +kernel
theorem dL_law_1085 : decode cL_law 1085 = .ok (.aload_n 3, 1) := by decide +kernel
theorem dL_law_1086 : decode cL_law 1086 = .ok (.iconst 0, 1) := by decide +kernel
theorem dL_law_1087 : decode cL_law 1087 = .ok (.laload, 1) := by decide +kernel
theorem dL_law_1088 : decode cL_law 1088 = .ok (.iload 6, 2) := by decide +kernel
theorem dL_law_1090 : decode cL_law 1090 = .ok (.ifCond .eq 7, 3) := by decide +kernel
theorem dL_law_1093 : decode cL_law 1093 = .ok (.lconst 1, 1) := by decide +kernel
theorem dL_law_1094 : decode cL_law 1094 = .ok (.goto 4, 3) := by decide +kernel
theorem dL_law_1097 : decode cL_law 1097 = .ok (.lconst 0, 1) := by decide +kernel
theorem dL_law_1098 : decode cL_law 1098 = .ok (.lcmp, 1) := by decide +kernel
theorem dL_law_1099 : decode cL_law 1099 = .ok (.ifCond .eq 5, 3) := by decide +kernel
theorem dL_law_1102 : decode cL_law 1102 = .ok (.iconst 0, 1) := by decide +kernel
theorem dL_law_1103 : decode cL_law 1103 = .ok (.ireturn, 1) := by decide +kernel
theorem dL_law_1104 : decode cL_law 1104 = .ok (.goto 3, 3) := by decide +kernel
theorem dL_law_1107 : decode cL_law 1107 = .ok (.iinc 4 6, 3) := by decide +kernel
theorem dL_law_1110 : decode cL_law 1110 = .ok (.goto (-1087), 3) := by decide +kernel
theorem dL_law_1113 : decode cL_law 1113 = .ok (.iconst 1, 1) := by decide +kernel
theorem dL_law_1114 : decode cL_law 1114 = .ok (.ireturn, 1) := by decide +kernel
noncomputable def fL_law_1107 (K23 : Int32 → mv_M → Option (Int32 × mv_M)) (x4 : Int32) (M : mv_M) : Option (Int32 × mv_M) :=
  mv_let (x4 + 6) fun v220 =>
  K23 v220 M
set_option maxRecDepth 100000 in
set_option maxHeartbeats 4000000 in
theorem zL_law_1107 {l : Launch} {d : Nat} {Q : Int32 → mv_M → Prop} {n : Nat} {K23 : Int32 → mv_M → Option (Int32 × mv_M)} (hd : 343 ≤ d) (hl : l.stackTraces = false) (hK23 : ∀ (x4 : Int32) (M : mv_M), mv_ok (K23 x4 M) Q → mv l mL_law d (4 * n) 23 [(0, .ref 302), (1, .ref 0), (2, .ref 62), (3, .ref 106), (4, .int x4)] [] M (mv_qI Q)) (x4 : Int32) (M : mv_M) (h : mv_ok (fL_law_1107 K23 x4 M) Q) : mv l mL_law d (4 * n) 1107 [(0, .ref 302), (1, .ref 0), (2, .ref 62), (3, .ref 106), (4, .int x4)] [] M (mv_qI Q) := by
  unfold fL_law_1107 at h
  obtain ⟨v220, ev220⟩ : ∃ z : Int32, z = x4 + 6 := ⟨_, rfl⟩
  replace h := mv_letE h v220 ev220
  refine mv_iinc v220 4 [(4, .int v220), (0, .ref 302), (1, .ref 0), (2, .ref 62), (3, .ref 106)] dL_law_1107 rfl (by rw [ev220]; rfl) (by decide) rfl ?_
  refine mv_goto 23 dL_law_1110 (by decide) ?_
  refine mv_sub [1, 2, 3, 4, 0] rfl ?_
  exact hK23 v220 M h
noncomputable def fL_law_221 (K23 : Int32 → mv_M → Option (Int32 × mv_M)) (x4 : Int32) (M : mv_M) : Option (Int32 × mv_M) :=
  fL_law_1107 K23 x4 M
set_option maxRecDepth 100000 in
set_option maxHeartbeats 4000000 in
theorem zL_law_221 {l : Launch} {d : Nat} {Q : Int32 → mv_M → Prop} {n : Nat} {K23 : Int32 → mv_M → Option (Int32 × mv_M)} (hd : 343 ≤ d) (hl : l.stackTraces = false) (hK23 : ∀ (x4 : Int32) (M : mv_M), mv_ok (K23 x4 M) Q → mv l mL_law d (4 * n) 23 [(0, .ref 302), (1, .ref 0), (2, .ref 62), (3, .ref 106), (4, .int x4)] [] M (mv_qI Q)) (x4 : Int32) (M : mv_M) (h : mv_ok (fL_law_221 K23 x4 M) Q) : mv l mL_law d (4 * n) 221 [(0, .ref 302), (1, .ref 0), (2, .ref 62), (3, .ref 106), (4, .int x4)] [] M (mv_qI Q) := by
  unfold fL_law_221 at h
  refine mv_goto 1107 dL_law_221 (by decide) ?_
  refine mv_sub [0, 1, 2, 3, 4] rfl ?_
  exact zL_law_1107 hd hl hK23 x4 M h
noncomputable def fL_law_277 (K23 : Int32 → mv_M → Option (Int32 × mv_M)) (x4 : Int32) (M : mv_M) : Option (Int32 × mv_M) :=
  fL_law_1107 K23 x4 M
set_option maxRecDepth 100000 in
set_option maxHeartbeats 4000000 in
theorem zL_law_277 {l : Launch} {d : Nat} {Q : Int32 → mv_M → Prop} {n : Nat} {K23 : Int32 → mv_M → Option (Int32 × mv_M)} (hd : 343 ≤ d) (hl : l.stackTraces = false) (hK23 : ∀ (x4 : Int32) (M : mv_M), mv_ok (K23 x4 M) Q → mv l mL_law d (4 * n) 23 [(0, .ref 302), (1, .ref 0), (2, .ref 62), (3, .ref 106), (4, .int x4)] [] M (mv_qI Q)) (x4 : Int32) (M : mv_M) (h : mv_ok (fL_law_277 K23 x4 M) Q) : mv l mL_law d (4 * n) 277 [(0, .ref 302), (1, .ref 0), (2, .ref 62), (3, .ref 106), (4, .int x4)] [] M (mv_qI Q) := by
  unfold fL_law_277 at h
  refine mv_goto 1107 dL_law_277 (by decide) ?_
  refine mv_sub [0, 1, 2, 3, 4] rfl ?_
  exact zL_law_1107 hd hl hK23 x4 M h
noncomputable def fL_law_371 (K23 : Int32 → mv_M → Option (Int32 × mv_M)) (x4 : Int32) (M : mv_M) : Option (Int32 × mv_M) :=
  fL_law_1107 K23 x4 M
set_option maxRecDepth 100000 in
set_option maxHeartbeats 4000000 in
theorem zL_law_371 {l : Launch} {d : Nat} {Q : Int32 → mv_M → Prop} {n : Nat} {K23 : Int32 → mv_M → Option (Int32 × mv_M)} (hd : 343 ≤ d) (hl : l.stackTraces = false) (hK23 : ∀ (x4 : Int32) (M : mv_M), mv_ok (K23 x4 M) Q → mv l mL_law d (4 * n) 23 [(0, .ref 302), (1, .ref 0), (2, .ref 62), (3, .ref 106), (4, .int x4)] [] M (mv_qI Q)) (x4 : Int32) (M : mv_M) (h : mv_ok (fL_law_371 K23 x4 M) Q) : mv l mL_law d (4 * n) 371 [(0, .ref 302), (1, .ref 0), (2, .ref 62), (3, .ref 106), (4, .int x4)] [] M (mv_qI Q) := by
  unfold fL_law_371 at h
  refine mv_goto 1107 dL_law_371 (by decide) ?_
  refine mv_sub [0, 1, 2, 3, 4] rfl ?_
  exact zL_law_1107 hd hl hK23 x4 M h
noncomputable def fL_law_415 (K23 : Int32 → mv_M → Option (Int32 × mv_M)) (x4 : Int32) (M : mv_M) : Option (Int32 × mv_M) :=
  fL_law_1107 K23 x4 M
set_option maxRecDepth 100000 in
set_option maxHeartbeats 4000000 in
theorem zL_law_415 {l : Launch} {d : Nat} {Q : Int32 → mv_M → Prop} {n : Nat} {K23 : Int32 → mv_M → Option (Int32 × mv_M)} (hd : 343 ≤ d) (hl : l.stackTraces = false) (hK23 : ∀ (x4 : Int32) (M : mv_M), mv_ok (K23 x4 M) Q → mv l mL_law d (4 * n) 23 [(0, .ref 302), (1, .ref 0), (2, .ref 62), (3, .ref 106), (4, .int x4)] [] M (mv_qI Q)) (x4 : Int32) (M : mv_M) (h : mv_ok (fL_law_415 K23 x4 M) Q) : mv l mL_law d (4 * n) 415 [(0, .ref 302), (1, .ref 0), (2, .ref 62), (3, .ref 106), (4, .int x4)] [] M (mv_qI Q) := by
  unfold fL_law_415 at h
  refine mv_goto 1107 dL_law_415 (by decide) ?_
  refine mv_sub [0, 1, 2, 3, 4] rfl ?_
  exact zL_law_1107 hd hl hK23 x4 M h
noncomputable def fL_law_490 (K23 : Int32 → mv_M → Option (Int32 × mv_M)) (x4 : Int32) (M : mv_M) : Option (Int32 × mv_M) :=
  fL_law_1107 K23 x4 M
set_option maxRecDepth 100000 in
set_option maxHeartbeats 4000000 in
theorem zL_law_490 {l : Launch} {d : Nat} {Q : Int32 → mv_M → Prop} {n : Nat} {K23 : Int32 → mv_M → Option (Int32 × mv_M)} (hd : 343 ≤ d) (hl : l.stackTraces = false) (hK23 : ∀ (x4 : Int32) (M : mv_M), mv_ok (K23 x4 M) Q → mv l mL_law d (4 * n) 23 [(0, .ref 302), (1, .ref 0), (2, .ref 62), (3, .ref 106), (4, .int x4)] [] M (mv_qI Q)) (x4 : Int32) (M : mv_M) (h : mv_ok (fL_law_490 K23 x4 M) Q) : mv l mL_law d (4 * n) 490 [(0, .ref 302), (1, .ref 0), (2, .ref 62), (3, .ref 106), (4, .int x4)] [] M (mv_qI Q) := by
  unfold fL_law_490 at h
  refine mv_goto 1107 dL_law_490 (by decide) ?_
  refine mv_sub [0, 1, 2, 3, 4] rfl ?_
  exact zL_law_1107 hd hl hK23 x4 M h
noncomputable def fL_law_484 (K23 : Int32 → mv_M → Option (Int32 × mv_M)) (x4 : Int32) (s0 : Int64) (s1 : Int64) (M : mv_M) : Option (Int32 × mv_M) :=
  if (lg_cmp s1 s0) = 0 then
    fL_law_490 K23 x4 M
  else
    some (0, M)
set_option maxRecDepth 100000 in
set_option maxHeartbeats 4000000 in
theorem zL_law_484 {l : Launch} {d : Nat} {Q : Int32 → mv_M → Prop} {n : Nat} {K23 : Int32 → mv_M → Option (Int32 × mv_M)} (hd : 343 ≤ d) (hl : l.stackTraces = false) (hK23 : ∀ (x4 : Int32) (M : mv_M), mv_ok (K23 x4 M) Q → mv l mL_law d (4 * n) 23 [(0, .ref 302), (1, .ref 0), (2, .ref 62), (3, .ref 106), (4, .int x4)] [] M (mv_qI Q)) (x4 : Int32) (s0 : Int64) (s1 : Int64) (M : mv_M) (h : mv_ok (fL_law_484 K23 x4 s0 s1 M) Q) : mv l mL_law d (4 * n) 484 [(0, .ref 302), (1, .ref 0), (2, .ref 62), (3, .ref 106), (4, .int x4)] [.long s0, .long s1] M (mv_qI Q) := by
  unfold fL_law_484 at h
  refine mv_lcmp dL_law_484 ?_
  refine mv_if_eq 490 dL_law_485 (by decide) (fun z => ?_) (fun z => ?_)
  · replace h := mv_ifT z h
    refine mv_sub [0, 1, 2, 3, 4] rfl ?_
    exact zL_law_490 hd hl hK23 x4 M h
  · replace h := mv_ifF z h
    refine mv_iconst 0 dL_law_488 (by decide) ?_
    exact mv_zret (by decide) rfl dL_law_489 ⟨_, rfl, h⟩
noncomputable def fL_law_570 (K23 : Int32 → mv_M → Option (Int32 × mv_M)) (x4 : Int32) (M : mv_M) : Option (Int32 × mv_M) :=
  fL_law_1107 K23 x4 M
set_option maxRecDepth 100000 in
set_option maxHeartbeats 4000000 in
theorem zL_law_570 {l : Launch} {d : Nat} {Q : Int32 → mv_M → Prop} {n : Nat} {K23 : Int32 → mv_M → Option (Int32 × mv_M)} (hd : 343 ≤ d) (hl : l.stackTraces = false) (hK23 : ∀ (x4 : Int32) (M : mv_M), mv_ok (K23 x4 M) Q → mv l mL_law d (4 * n) 23 [(0, .ref 302), (1, .ref 0), (2, .ref 62), (3, .ref 106), (4, .int x4)] [] M (mv_qI Q)) (x4 : Int32) (M : mv_M) (h : mv_ok (fL_law_570 K23 x4 M) Q) : mv l mL_law d (4 * n) 570 [(0, .ref 302), (1, .ref 0), (2, .ref 62), (3, .ref 106), (4, .int x4)] [] M (mv_qI Q) := by
  unfold fL_law_570 at h
  refine mv_goto 1107 dL_law_570 (by decide) ?_
  refine mv_sub [0, 1, 2, 3, 4] rfl ?_
  exact zL_law_1107 hd hl hK23 x4 M h
noncomputable def fL_law_645 (K23 : Int32 → mv_M → Option (Int32 × mv_M)) (x4 : Int32) (M : mv_M) : Option (Int32 × mv_M) :=
  fL_law_1107 K23 x4 M
set_option maxRecDepth 100000 in
set_option maxHeartbeats 4000000 in
theorem zL_law_645 {l : Launch} {d : Nat} {Q : Int32 → mv_M → Prop} {n : Nat} {K23 : Int32 → mv_M → Option (Int32 × mv_M)} (hd : 343 ≤ d) (hl : l.stackTraces = false) (hK23 : ∀ (x4 : Int32) (M : mv_M), mv_ok (K23 x4 M) Q → mv l mL_law d (4 * n) 23 [(0, .ref 302), (1, .ref 0), (2, .ref 62), (3, .ref 106), (4, .int x4)] [] M (mv_qI Q)) (x4 : Int32) (M : mv_M) (h : mv_ok (fL_law_645 K23 x4 M) Q) : mv l mL_law d (4 * n) 645 [(0, .ref 302), (1, .ref 0), (2, .ref 62), (3, .ref 106), (4, .int x4)] [] M (mv_qI Q) := by
  unfold fL_law_645 at h
  refine mv_goto 1107 dL_law_645 (by decide) ?_
  refine mv_sub [0, 1, 2, 3, 4] rfl ?_
  exact zL_law_1107 hd hl hK23 x4 M h
noncomputable def fL_law_639 (K23 : Int32 → mv_M → Option (Int32 × mv_M)) (x4 : Int32) (s0 : Int64) (s1 : Int64) (M : mv_M) : Option (Int32 × mv_M) :=
  if (lg_cmp s1 s0) = 0 then
    fL_law_645 K23 x4 M
  else
    some (0, M)
set_option maxRecDepth 100000 in
set_option maxHeartbeats 4000000 in
theorem zL_law_639 {l : Launch} {d : Nat} {Q : Int32 → mv_M → Prop} {n : Nat} {K23 : Int32 → mv_M → Option (Int32 × mv_M)} (hd : 343 ≤ d) (hl : l.stackTraces = false) (hK23 : ∀ (x4 : Int32) (M : mv_M), mv_ok (K23 x4 M) Q → mv l mL_law d (4 * n) 23 [(0, .ref 302), (1, .ref 0), (2, .ref 62), (3, .ref 106), (4, .int x4)] [] M (mv_qI Q)) (x4 : Int32) (s0 : Int64) (s1 : Int64) (M : mv_M) (h : mv_ok (fL_law_639 K23 x4 s0 s1 M) Q) : mv l mL_law d (4 * n) 639 [(0, .ref 302), (1, .ref 0), (2, .ref 62), (3, .ref 106), (4, .int x4)] [.long s0, .long s1] M (mv_qI Q) := by
  unfold fL_law_639 at h
  refine mv_lcmp dL_law_639 ?_
  refine mv_if_eq 645 dL_law_640 (by decide) (fun z => ?_) (fun z => ?_)
  · replace h := mv_ifT z h
    refine mv_sub [0, 1, 2, 3, 4] rfl ?_
    exact zL_law_645 hd hl hK23 x4 M h
  · replace h := mv_ifF z h
    refine mv_iconst 0 dL_law_643 (by decide) ?_
    exact mv_zret (by decide) rfl dL_law_644 ⟨_, rfl, h⟩
noncomputable def fL_law_737 (K23 : Int32 → mv_M → Option (Int32 × mv_M)) (x4 : Int32) (M : mv_M) : Option (Int32 × mv_M) :=
  fL_law_1107 K23 x4 M
set_option maxRecDepth 100000 in
set_option maxHeartbeats 4000000 in
theorem zL_law_737 {l : Launch} {d : Nat} {Q : Int32 → mv_M → Prop} {n : Nat} {K23 : Int32 → mv_M → Option (Int32 × mv_M)} (hd : 343 ≤ d) (hl : l.stackTraces = false) (hK23 : ∀ (x4 : Int32) (M : mv_M), mv_ok (K23 x4 M) Q → mv l mL_law d (4 * n) 23 [(0, .ref 302), (1, .ref 0), (2, .ref 62), (3, .ref 106), (4, .int x4)] [] M (mv_qI Q)) (x4 : Int32) (M : mv_M) (h : mv_ok (fL_law_737 K23 x4 M) Q) : mv l mL_law d (4 * n) 737 [(0, .ref 302), (1, .ref 0), (2, .ref 62), (3, .ref 106), (4, .int x4)] [] M (mv_qI Q) := by
  unfold fL_law_737 at h
  refine mv_goto 1107 dL_law_737 (by decide) ?_
  refine mv_sub [0, 1, 2, 3, 4] rfl ?_
  exact zL_law_1107 hd hl hK23 x4 M h
noncomputable def fL_law_781 (K23 : Int32 → mv_M → Option (Int32 × mv_M)) (x4 : Int32) (M : mv_M) : Option (Int32 × mv_M) :=
  fL_law_1107 K23 x4 M
set_option maxRecDepth 100000 in
set_option maxHeartbeats 4000000 in
theorem zL_law_781 {l : Launch} {d : Nat} {Q : Int32 → mv_M → Prop} {n : Nat} {K23 : Int32 → mv_M → Option (Int32 × mv_M)} (hd : 343 ≤ d) (hl : l.stackTraces = false) (hK23 : ∀ (x4 : Int32) (M : mv_M), mv_ok (K23 x4 M) Q → mv l mL_law d (4 * n) 23 [(0, .ref 302), (1, .ref 0), (2, .ref 62), (3, .ref 106), (4, .int x4)] [] M (mv_qI Q)) (x4 : Int32) (M : mv_M) (h : mv_ok (fL_law_781 K23 x4 M) Q) : mv l mL_law d (4 * n) 781 [(0, .ref 302), (1, .ref 0), (2, .ref 62), (3, .ref 106), (4, .int x4)] [] M (mv_qI Q) := by
  unfold fL_law_781 at h
  refine mv_goto 1107 dL_law_781 (by decide) ?_
  refine mv_sub [0, 1, 2, 3, 4] rfl ?_
  exact zL_law_1107 hd hl hK23 x4 M h
noncomputable def fL_law_849 (K23 : Int32 → mv_M → Option (Int32 × mv_M)) (x4 : Int32) (M : mv_M) : Option (Int32 × mv_M) :=
  fL_law_1107 K23 x4 M
set_option maxRecDepth 100000 in
set_option maxHeartbeats 4000000 in
theorem zL_law_849 {l : Launch} {d : Nat} {Q : Int32 → mv_M → Prop} {n : Nat} {K23 : Int32 → mv_M → Option (Int32 × mv_M)} (hd : 343 ≤ d) (hl : l.stackTraces = false) (hK23 : ∀ (x4 : Int32) (M : mv_M), mv_ok (K23 x4 M) Q → mv l mL_law d (4 * n) 23 [(0, .ref 302), (1, .ref 0), (2, .ref 62), (3, .ref 106), (4, .int x4)] [] M (mv_qI Q)) (x4 : Int32) (M : mv_M) (h : mv_ok (fL_law_849 K23 x4 M) Q) : mv l mL_law d (4 * n) 849 [(0, .ref 302), (1, .ref 0), (2, .ref 62), (3, .ref 106), (4, .int x4)] [] M (mv_qI Q) := by
  unfold fL_law_849 at h
  refine mv_goto 1107 dL_law_849 (by decide) ?_
  refine mv_sub [0, 1, 2, 3, 4] rfl ?_
  exact zL_law_1107 hd hl hK23 x4 M h
noncomputable def fL_law_929 (K23 : Int32 → mv_M → Option (Int32 × mv_M)) (x4 : Int32) (M : mv_M) : Option (Int32 × mv_M) :=
  fL_law_1107 K23 x4 M
set_option maxRecDepth 100000 in
set_option maxHeartbeats 4000000 in
theorem zL_law_929 {l : Launch} {d : Nat} {Q : Int32 → mv_M → Prop} {n : Nat} {K23 : Int32 → mv_M → Option (Int32 × mv_M)} (hd : 343 ≤ d) (hl : l.stackTraces = false) (hK23 : ∀ (x4 : Int32) (M : mv_M), mv_ok (K23 x4 M) Q → mv l mL_law d (4 * n) 23 [(0, .ref 302), (1, .ref 0), (2, .ref 62), (3, .ref 106), (4, .int x4)] [] M (mv_qI Q)) (x4 : Int32) (M : mv_M) (h : mv_ok (fL_law_929 K23 x4 M) Q) : mv l mL_law d (4 * n) 929 [(0, .ref 302), (1, .ref 0), (2, .ref 62), (3, .ref 106), (4, .int x4)] [] M (mv_qI Q) := by
  unfold fL_law_929 at h
  refine mv_goto 1107 dL_law_929 (by decide) ?_
  refine mv_sub [0, 1, 2, 3, 4] rfl ?_
  exact zL_law_1107 hd hl hK23 x4 M h
noncomputable def fL_law_985 (K23 : Int32 → mv_M → Option (Int32 × mv_M)) (x4 : Int32) (M : mv_M) : Option (Int32 × mv_M) :=
  fL_law_1107 K23 x4 M
set_option maxRecDepth 100000 in
set_option maxHeartbeats 4000000 in
theorem zL_law_985 {l : Launch} {d : Nat} {Q : Int32 → mv_M → Prop} {n : Nat} {K23 : Int32 → mv_M → Option (Int32 × mv_M)} (hd : 343 ≤ d) (hl : l.stackTraces = false) (hK23 : ∀ (x4 : Int32) (M : mv_M), mv_ok (K23 x4 M) Q → mv l mL_law d (4 * n) 23 [(0, .ref 302), (1, .ref 0), (2, .ref 62), (3, .ref 106), (4, .int x4)] [] M (mv_qI Q)) (x4 : Int32) (M : mv_M) (h : mv_ok (fL_law_985 K23 x4 M) Q) : mv l mL_law d (4 * n) 985 [(0, .ref 302), (1, .ref 0), (2, .ref 62), (3, .ref 106), (4, .int x4)] [] M (mv_qI Q) := by
  unfold fL_law_985 at h
  refine mv_goto 1107 dL_law_985 (by decide) ?_
  refine mv_sub [0, 1, 2, 3, 4] rfl ?_
  exact zL_law_1107 hd hl hK23 x4 M h
noncomputable def fL_law_1041 (K23 : Int32 → mv_M → Option (Int32 × mv_M)) (x4 : Int32) (M : mv_M) : Option (Int32 × mv_M) :=
  fL_law_1107 K23 x4 M
set_option maxRecDepth 100000 in
set_option maxHeartbeats 4000000 in
theorem zL_law_1041 {l : Launch} {d : Nat} {Q : Int32 → mv_M → Prop} {n : Nat} {K23 : Int32 → mv_M → Option (Int32 × mv_M)} (hd : 343 ≤ d) (hl : l.stackTraces = false) (hK23 : ∀ (x4 : Int32) (M : mv_M), mv_ok (K23 x4 M) Q → mv l mL_law d (4 * n) 23 [(0, .ref 302), (1, .ref 0), (2, .ref 62), (3, .ref 106), (4, .int x4)] [] M (mv_qI Q)) (x4 : Int32) (M : mv_M) (h : mv_ok (fL_law_1041 K23 x4 M) Q) : mv l mL_law d (4 * n) 1041 [(0, .ref 302), (1, .ref 0), (2, .ref 62), (3, .ref 106), (4, .int x4)] [] M (mv_qI Q) := by
  unfold fL_law_1041 at h
  refine mv_goto 1107 dL_law_1041 (by decide) ?_
  refine mv_sub [0, 1, 2, 3, 4] rfl ?_
  exact zL_law_1107 hd hl hK23 x4 M h
noncomputable def fL_law_1104 (K23 : Int32 → mv_M → Option (Int32 × mv_M)) (x4 : Int32) (M : mv_M) : Option (Int32 × mv_M) :=
  fL_law_1107 K23 x4 M
set_option maxRecDepth 100000 in
set_option maxHeartbeats 4000000 in
theorem zL_law_1104 {l : Launch} {d : Nat} {Q : Int32 → mv_M → Prop} {n : Nat} {K23 : Int32 → mv_M → Option (Int32 × mv_M)} (hd : 343 ≤ d) (hl : l.stackTraces = false) (hK23 : ∀ (x4 : Int32) (M : mv_M), mv_ok (K23 x4 M) Q → mv l mL_law d (4 * n) 23 [(0, .ref 302), (1, .ref 0), (2, .ref 62), (3, .ref 106), (4, .int x4)] [] M (mv_qI Q)) (x4 : Int32) (M : mv_M) (h : mv_ok (fL_law_1104 K23 x4 M) Q) : mv l mL_law d (4 * n) 1104 [(0, .ref 302), (1, .ref 0), (2, .ref 62), (3, .ref 106), (4, .int x4)] [] M (mv_qI Q) := by
  unfold fL_law_1104 at h
  refine mv_goto 1107 dL_law_1104 (by decide) ?_
  refine mv_sub [0, 1, 2, 3, 4] rfl ?_
  exact zL_law_1107 hd hl hK23 x4 M h
noncomputable def fL_law_1098 (K23 : Int32 → mv_M → Option (Int32 × mv_M)) (x4 : Int32) (s0 : Int64) (s1 : Int64) (M : mv_M) : Option (Int32 × mv_M) :=
  if (lg_cmp s1 s0) = 0 then
    fL_law_1104 K23 x4 M
  else
    some (0, M)
set_option maxRecDepth 100000 in
set_option maxHeartbeats 4000000 in
theorem zL_law_1098 {l : Launch} {d : Nat} {Q : Int32 → mv_M → Prop} {n : Nat} {K23 : Int32 → mv_M → Option (Int32 × mv_M)} (hd : 343 ≤ d) (hl : l.stackTraces = false) (hK23 : ∀ (x4 : Int32) (M : mv_M), mv_ok (K23 x4 M) Q → mv l mL_law d (4 * n) 23 [(0, .ref 302), (1, .ref 0), (2, .ref 62), (3, .ref 106), (4, .int x4)] [] M (mv_qI Q)) (x4 : Int32) (s0 : Int64) (s1 : Int64) (M : mv_M) (h : mv_ok (fL_law_1098 K23 x4 s0 s1 M) Q) : mv l mL_law d (4 * n) 1098 [(0, .ref 302), (1, .ref 0), (2, .ref 62), (3, .ref 106), (4, .int x4)] [.long s0, .long s1] M (mv_qI Q) := by
  unfold fL_law_1098 at h
  refine mv_lcmp dL_law_1098 ?_
  refine mv_if_eq 1104 dL_law_1099 (by decide) (fun z => ?_) (fun z => ?_)
  · replace h := mv_ifT z h
    refine mv_sub [0, 1, 2, 3, 4] rfl ?_
    exact zL_law_1104 hd hl hK23 x4 M h
  · replace h := mv_ifF z h
    refine mv_iconst 0 dL_law_1102 (by decide) ?_
    exact mv_zret (by decide) rfl dL_law_1103 ⟨_, rfl, h⟩
noncomputable def fL_law_23 : Nat → Int32 → mv_M → Option (Int32 × mv_M)
  | 0, _, _ => none
  | n + 1, x4, M =>
    mv_lenE (M.2.2 302 0) fun L1 =>
    if ((Int32.ofNat L1) - 6) < x4 then
      some (1, M)
    else
      mv_lenE (M.2.2 302 0) fun L2 =>
      mv_chk (mv_inb x4 L2) <|
      if ((M.1 302 x4.toNatClampNeg) &&& 15) = 0 then
        mv_lenE (M.2.2 302 0) fun L5 =>
        mv_chk (mv_inb (x4 + 1) L5) <|
        mv_lenE (M.2.2 302 0) fun L7 =>
        mv_chk (mv_inb (x4 + 2) L7) <|
        mv_lenE (M.2.2 302 0) fun L9 =>
        mv_chk (mv_inb (x4 + 3) L9) <|
        mv_lenE (M.2.2 302 0) fun L11 =>
        mv_chk (mv_inb (x4 + 4) L11) <|
        mv_lenE (M.2.2 302 0) fun L13 =>
        mv_chk (mv_inb (x4 + 5) L13) <|
        mv_bind (fL_feed (M.1 302 (x4 + 1).toNatClampNeg) (M.1 302 (x4 + 2).toNatClampNeg) (M.1 302 (x4 + 3).toNatClampNeg) (M.1 302 (x4 + 4).toNatClampNeg) (M.1 302 (x4 + 5).toNatClampNeg) M) fun r15 M16 =>
        mv_lenE (M16.2.2 302 0) fun L17 =>
        mv_chk (mv_inb (x4 + 1) L17) <|
        mv_lenE (M16.2.2 302 0) fun L19 =>
        mv_chk (mv_inb (x4 + 2) L19) <|
        mv_lenE (M16.2.2 302 0) fun L21 =>
        mv_chk (mv_inb (x4 + 3) L21) <|
        mv_lenE (M16.2.2 302 0) fun L23 =>
        mv_chk (mv_inb (x4 + 4) L23) <|
        mv_lenE (M16.2.2 302 0) fun L25 =>
        mv_chk (mv_inb (x4 + 5) L25) <|
        mv_bind (fX11_feed (M16.1 302 (x4 + 1).toNatClampNeg) (M16.1 302 (x4 + 2).toNatClampNeg) (M16.1 302 (x4 + 3).toNatClampNeg) (M16.1 302 (x4 + 4).toNatClampNeg) (M16.1 302 (x4 + 5).toNatClampNeg) M16) fun r27 M28 =>
        mv_bind (fX11_thrown M28) fun r29 M30 =>
        if r29 = r15 then
          if r15 = 0 then
            if (lg_cmp (M30.2.1 106 (0 : Int32).toNatClampNeg) (r27.toInt64)) = 0 then
              fL_law_221 (fun x4 M => fL_law_23 n x4 M) x4 M30
            else
              some (0, M30)
          else
            fL_law_221 (fun x4 M => fL_law_23 n x4 M) x4 M30
        else
          some (0, M30)
      else
        if ((M.1 302 x4.toNatClampNeg) &&& 15) = 1 then
          mv_lenE (M.2.2 302 0) fun L32 =>
          mv_chk (mv_inb (x4 + 1) L32) <|
          mv_bind (fL_cut (M.1 302 (x4 + 1).toNatClampNeg) M) fun r34 M35 =>
          mv_lenE (M35.2.2 302 0) fun L36 =>
          mv_chk (mv_inb (x4 + 1) L36) <|
          mv_bind (fX11_cut (M35.1 302 (x4 + 1).toNatClampNeg) M35) fun r38 M39 =>
          mv_bind (fX11_thrown M39) fun r40 M41 =>
          if r40 = r34 then
            if r34 = 0 then
              if (lg_cmp (M41.2.1 106 (0 : Int32).toNatClampNeg) (r38.toInt64)) = 0 then
                fL_law_277 (fun x4 M => fL_law_23 n x4 M) x4 M41
              else
                some (0, M41)
            else
              fL_law_277 (fun x4 M => fL_law_23 n x4 M) x4 M41
          else
            some (0, M41)
        else
          if ((M.1 302 x4.toNatClampNeg) &&& 15) = 2 then
            mv_bind (fX10_read M) fun r43 M44 =>
            mv_bind (fX11_read M44) fun r45 M46 =>
            if r43 = r45 then
              fL_law_1107 (fun x4 M => fL_law_23 n x4 M) x4 M46
            else
              some (0, M46)
          else
            if ((M.1 302 x4.toNatClampNeg) &&& 15) = 3 then
              mv_bind (fX10_place M) fun r48 M49 =>
              mv_bind (fX11_place M49) fun r50 M51 =>
              if r48 = r50 then
                fL_law_1107 (fun x4 M => fL_law_23 n x4 M) x4 M51
              else
                some (0, M51)
            else
              if ((M.1 302 x4.toNatClampNeg) &&& 15) = 4 then
                mv_lenE (M.2.2 302 0) fun L53 =>
                mv_chk (mv_inb (x4 + 1) L53) <|
                mv_lenE (M.2.2 302 0) fun L55 =>
                mv_chk (mv_inb (x4 + 2) L55) <|
                mv_bind (fL_function (M.1 302 (x4 + 1).toNatClampNeg) (M.1 302 (x4 + 2).toNatClampNeg) M) fun r57 M58 =>
                mv_lenE (M58.2.2 302 0) fun L59 =>
                mv_chk (mv_inb (x4 + 1) L59) <|
                mv_lenE (M58.2.2 302 0) fun L61 =>
                mv_chk (mv_inb (x4 + 2) L61) <|
                mv_bind (fX11_function (M58.1 302 (x4 + 1).toNatClampNeg) (M58.1 302 (x4 + 2).toNatClampNeg) M58) fun r63 M64 =>
                mv_bind (fX11_thrown M64) fun r65 M66 =>
                if r65 = r57 then
                  if r57 = 0 then
                    if (lg_cmp (M66.2.1 106 (0 : Int32).toNatClampNeg) (r63.toInt64)) = 0 then
                      fL_law_371 (fun x4 M => fL_law_23 n x4 M) x4 M66
                    else
                      some (0, M66)
                  else
                    fL_law_371 (fun x4 M => fL_law_23 n x4 M) x4 M66
                else
                  some (0, M66)
              else
                if ((M.1 302 x4.toNatClampNeg) &&& 15) = 5 then
                  mv_bind (fL_rounds M) fun r68 M69 =>
                  mv_bind (fX11_rounds M69) fun r70 M71 =>
                  mv_bind (fX11_thrown M71) fun r72 M73 =>
                  if r72 = r68 then
                    if r68 = 0 then
                      if (lg_cmp (M73.2.1 106 (0 : Int32).toNatClampNeg) (r70.toInt64)) = 0 then
                        fL_law_415 (fun x4 M => fL_law_23 n x4 M) x4 M73
                      else
                        some (0, M73)
                    else
                      fL_law_415 (fun x4 M => fL_law_23 n x4 M) x4 M73
                  else
                    some (0, M73)
                else
                  if ((M.1 302 x4.toNatClampNeg) &&& 15) = 6 then
                    mv_lenE (M.2.2 302 0) fun L75 =>
                    mv_chk (mv_inb (x4 + 1) L75) <|
                    mv_lenE (M.2.2 302 0) fun L77 =>
                    mv_chk (mv_inb (x4 + 2) L77) <|
                    mv_bind (fL_dead (M.1 302 (x4 + 1).toNatClampNeg) (M.1 302 (x4 + 2).toNatClampNeg) M) fun r79 M80 =>
                    mv_lenE (M80.2.2 302 0) fun L81 =>
                    mv_chk (mv_inb (x4 + 1) L81) <|
                    mv_lenE (M80.2.2 302 0) fun L83 =>
                    mv_chk (mv_inb (x4 + 2) L83) <|
                    mv_bind (fX11_dead (M80.1 302 (x4 + 1).toNatClampNeg) (M80.1 302 (x4 + 2).toNatClampNeg) M80) fun r85 M86 =>
                    mv_bind (fX11_thrown M86) fun r87 M88 =>
                    if r87 = r79 then
                      if r79 = 0 then
                        if r85 = 0 then
                          fL_law_484 (fun x4 M => fL_law_23 n x4 M) x4 0 (M88.2.1 106 (0 : Int32).toNatClampNeg) M88
                        else
                          fL_law_484 (fun x4 M => fL_law_23 n x4 M) x4 1 (M88.2.1 106 (0 : Int32).toNatClampNeg) M88
                      else
                        fL_law_490 (fun x4 M => fL_law_23 n x4 M) x4 M88
                    else
                      some (0, M88)
                  else
                    if ((M.1 302 x4.toNatClampNeg) &&& 15) = 7 then
                      mv_lenE (M.2.2 302 0) fun L90 =>
                      mv_chk (mv_inb (x4 + 1) L90) <|
                      mv_lenE (M.2.2 302 0) fun L92 =>
                      mv_chk (mv_inb (x4 + 2) L92) <|
                      mv_lenE (M.2.2 302 0) fun L94 =>
                      mv_chk (mv_inb (x4 + 3) L94) <|
                      mv_bind (fL_asks (M.1 302 (x4 + 1).toNatClampNeg) (M.1 302 (x4 + 2).toNatClampNeg) (M.1 302 (x4 + 3).toNatClampNeg) M) fun r96 M97 =>
                      mv_lenE (M97.2.2 302 0) fun L98 =>
                      mv_chk (mv_inb (x4 + 1) L98) <|
                      mv_lenE (M97.2.2 302 0) fun L100 =>
                      mv_chk (mv_inb (x4 + 2) L100) <|
                      mv_lenE (M97.2.2 302 0) fun L102 =>
                      mv_chk (mv_inb (x4 + 3) L102) <|
                      mv_bind (fX11_asks_ (M97.1 302 (x4 + 1).toNatClampNeg) (M97.1 302 (x4 + 2).toNatClampNeg) (M97.1 302 (x4 + 3).toNatClampNeg) M97) fun r104 M105 =>
                      mv_bind (fX11_thrown M105) fun r106 M107 =>
                      if r106 = r96 then
                        if r96 = 0 then
                          if (lg_cmp (M107.2.1 106 (0 : Int32).toNatClampNeg) (r104.toInt64)) = 0 then
                            fL_law_570 (fun x4 M => fL_law_23 n x4 M) x4 M107
                          else
                            some (0, M107)
                        else
                          fL_law_570 (fun x4 M => fL_law_23 n x4 M) x4 M107
                      else
                        some (0, M107)
                    else
                      if ((M.1 302 x4.toNatClampNeg) &&& 15) = 8 then
                        mv_lenE (M.2.2 302 0) fun L109 =>
                        mv_chk (mv_inb (x4 + 1) L109) <|
                        mv_lenE (M.2.2 302 0) fun L111 =>
                        mv_chk (mv_inb (x4 + 2) L111) <|
                        mv_bind (fL_strict (M.1 302 (x4 + 1).toNatClampNeg) (M.1 302 (x4 + 2).toNatClampNeg) M) fun r113 M114 =>
                        mv_lenE (M114.2.2 302 0) fun L115 =>
                        mv_chk (mv_inb (x4 + 1) L115) <|
                        mv_lenE (M114.2.2 302 0) fun L117 =>
                        mv_chk (mv_inb (x4 + 2) L117) <|
                        mv_bind (fX11_strict (M114.1 302 (x4 + 1).toNatClampNeg) (M114.1 302 (x4 + 2).toNatClampNeg) M114) fun r119 M120 =>
                        mv_bind (fX11_thrown M120) fun r121 M122 =>
                        if r121 = r113 then
                          if r113 = 0 then
                            if r119 = 0 then
                              fL_law_639 (fun x4 M => fL_law_23 n x4 M) x4 0 (M122.2.1 106 (0 : Int32).toNatClampNeg) M122
                            else
                              fL_law_639 (fun x4 M => fL_law_23 n x4 M) x4 1 (M122.2.1 106 (0 : Int32).toNatClampNeg) M122
                          else
                            fL_law_645 (fun x4 M => fL_law_23 n x4 M) x4 M122
                        else
                          some (0, M122)
                      else
                        if ((M.1 302 x4.toNatClampNeg) &&& 15) = 9 then
                          mv_lenE (M.2.2 302 0) fun L124 =>
                          mv_chk (mv_inb (x4 + 1) L124) <|
                          mv_lenE (M.2.2 302 0) fun L126 =>
                          mv_chk (mv_inb (x4 + 2) L126) <|
                          mv_lenE (M.2.2 302 0) fun L128 =>
                          mv_chk (mv_inb (x4 + 3) L128) <|
                          mv_lenE (M.2.2 302 0) fun L130 =>
                          mv_chk (mv_inb (x4 + 4) L130) <|
                          mv_bind (fL_plant (M.1 302 (x4 + 1).toNatClampNeg) (M.1 302 (x4 + 2).toNatClampNeg) (M.1 302 (x4 + 3).toNatClampNeg) (M.1 302 (x4 + 4).toNatClampNeg) M) fun r132 M133 =>
                          mv_lenE (M133.2.2 302 0) fun L134 =>
                          mv_chk (mv_inb (x4 + 1) L134) <|
                          mv_lenE (M133.2.2 302 0) fun L136 =>
                          mv_chk (mv_inb (x4 + 2) L136) <|
                          mv_lenE (M133.2.2 302 0) fun L138 =>
                          mv_chk (mv_inb (x4 + 3) L138) <|
                          mv_lenE (M133.2.2 302 0) fun L140 =>
                          mv_chk (mv_inb (x4 + 4) L140) <|
                          mv_bind (fX11_plant (M133.1 302 (x4 + 1).toNatClampNeg) (M133.1 302 (x4 + 2).toNatClampNeg) (M133.1 302 (x4 + 3).toNatClampNeg) (M133.1 302 (x4 + 4).toNatClampNeg) M133) fun r142 M143 =>
                          mv_bind (fX11_thrown M143) fun r144 M145 =>
                          if r144 = r132 then
                            if r132 = 0 then
                              if (lg_cmp (M145.2.1 106 (0 : Int32).toNatClampNeg) (r142.toInt64)) = 0 then
                                fL_law_737 (fun x4 M => fL_law_23 n x4 M) x4 M145
                              else
                                some (0, M145)
                            else
                              fL_law_737 (fun x4 M => fL_law_23 n x4 M) x4 M145
                          else
                            some (0, M145)
                        else
                          if ((M.1 302 x4.toNatClampNeg) &&& 15) = 10 then
                            mv_bind (fL_check M) fun r147 M148 =>
                            mv_bind (fX11_check M148) fun r149 M150 =>
                            mv_bind (fX11_thrown M150) fun r151 M152 =>
                            if r151 = r147 then
                              if r147 = 0 then
                                if (lg_cmp (M152.2.1 106 (0 : Int32).toNatClampNeg) (r149.toInt64)) = 0 then
                                  fL_law_781 (fun x4 M => fL_law_23 n x4 M) x4 M152
                                else
                                  some (0, M152)
                              else
                                fL_law_781 (fun x4 M => fL_law_23 n x4 M) x4 M152
                            else
                              some (0, M152)
                          else
                            if ((M.1 302 x4.toNatClampNeg) &&& 15) = 11 then
                              mv_lenE (M.2.2 302 0) fun L154 =>
                              mv_chk (mv_inb (x4 + 1) L154) <|
                              mv_lenE (M.2.2 302 0) fun L156 =>
                              mv_chk (mv_inb (x4 + 2) L156) <|
                              mv_bind (fL_input (M.1 302 (x4 + 1).toNatClampNeg) (M.1 302 (x4 + 2).toNatClampNeg) M) fun r158 M159 =>
                              mv_lenE (M159.2.2 302 0) fun L160 =>
                              mv_chk (mv_inb (x4 + 1) L160) <|
                              mv_lenE (M159.2.2 302 0) fun L162 =>
                              mv_chk (mv_inb (x4 + 2) L162) <|
                              mv_bind (fX11_input (M159.1 302 (x4 + 1).toNatClampNeg) (M159.1 302 (x4 + 2).toNatClampNeg) M159) fun r164 M165 =>
                              mv_bind (fX11_thrown M165) fun r166 M167 =>
                              if r166 = r158 then
                                if r158 = 0 then
                                  if (lg_cmp (M167.2.1 106 (0 : Int32).toNatClampNeg) (r164.toInt64)) = 0 then
                                    fL_law_849 (fun x4 M => fL_law_23 n x4 M) x4 M167
                                  else
                                    some (0, M167)
                                else
                                  fL_law_849 (fun x4 M => fL_law_23 n x4 M) x4 M167
                              else
                                some (0, M167)
                            else
                              if ((M.1 302 x4.toNatClampNeg) &&& 15) = 12 then
                                mv_lenE (M.2.2 302 0) fun L169 =>
                                mv_chk (mv_inb (x4 + 1) L169) <|
                                mv_lenE (M.2.2 302 0) fun L171 =>
                                mv_chk (mv_inb (x4 + 2) L171) <|
                                mv_lenE (M.2.2 302 0) fun L173 =>
                                mv_chk (mv_inb (x4 + 3) L173) <|
                                mv_bind (fL_run (M.1 302 (x4 + 1).toNatClampNeg) (M.1 302 (x4 + 2).toNatClampNeg) (M.1 302 (x4 + 3).toNatClampNeg) M) fun r175 M176 =>
                                mv_lenE (M176.2.2 302 0) fun L177 =>
                                mv_chk (mv_inb (x4 + 1) L177) <|
                                mv_lenE (M176.2.2 302 0) fun L179 =>
                                mv_chk (mv_inb (x4 + 2) L179) <|
                                mv_lenE (M176.2.2 302 0) fun L181 =>
                                mv_chk (mv_inb (x4 + 3) L181) <|
                                mv_bind (fX11_run (M176.1 302 (x4 + 1).toNatClampNeg) (M176.1 302 (x4 + 2).toNatClampNeg) (M176.1 302 (x4 + 3).toNatClampNeg) M176) fun r183 M184 =>
                                mv_bind (fX11_thrown M184) fun r185 M186 =>
                                if r185 = r175 then
                                  if r175 = 0 then
                                    if (lg_cmp (M186.2.1 106 (0 : Int32).toNatClampNeg) (r183.toInt64)) = 0 then
                                      fL_law_929 (fun x4 M => fL_law_23 n x4 M) x4 M186
                                    else
                                      some (0, M186)
                                  else
                                    fL_law_929 (fun x4 M => fL_law_23 n x4 M) x4 M186
                                else
                                  some (0, M186)
                              else
                                if ((M.1 302 x4.toNatClampNeg) &&& 15) = 13 then
                                  mv_lenE (M.2.2 302 0) fun L188 =>
                                  mv_chk (mv_inb (x4 + 1) L188) <|
                                  mv_bind (fL_told (M.1 302 (x4 + 1).toNatClampNeg) M) fun r190 M191 =>
                                  mv_lenE (M191.2.2 302 0) fun L192 =>
                                  mv_chk (mv_inb (x4 + 1) L192) <|
                                  mv_bind (fX11_told (M191.1 302 (x4 + 1).toNatClampNeg) M191) fun r194 M195 =>
                                  mv_bind (fX11_thrown M195) fun r196 M197 =>
                                  if r196 = r190 then
                                    if r190 = 0 then
                                      if (lg_cmp (M197.2.1 106 (0 : Int32).toNatClampNeg) (r194.toInt64)) = 0 then
                                        fL_law_985 (fun x4 M => fL_law_23 n x4 M) x4 M197
                                      else
                                        some (0, M197)
                                    else
                                      fL_law_985 (fun x4 M => fL_law_23 n x4 M) x4 M197
                                  else
                                    some (0, M197)
                                else
                                  if ((M.1 302 x4.toNatClampNeg) &&& 15) = 14 then
                                    mv_lenE (M.2.2 302 0) fun L199 =>
                                    mv_chk (mv_inb (x4 + 1) L199) <|
                                    mv_bind (fL_result (M.1 302 (x4 + 1).toNatClampNeg) M) fun r201 M202 =>
                                    mv_lenE (M202.2.2 302 0) fun L203 =>
                                    mv_chk (mv_inb (x4 + 1) L203) <|
                                    mv_bind (fX11_result (M202.1 302 (x4 + 1).toNatClampNeg) M202) fun r205 M206 =>
                                    mv_bind (fX11_thrown M206) fun r207 M208 =>
                                    if r207 = r201 then
                                      if r201 = 0 then
                                        if (lg_cmp (M208.2.1 106 (0 : Int32).toNatClampNeg) (r205.toInt64)) = 0 then
                                          fL_law_1041 (fun x4 M => fL_law_23 n x4 M) x4 M208
                                        else
                                          some (0, M208)
                                      else
                                        fL_law_1041 (fun x4 M => fL_law_23 n x4 M) x4 M208
                                    else
                                      some (0, M208)
                                  else
                                    if ((M.1 302 x4.toNatClampNeg) &&& 15) = 15 then
                                      mv_lenE (M.2.2 302 0) fun L210 =>
                                      mv_chk (mv_inb (x4 + 1) L210) <|
                                      mv_bind (fL_needed (M.1 302 (x4 + 1).toNatClampNeg) M) fun r212 M213 =>
                                      mv_lenE (M213.2.2 302 0) fun L214 =>
                                      mv_chk (mv_inb (x4 + 1) L214) <|
                                      mv_bind (fX11_needed (M213.1 302 (x4 + 1).toNatClampNeg) M213) fun r216 M217 =>
                                      mv_bind (fX11_thrown M217) fun r218 M219 =>
                                      if r218 = r212 then
                                        if r212 = 0 then
                                          if r216 = 0 then
                                            fL_law_1098 (fun x4 M => fL_law_23 n x4 M) x4 0 (M219.2.1 106 (0 : Int32).toNatClampNeg) M219
                                          else
                                            fL_law_1098 (fun x4 M => fL_law_23 n x4 M) x4 1 (M219.2.1 106 (0 : Int32).toNatClampNeg) M219
                                        else
                                          fL_law_1104 (fun x4 M => fL_law_23 n x4 M) x4 M219
                                      else
                                        some (0, M219)
                                    else
                                      fL_law_1107 (fun x4 M => fL_law_23 n x4 M) x4 M
set_option maxRecDepth 100000 in
set_option maxHeartbeats 4000000 in
theorem zL_law_23 {l : Launch} {d : Nat} {Q : Int32 → mv_M → Prop} (hd : 343 ≤ d) (hl : l.stackTraces = false) : ∀ (n : Nat) (x4 : Int32) (M : mv_M), mv_ok (fL_law_23 n x4 M) Q → mv l mL_law d (4 * n) 23 [(0, .ref 302), (1, .ref 0), (2, .ref 62), (3, .ref 106), (4, .int x4)] [] M (mv_qI Q) := by
  intro n
  induction n with
  | zero =>
    intro x4 M h
    rw [fL_law_23] at h
    exact False.elim h
  | succ n ih =>
    intro x4 M h
    rw [fL_law_23] at h
    refine mv_iload 4 dL_law_23 rfl ?_
    refine mv_aload_n 0 dL_law_25 rfl ?_
    obtain ⟨L1, eL1, h⟩ := mv_lenEE h
    refine mv_lens eL1 dL_law_26 ?_
    refine mv_bipush 6 dL_law_27 (by decide) ?_
    refine mv_isub dL_law_29 ?_
    refine mv_icmp_gt 1113 dL_law_30 (by decide) (fun z => ?_) (fun z => ?_)
    · replace h := mv_ifT z h
      refine mv_iconst 1 dL_law_1113 (by decide) ?_
      exact mv_zret (by decide) rfl dL_law_1114 ⟨_, rfl, h⟩
    · replace h := mv_ifF z h
      refine mv_aload_n 0 dL_law_33 rfl ?_
      refine mv_iload 4 dL_law_34 rfl ?_
      obtain ⟨L2, eL2, h⟩ := mv_lenEE h
      obtain ⟨hi3, h⟩ := mv_chkE h
      refine mv_lds eL2 (mv_inE hi3) dL_law_36 ?_
      refine mv_bipush 15 dL_law_37 (by decide) ?_
      refine mv_iand dL_law_39 ?_
      by_cases z4 : ((M.1 302 x4.toNatClampNeg) &&& 15) = 0
      · replace h := mv_ifT z4 h
        refine mv_tableIn (off := 80) 120 dL_law_40 (by rw [z4]; decide) (by rw [z4]; decide) (by rw [z4]; rfl) (by decide) ?_
        refine mv_aload_n 1 dL_law_120 rfl ?_
        refine mv_aload_n 0 dL_law_121 rfl ?_
        refine mv_iload 4 dL_law_122 rfl ?_
        refine mv_iconst 1 dL_law_124 (by decide) ?_
        refine mv_iadd dL_law_125 ?_
        obtain ⟨L5, eL5, h⟩ := mv_lenEE h
        obtain ⟨hi6, h⟩ := mv_chkE h
        refine mv_lds eL5 (mv_inE hi6) dL_law_126 ?_
        refine mv_aload_n 0 dL_law_127 rfl ?_
        refine mv_iload 4 dL_law_128 rfl ?_
        refine mv_iconst 2 dL_law_130 (by decide) ?_
        refine mv_iadd dL_law_131 ?_
        obtain ⟨L7, eL7, h⟩ := mv_lenEE h
        obtain ⟨hi8, h⟩ := mv_chkE h
        refine mv_lds eL7 (mv_inE hi8) dL_law_132 ?_
        refine mv_aload_n 0 dL_law_133 rfl ?_
        refine mv_iload 4 dL_law_134 rfl ?_
        refine mv_iconst 3 dL_law_136 (by decide) ?_
        refine mv_iadd dL_law_137 ?_
        obtain ⟨L9, eL9, h⟩ := mv_lenEE h
        obtain ⟨hi10, h⟩ := mv_chkE h
        refine mv_lds eL9 (mv_inE hi10) dL_law_138 ?_
        refine mv_aload_n 0 dL_law_139 rfl ?_
        refine mv_iload 4 dL_law_140 rfl ?_
        refine mv_iconst 4 dL_law_142 (by decide) ?_
        refine mv_iadd dL_law_143 ?_
        obtain ⟨L11, eL11, h⟩ := mv_lenEE h
        obtain ⟨hi12, h⟩ := mv_chkE h
        refine mv_lds eL11 (mv_inE hi12) dL_law_144 ?_
        refine mv_aload_n 0 dL_law_145 rfl ?_
        refine mv_iload 4 dL_law_146 rfl ?_
        refine mv_iconst 5 dL_law_148 (by decide) ?_
        refine mv_iadd dL_law_149 ?_
        obtain ⟨L13, eL13, h⟩ := mv_lenEE h
        obtain ⟨hi14, h⟩ := mv_chkE h
        refine mv_lds eL13 (mv_inE hi14) dL_law_150 ?_
        refine mv_aload_n 3 dL_law_151 rfl ?_
        refine mv_csH (k' := 4) (k2 := 4 * n) (As := [.ref 0, .int (M.1 302 (x4 + 1).toNatClampNeg), .int (M.1 302 (x4 + 2).toNatClampNeg), .int (M.1 302 (x4 + 3).toNatClampNeg), .int (M.1 302 (x4 + 4).toNatClampNeg), .int (M.1 302 (x4 + 5).toNatClampNeg), .ref 106]) (st := []) okL_feed lL_69 rfl (Nat.le_of_ble_eq_true rfl) rfl (Nat.le_of_ble_eq_true rfl) dL_law_152 (by omega) (by omega) rfl (zL_feed (d := d - 1) (by omega) hl (M.1 302 (x4 + 1).toNatClampNeg) (M.1 302 (x4 + 2).toNatClampNeg) (M.1 302 (x4 + 3).toNatClampNeg) (M.1 302 (x4 + 4).toNatClampNeg) (M.1 302 (x4 + 5).toNatClampNeg) M (mv_bindE h)) (fun r15 M16 h => ?_)
        refine mv_istore [(5, .int r15), (0, .ref 302), (1, .ref 0), (2, .ref 62), (3, .ref 106), (4, .int x4)] dL_law_155 (by decide) rfl ?_
        refine mv_aload_n 3 dL_law_157 rfl ?_
        refine mv_aload_n 1 dL_law_158 rfl ?_
        refine mv_iload 5 dL_law_159 rfl ?_
        refine mv_iconst 1 dL_law_161 (by decide) ?_
        refine mv_iadd dL_law_162 ?_
        obtain ⟨L17, eL17, h⟩ := mv_lenEE h
        obtain ⟨hi18, h⟩ := mv_chkE h
        refine mv_lds eL17 (mv_inE hi18) dL_law_163 ?_
        refine mv_aload_n 1 dL_law_164 rfl ?_
        refine mv_iload 5 dL_law_165 rfl ?_
        refine mv_iconst 2 dL_law_167 (by decide) ?_
        refine mv_iadd dL_law_168 ?_
        obtain ⟨L19, eL19, h⟩ := mv_lenEE h
        obtain ⟨hi20, h⟩ := mv_chkE h
        refine mv_lds eL19 (mv_inE hi20) dL_law_169 ?_
        refine mv_aload_n 1 dL_law_170 rfl ?_
        refine mv_iload 5 dL_law_171 rfl ?_
        refine mv_iconst 3 dL_law_173 (by decide) ?_
        refine mv_iadd dL_law_174 ?_
        obtain ⟨L21, eL21, h⟩ := mv_lenEE h
        obtain ⟨hi22, h⟩ := mv_chkE h
        refine mv_lds eL21 (mv_inE hi22) dL_law_175 ?_
        refine mv_aload_n 1 dL_law_176 rfl ?_
        refine mv_iload 5 dL_law_177 rfl ?_
        refine mv_iconst 4 dL_law_179 (by decide) ?_
        refine mv_iadd dL_law_180 ?_
        obtain ⟨L23, eL23, h⟩ := mv_lenEE h
        obtain ⟨hi24, h⟩ := mv_chkE h
        refine mv_lds eL23 (mv_inE hi24) dL_law_181 ?_
        refine mv_aload_n 1 dL_law_182 rfl ?_
        refine mv_iload 5 dL_law_183 rfl ?_
        refine mv_iconst 5 dL_law_185 (by decide) ?_
        refine mv_iadd dL_law_186 ?_
        obtain ⟨L25, eL25, h⟩ := mv_lenEE h
        obtain ⟨hi26, h⟩ := mv_chkE h
        refine mv_lds eL25 (mv_inE hi26) dL_law_187 ?_
        refine mv_cvI (As := [.int (M16.1 302 (x4 + 1).toNatClampNeg), .int (M16.1 302 (x4 + 2).toNatClampNeg), .int (M16.1 302 (x4 + 3).toNatClampNeg), .int (M16.1 302 (x4 + 4).toNatClampNeg), .int (M16.1 302 (x4 + 5).toNatClampNeg)]) (st := []) okX11_feed lL_74 (by decide) rfl rfl rfl (Nat.le_of_ble_eq_true rfl) rfl (Nat.le_of_ble_eq_true rfl) dL_law_188 (by omega) rfl (zX11_feed (d := d - 1) (by omega) (M16.1 302 (x4 + 1).toNatClampNeg) (M16.1 302 (x4 + 2).toNatClampNeg) (M16.1 302 (x4 + 3).toNatClampNeg) (M16.1 302 (x4 + 4).toNatClampNeg) (M16.1 302 (x4 + 5).toNatClampNeg) M16 (mv_bindE h)) (fun r27 M28 h => ?_)
        refine mv_istore [(6, .int r27), (5, .int r15), (0, .ref 302), (1, .ref 0), (2, .ref 62), (3, .ref 106), (4, .int x4)] dL_law_191 (by decide) rfl ?_
        refine mv_aload_n 4 dL_law_193 rfl ?_
        refine mv_cvI (As := []) (st := []) okX11_thrown lL_75 (by decide) rfl rfl rfl (Nat.le_of_ble_eq_true rfl) rfl (Nat.le_of_ble_eq_true rfl) dL_law_194 (by omega) rfl (zX11_thrown (d := d - 1) (by omega) M28 (mv_bindE h)) (fun r29 M30 h => ?_)
        refine mv_iload 1 dL_law_197 rfl ?_
        refine mv_icmp_eq 204 dL_law_199 (by decide) (fun z => ?_) (fun z => ?_)
        · replace h := mv_ifT z h
          refine mv_iload 1 dL_law_204 rfl ?_
          refine mv_if_ne 221 dL_law_206 (by decide) (fun z => ?_) (fun z => ?_)
          · replace h := mv_ifF z h
            refine mv_sub [2, 3, 4, 5, 6] rfl ?_
            exact zL_law_221 hd hl ih x4 M30 h
          · replace h := mv_ifT z h
            refine mv_aload_n 5 dL_law_209 rfl ?_
            refine mv_iconst 0 dL_law_210 (by decide) ?_
            refine mv_lld (by decide) rfl (mv_inE (by decide)) dL_law_211 ?_
            refine mv_iload 0 dL_law_212 rfl ?_
            refine mv_i2l dL_law_214 ?_
            refine mv_lcmp dL_law_215 ?_
            refine mv_if_eq 221 dL_law_216 (by decide) (fun z => ?_) (fun z => ?_)
            · replace h := mv_ifT z h
              refine mv_sub [2, 3, 4, 5, 6] rfl ?_
              exact zL_law_221 hd hl ih x4 M30 h
            · replace h := mv_ifF z h
              refine mv_iconst 0 dL_law_219 (by decide) ?_
              exact mv_zret (by decide) rfl dL_law_220 ⟨_, rfl, h⟩
        · replace h := mv_ifF z h
          refine mv_iconst 0 dL_law_202 (by decide) ?_
          exact mv_zret (by decide) rfl dL_law_203 ⟨_, rfl, h⟩
      · replace h := mv_ifF z4 h
        by_cases z31 : ((M.1 302 x4.toNatClampNeg) &&& 15) = 1
        · replace h := mv_ifT z31 h
          refine mv_tableIn (off := 184) 224 dL_law_40 (by rw [z31]; decide) (by rw [z31]; decide) (by rw [z31]; rfl) (by decide) ?_
          refine mv_aload_n 1 dL_law_224 rfl ?_
          refine mv_aload_n 0 dL_law_225 rfl ?_
          refine mv_iload 4 dL_law_226 rfl ?_
          refine mv_iconst 1 dL_law_228 (by decide) ?_
          refine mv_iadd dL_law_229 ?_
          obtain ⟨L32, eL32, h⟩ := mv_lenEE h
          obtain ⟨hi33, h⟩ := mv_chkE h
          refine mv_lds eL32 (mv_inE hi33) dL_law_230 ?_
          refine mv_aload_n 3 dL_law_231 rfl ?_
          refine mv_csH (k' := 4) (k2 := 4 * n) (As := [.ref 0, .int (M.1 302 (x4 + 1).toNatClampNeg), .ref 106]) (st := []) okL_cut lL_78 rfl (Nat.le_of_ble_eq_true rfl) rfl (Nat.le_of_ble_eq_true rfl) dL_law_232 (by omega) (by omega) rfl (zL_cut (d := d - 1) (by omega) hl (M.1 302 (x4 + 1).toNatClampNeg) M (mv_bindE h)) (fun r34 M35 h => ?_)
          refine mv_istore [(5, .int r34), (0, .ref 302), (1, .ref 0), (2, .ref 62), (3, .ref 106), (4, .int x4)] dL_law_235 (by decide) rfl ?_
          refine mv_aload_n 3 dL_law_237 rfl ?_
          refine mv_aload_n 1 dL_law_238 rfl ?_
          refine mv_iload 5 dL_law_239 rfl ?_
          refine mv_iconst 1 dL_law_241 (by decide) ?_
          refine mv_iadd dL_law_242 ?_
          obtain ⟨L36, eL36, h⟩ := mv_lenEE h
          obtain ⟨hi37, h⟩ := mv_chkE h
          refine mv_lds eL36 (mv_inE hi37) dL_law_243 ?_
          refine mv_cvI (As := [.int (M35.1 302 (x4 + 1).toNatClampNeg)]) (st := []) okX11_cut lL_81 (by decide) rfl rfl rfl (Nat.le_of_ble_eq_true rfl) rfl (Nat.le_of_ble_eq_true rfl) dL_law_244 (by omega) rfl (zX11_cut (d := d - 1) (by omega) (M35.1 302 (x4 + 1).toNatClampNeg) M35 (mv_bindE h)) (fun r38 M39 h => ?_)
          refine mv_istore [(6, .int r38), (5, .int r34), (0, .ref 302), (1, .ref 0), (2, .ref 62), (3, .ref 106), (4, .int x4)] dL_law_247 (by decide) rfl ?_
          refine mv_aload_n 4 dL_law_249 rfl ?_
          refine mv_cvI (As := []) (st := []) okX11_thrown lL_75 (by decide) rfl rfl rfl (Nat.le_of_ble_eq_true rfl) rfl (Nat.le_of_ble_eq_true rfl) dL_law_250 (by omega) rfl (zX11_thrown (d := d - 1) (by omega) M39 (mv_bindE h)) (fun r40 M41 h => ?_)
          refine mv_iload 1 dL_law_253 rfl ?_
          refine mv_icmp_eq 260 dL_law_255 (by decide) (fun z => ?_) (fun z => ?_)
          · replace h := mv_ifT z h
            refine mv_iload 1 dL_law_260 rfl ?_
            refine mv_if_ne 277 dL_law_262 (by decide) (fun z => ?_) (fun z => ?_)
            · replace h := mv_ifF z h
              refine mv_sub [2, 3, 4, 5, 6] rfl ?_
              exact zL_law_277 hd hl ih x4 M41 h
            · replace h := mv_ifT z h
              refine mv_aload_n 5 dL_law_265 rfl ?_
              refine mv_iconst 0 dL_law_266 (by decide) ?_
              refine mv_lld (by decide) rfl (mv_inE (by decide)) dL_law_267 ?_
              refine mv_iload 0 dL_law_268 rfl ?_
              refine mv_i2l dL_law_270 ?_
              refine mv_lcmp dL_law_271 ?_
              refine mv_if_eq 277 dL_law_272 (by decide) (fun z => ?_) (fun z => ?_)
              · replace h := mv_ifT z h
                refine mv_sub [2, 3, 4, 5, 6] rfl ?_
                exact zL_law_277 hd hl ih x4 M41 h
              · replace h := mv_ifF z h
                refine mv_iconst 0 dL_law_275 (by decide) ?_
                exact mv_zret (by decide) rfl dL_law_276 ⟨_, rfl, h⟩
          · replace h := mv_ifF z h
            refine mv_iconst 0 dL_law_258 (by decide) ?_
            exact mv_zret (by decide) rfl dL_law_259 ⟨_, rfl, h⟩
        · replace h := mv_ifF z31 h
          by_cases z42 : ((M.1 302 x4.toNatClampNeg) &&& 15) = 2
          · replace h := mv_ifT z42 h
            refine mv_tableIn (off := 240) 280 dL_law_40 (by rw [z42]; decide) (by rw [z42]; decide) (by rw [z42]; rfl) (by decide) ?_
            refine mv_aload_n 1 dL_law_280 rfl ?_
            refine mv_cvI (As := []) (st := []) okX10_read lL_82 (by decide) rfl rfl rfl (Nat.le_of_ble_eq_true rfl) rfl (Nat.le_of_ble_eq_true rfl) dL_law_281 (by omega) rfl (zX10_read (d := d - 1) (by omega) M (mv_bindE h)) (fun r43 M44 h => ?_)
            refine mv_aload_n 2 dL_law_284 rfl ?_
            refine mv_cvI (As := []) (st := [.int r43]) okX11_read lL_85 (by decide) rfl rfl rfl (Nat.le_of_ble_eq_true rfl) rfl (Nat.le_of_ble_eq_true rfl) dL_law_285 (by omega) rfl (zX11_read (d := d - 1) (by omega) M44 (mv_bindE h)) (fun r45 M46 h => ?_)
            refine mv_icmp_eq 1107 dL_law_288 (by decide) (fun z => ?_) (fun z => ?_)
            · replace h := mv_ifT z h
              refine mv_wk (k2 := 4 * n) (by omega) ?_
              refine mv_sub [0, 1, 2, 3, 4] rfl ?_
              exact zL_law_1107 hd hl ih x4 M46 h
            · replace h := mv_ifF z h
              refine mv_iconst 0 dL_law_291 (by decide) ?_
              exact mv_zret (by decide) rfl dL_law_292 ⟨_, rfl, h⟩
          · replace h := mv_ifF z42 h
            by_cases z47 : ((M.1 302 x4.toNatClampNeg) &&& 15) = 3
            · replace h := mv_ifT z47 h
              refine mv_tableIn (off := 253) 293 dL_law_40 (by rw [z47]; decide) (by rw [z47]; decide) (by rw [z47]; rfl) (by decide) ?_
              refine mv_aload_n 1 dL_law_293 rfl ?_
              refine mv_cvI (As := []) (st := []) okX10_place lL_86 (by decide) rfl rfl rfl (Nat.le_of_ble_eq_true rfl) rfl (Nat.le_of_ble_eq_true rfl) dL_law_294 (by omega) rfl (zX10_place (d := d - 1) (by omega) M (mv_bindE h)) (fun r48 M49 h => ?_)
              refine mv_aload_n 2 dL_law_297 rfl ?_
              refine mv_cvI (As := []) (st := [.int r48]) okX11_place lL_89 (by decide) rfl rfl rfl (Nat.le_of_ble_eq_true rfl) rfl (Nat.le_of_ble_eq_true rfl) dL_law_298 (by omega) rfl (zX11_place (d := d - 1) (by omega) M49 (mv_bindE h)) (fun r50 M51 h => ?_)
              refine mv_icmp_eq 1107 dL_law_301 (by decide) (fun z => ?_) (fun z => ?_)
              · replace h := mv_ifT z h
                refine mv_wk (k2 := 4 * n) (by omega) ?_
                refine mv_sub [0, 1, 2, 3, 4] rfl ?_
                exact zL_law_1107 hd hl ih x4 M51 h
              · replace h := mv_ifF z h
                refine mv_iconst 0 dL_law_304 (by decide) ?_
                exact mv_zret (by decide) rfl dL_law_305 ⟨_, rfl, h⟩
            · replace h := mv_ifF z47 h
              by_cases z52 : ((M.1 302 x4.toNatClampNeg) &&& 15) = 4
              · replace h := mv_ifT z52 h
                refine mv_tableIn (off := 266) 306 dL_law_40 (by rw [z52]; decide) (by rw [z52]; decide) (by rw [z52]; rfl) (by decide) ?_
                refine mv_aload_n 1 dL_law_306 rfl ?_
                refine mv_aload_n 0 dL_law_307 rfl ?_
                refine mv_iload 4 dL_law_308 rfl ?_
                refine mv_iconst 1 dL_law_310 (by decide) ?_
                refine mv_iadd dL_law_311 ?_
                obtain ⟨L53, eL53, h⟩ := mv_lenEE h
                obtain ⟨hi54, h⟩ := mv_chkE h
                refine mv_lds eL53 (mv_inE hi54) dL_law_312 ?_
                refine mv_aload_n 0 dL_law_313 rfl ?_
                refine mv_iload 4 dL_law_314 rfl ?_
                refine mv_iconst 2 dL_law_316 (by decide) ?_
                refine mv_iadd dL_law_317 ?_
                obtain ⟨L55, eL55, h⟩ := mv_lenEE h
                obtain ⟨hi56, h⟩ := mv_chkE h
                refine mv_lds eL55 (mv_inE hi56) dL_law_318 ?_
                refine mv_aload_n 3 dL_law_319 rfl ?_
                refine mv_csH (k' := 4) (k2 := 4 * n) (As := [.ref 0, .int (M.1 302 (x4 + 1).toNatClampNeg), .int (M.1 302 (x4 + 2).toNatClampNeg), .ref 106]) (st := []) okL_function lL_90 rfl (Nat.le_of_ble_eq_true rfl) rfl (Nat.le_of_ble_eq_true rfl) dL_law_320 (by omega) (by omega) rfl (zL_function (d := d - 1) (by omega) hl (M.1 302 (x4 + 1).toNatClampNeg) (M.1 302 (x4 + 2).toNatClampNeg) M (mv_bindE h)) (fun r57 M58 h => ?_)
                refine mv_istore [(5, .int r57), (0, .ref 302), (1, .ref 0), (2, .ref 62), (3, .ref 106), (4, .int x4)] dL_law_323 (by decide) rfl ?_
                refine mv_aload_n 3 dL_law_325 rfl ?_
                refine mv_aload_n 1 dL_law_326 rfl ?_
                refine mv_iload 5 dL_law_327 rfl ?_
                refine mv_iconst 1 dL_law_329 (by decide) ?_
                refine mv_iadd dL_law_330 ?_
                obtain ⟨L59, eL59, h⟩ := mv_lenEE h
                obtain ⟨hi60, h⟩ := mv_chkE h
                refine mv_lds eL59 (mv_inE hi60) dL_law_331 ?_
                refine mv_aload_n 1 dL_law_332 rfl ?_
                refine mv_iload 5 dL_law_333 rfl ?_
                refine mv_iconst 2 dL_law_335 (by decide) ?_
                refine mv_iadd dL_law_336 ?_
                obtain ⟨L61, eL61, h⟩ := mv_lenEE h
                obtain ⟨hi62, h⟩ := mv_chkE h
                refine mv_lds eL61 (mv_inE hi62) dL_law_337 ?_
                refine mv_cvI (As := [.int (M58.1 302 (x4 + 1).toNatClampNeg), .int (M58.1 302 (x4 + 2).toNatClampNeg)]) (st := []) okX11_function lL_93 (by decide) rfl rfl rfl (Nat.le_of_ble_eq_true rfl) rfl (Nat.le_of_ble_eq_true rfl) dL_law_338 (by omega) rfl (zX11_function (d := d - 1) (by omega) (M58.1 302 (x4 + 1).toNatClampNeg) (M58.1 302 (x4 + 2).toNatClampNeg) M58 (mv_bindE h)) (fun r63 M64 h => ?_)
                refine mv_istore [(6, .int r63), (5, .int r57), (0, .ref 302), (1, .ref 0), (2, .ref 62), (3, .ref 106), (4, .int x4)] dL_law_341 (by decide) rfl ?_
                refine mv_aload_n 4 dL_law_343 rfl ?_
                refine mv_cvI (As := []) (st := []) okX11_thrown lL_75 (by decide) rfl rfl rfl (Nat.le_of_ble_eq_true rfl) rfl (Nat.le_of_ble_eq_true rfl) dL_law_344 (by omega) rfl (zX11_thrown (d := d - 1) (by omega) M64 (mv_bindE h)) (fun r65 M66 h => ?_)
                refine mv_iload 1 dL_law_347 rfl ?_
                refine mv_icmp_eq 354 dL_law_349 (by decide) (fun z => ?_) (fun z => ?_)
                · replace h := mv_ifT z h
                  refine mv_iload 1 dL_law_354 rfl ?_
                  refine mv_if_ne 371 dL_law_356 (by decide) (fun z => ?_) (fun z => ?_)
                  · replace h := mv_ifF z h
                    refine mv_sub [2, 3, 4, 5, 6] rfl ?_
                    exact zL_law_371 hd hl ih x4 M66 h
                  · replace h := mv_ifT z h
                    refine mv_aload_n 5 dL_law_359 rfl ?_
                    refine mv_iconst 0 dL_law_360 (by decide) ?_
                    refine mv_lld (by decide) rfl (mv_inE (by decide)) dL_law_361 ?_
                    refine mv_iload 0 dL_law_362 rfl ?_
                    refine mv_i2l dL_law_364 ?_
                    refine mv_lcmp dL_law_365 ?_
                    refine mv_if_eq 371 dL_law_366 (by decide) (fun z => ?_) (fun z => ?_)
                    · replace h := mv_ifT z h
                      refine mv_sub [2, 3, 4, 5, 6] rfl ?_
                      exact zL_law_371 hd hl ih x4 M66 h
                    · replace h := mv_ifF z h
                      refine mv_iconst 0 dL_law_369 (by decide) ?_
                      exact mv_zret (by decide) rfl dL_law_370 ⟨_, rfl, h⟩
                · replace h := mv_ifF z h
                  refine mv_iconst 0 dL_law_352 (by decide) ?_
                  exact mv_zret (by decide) rfl dL_law_353 ⟨_, rfl, h⟩
              · replace h := mv_ifF z52 h
                by_cases z67 : ((M.1 302 x4.toNatClampNeg) &&& 15) = 5
                · replace h := mv_ifT z67 h
                  refine mv_tableIn (off := 334) 374 dL_law_40 (by rw [z67]; decide) (by rw [z67]; decide) (by rw [z67]; rfl) (by decide) ?_
                  refine mv_aload_n 1 dL_law_374 rfl ?_
                  refine mv_aload_n 3 dL_law_375 rfl ?_
                  refine mv_csH (k' := 4) (k2 := 4 * n) (As := [.ref 0, .ref 106]) (st := []) okL_rounds lL_94 rfl (Nat.le_of_ble_eq_true rfl) rfl (Nat.le_of_ble_eq_true rfl) dL_law_376 (by omega) (by omega) rfl (zL_rounds (d := d - 1) (by omega) hl M (mv_bindE h)) (fun r68 M69 h => ?_)
                  refine mv_istore [(5, .int r68), (0, .ref 302), (1, .ref 0), (2, .ref 62), (3, .ref 106), (4, .int x4)] dL_law_379 (by decide) rfl ?_
                  refine mv_aload_n 3 dL_law_381 rfl ?_
                  refine mv_cvI (As := []) (st := []) okX11_rounds lL_97 (by decide) rfl rfl rfl (Nat.le_of_ble_eq_true rfl) rfl (Nat.le_of_ble_eq_true rfl) dL_law_382 (by omega) rfl (zX11_rounds (d := d - 1) (by omega) M69 (mv_bindE h)) (fun r70 M71 h => ?_)
                  refine mv_istore [(6, .int r70), (5, .int r68), (0, .ref 302), (1, .ref 0), (2, .ref 62), (3, .ref 106), (4, .int x4)] dL_law_385 (by decide) rfl ?_
                  refine mv_aload_n 4 dL_law_387 rfl ?_
                  refine mv_cvI (As := []) (st := []) okX11_thrown lL_75 (by decide) rfl rfl rfl (Nat.le_of_ble_eq_true rfl) rfl (Nat.le_of_ble_eq_true rfl) dL_law_388 (by omega) rfl (zX11_thrown (d := d - 1) (by omega) M71 (mv_bindE h)) (fun r72 M73 h => ?_)
                  refine mv_iload 1 dL_law_391 rfl ?_
                  refine mv_icmp_eq 398 dL_law_393 (by decide) (fun z => ?_) (fun z => ?_)
                  · replace h := mv_ifT z h
                    refine mv_iload 1 dL_law_398 rfl ?_
                    refine mv_if_ne 415 dL_law_400 (by decide) (fun z => ?_) (fun z => ?_)
                    · replace h := mv_ifF z h
                      refine mv_sub [2, 3, 4, 5, 6] rfl ?_
                      exact zL_law_415 hd hl ih x4 M73 h
                    · replace h := mv_ifT z h
                      refine mv_aload_n 5 dL_law_403 rfl ?_
                      refine mv_iconst 0 dL_law_404 (by decide) ?_
                      refine mv_lld (by decide) rfl (mv_inE (by decide)) dL_law_405 ?_
                      refine mv_iload 0 dL_law_406 rfl ?_
                      refine mv_i2l dL_law_408 ?_
                      refine mv_lcmp dL_law_409 ?_
                      refine mv_if_eq 415 dL_law_410 (by decide) (fun z => ?_) (fun z => ?_)
                      · replace h := mv_ifT z h
                        refine mv_sub [2, 3, 4, 5, 6] rfl ?_
                        exact zL_law_415 hd hl ih x4 M73 h
                      · replace h := mv_ifF z h
                        refine mv_iconst 0 dL_law_413 (by decide) ?_
                        exact mv_zret (by decide) rfl dL_law_414 ⟨_, rfl, h⟩
                  · replace h := mv_ifF z h
                    refine mv_iconst 0 dL_law_396 (by decide) ?_
                    exact mv_zret (by decide) rfl dL_law_397 ⟨_, rfl, h⟩
                · replace h := mv_ifF z67 h
                  by_cases z74 : ((M.1 302 x4.toNatClampNeg) &&& 15) = 6
                  · replace h := mv_ifT z74 h
                    refine mv_tableIn (off := 378) 418 dL_law_40 (by rw [z74]; decide) (by rw [z74]; decide) (by rw [z74]; rfl) (by decide) ?_
                    refine mv_aload_n 1 dL_law_418 rfl ?_
                    refine mv_aload_n 0 dL_law_419 rfl ?_
                    refine mv_iload 4 dL_law_420 rfl ?_
                    refine mv_iconst 1 dL_law_422 (by decide) ?_
                    refine mv_iadd dL_law_423 ?_
                    obtain ⟨L75, eL75, h⟩ := mv_lenEE h
                    obtain ⟨hi76, h⟩ := mv_chkE h
                    refine mv_lds eL75 (mv_inE hi76) dL_law_424 ?_
                    refine mv_aload_n 0 dL_law_425 rfl ?_
                    refine mv_iload 4 dL_law_426 rfl ?_
                    refine mv_iconst 2 dL_law_428 (by decide) ?_
                    refine mv_iadd dL_law_429 ?_
                    obtain ⟨L77, eL77, h⟩ := mv_lenEE h
                    obtain ⟨hi78, h⟩ := mv_chkE h
                    refine mv_lds eL77 (mv_inE hi78) dL_law_430 ?_
                    refine mv_aload_n 3 dL_law_431 rfl ?_
                    refine mv_csH (k' := 4) (k2 := 4 * n) (As := [.ref 0, .int (M.1 302 (x4 + 1).toNatClampNeg), .int (M.1 302 (x4 + 2).toNatClampNeg), .ref 106]) (st := []) okL_dead lL_98 rfl (Nat.le_of_ble_eq_true rfl) rfl (Nat.le_of_ble_eq_true rfl) dL_law_432 (by omega) (by omega) rfl (zL_dead (d := d - 1) (by omega) hl (M.1 302 (x4 + 1).toNatClampNeg) (M.1 302 (x4 + 2).toNatClampNeg) M (mv_bindE h)) (fun r79 M80 h => ?_)
                    refine mv_istore [(5, .int r79), (0, .ref 302), (1, .ref 0), (2, .ref 62), (3, .ref 106), (4, .int x4)] dL_law_435 (by decide) rfl ?_
                    refine mv_aload_n 3 dL_law_437 rfl ?_
                    refine mv_aload_n 1 dL_law_438 rfl ?_
                    refine mv_iload 5 dL_law_439 rfl ?_
                    refine mv_iconst 1 dL_law_441 (by decide) ?_
                    refine mv_iadd dL_law_442 ?_
                    obtain ⟨L81, eL81, h⟩ := mv_lenEE h
                    obtain ⟨hi82, h⟩ := mv_chkE h
                    refine mv_lds eL81 (mv_inE hi82) dL_law_443 ?_
                    refine mv_aload_n 1 dL_law_444 rfl ?_
                    refine mv_iload 5 dL_law_445 rfl ?_
                    refine mv_iconst 2 dL_law_447 (by decide) ?_
                    refine mv_iadd dL_law_448 ?_
                    obtain ⟨L83, eL83, h⟩ := mv_lenEE h
                    obtain ⟨hi84, h⟩ := mv_chkE h
                    refine mv_lds eL83 (mv_inE hi84) dL_law_449 ?_
                    refine mv_cvI (As := [.int (M80.1 302 (x4 + 1).toNatClampNeg), .int (M80.1 302 (x4 + 2).toNatClampNeg)]) (st := []) okX11_dead lL_100 (by decide) rfl rfl rfl (Nat.le_of_ble_eq_true rfl) rfl (Nat.le_of_ble_eq_true rfl) dL_law_450 (by omega) rfl (zX11_dead (d := d - 1) (by omega) (M80.1 302 (x4 + 1).toNatClampNeg) (M80.1 302 (x4 + 2).toNatClampNeg) M80 (mv_bindE h)) (fun r85 M86 h => ?_)
                    refine mv_istore [(6, .int r85), (5, .int r79), (0, .ref 302), (1, .ref 0), (2, .ref 62), (3, .ref 106), (4, .int x4)] dL_law_453 (by decide) rfl ?_
                    refine mv_aload_n 4 dL_law_455 rfl ?_
                    refine mv_cvI (As := []) (st := []) okX11_thrown lL_75 (by decide) rfl rfl rfl (Nat.le_of_ble_eq_true rfl) rfl (Nat.le_of_ble_eq_true rfl) dL_law_456 (by omega) rfl (zX11_thrown (d := d - 1) (by omega) M86 (mv_bindE h)) (fun r87 M88 h => ?_)
                    refine mv_iload 1 dL_law_459 rfl ?_
                    refine mv_icmp_eq 466 dL_law_461 (by decide) (fun z => ?_) (fun z => ?_)
                    · replace h := mv_ifT z h
                      refine mv_iload 1 dL_law_466 rfl ?_
                      refine mv_if_ne 490 dL_law_468 (by decide) (fun z => ?_) (fun z => ?_)
                      · replace h := mv_ifF z h
                        refine mv_sub [2, 3, 4, 5, 6] rfl ?_
                        exact zL_law_490 hd hl ih x4 M88 h
                      · replace h := mv_ifT z h
                        refine mv_aload_n 5 dL_law_471 rfl ?_
                        refine mv_iconst 0 dL_law_472 (by decide) ?_
                        refine mv_lld (by decide) rfl (mv_inE (by decide)) dL_law_473 ?_
                        refine mv_iload 0 dL_law_474 rfl ?_
                        refine mv_if_eq 483 dL_law_476 (by decide) (fun z => ?_) (fun z => ?_)
                        · replace h := mv_ifT z h
                          refine mv_lconst 0 dL_law_483 (by decide) ?_
                          refine mv_sub [2, 3, 4, 5, 6] rfl ?_
                          exact zL_law_484 hd hl ih x4 0 (M88.2.1 106 (0 : Int32).toNatClampNeg) M88 h
                        · replace h := mv_ifF z h
                          refine mv_lconst 1 dL_law_479 (by decide) ?_
                          refine mv_goto 484 dL_law_480 (by decide) ?_
                          refine mv_sub [2, 3, 4, 5, 6] rfl ?_
                          exact zL_law_484 hd hl ih x4 1 (M88.2.1 106 (0 : Int32).toNatClampNeg) M88 h
                    · replace h := mv_ifF z h
                      refine mv_iconst 0 dL_law_464 (by decide) ?_
                      exact mv_zret (by decide) rfl dL_law_465 ⟨_, rfl, h⟩
                  · replace h := mv_ifF z74 h
                    by_cases z89 : ((M.1 302 x4.toNatClampNeg) &&& 15) = 7
                    · replace h := mv_ifT z89 h
                      refine mv_tableIn (off := 453) 493 dL_law_40 (by rw [z89]; decide) (by rw [z89]; decide) (by rw [z89]; rfl) (by decide) ?_
                      refine mv_aload_n 1 dL_law_493 rfl ?_
                      refine mv_aload_n 0 dL_law_494 rfl ?_
                      refine mv_iload 4 dL_law_495 rfl ?_
                      refine mv_iconst 1 dL_law_497 (by decide) ?_
                      refine mv_iadd dL_law_498 ?_
                      obtain ⟨L90, eL90, h⟩ := mv_lenEE h
                      obtain ⟨hi91, h⟩ := mv_chkE h
                      refine mv_lds eL90 (mv_inE hi91) dL_law_499 ?_
                      refine mv_aload_n 0 dL_law_500 rfl ?_
                      refine mv_iload 4 dL_law_501 rfl ?_
                      refine mv_iconst 2 dL_law_503 (by decide) ?_
                      refine mv_iadd dL_law_504 ?_
                      obtain ⟨L92, eL92, h⟩ := mv_lenEE h
                      obtain ⟨hi93, h⟩ := mv_chkE h
                      refine mv_lds eL92 (mv_inE hi93) dL_law_505 ?_
                      refine mv_aload_n 0 dL_law_506 rfl ?_
                      refine mv_iload 4 dL_law_507 rfl ?_
                      refine mv_iconst 3 dL_law_509 (by decide) ?_
                      refine mv_iadd dL_law_510 ?_
                      obtain ⟨L94, eL94, h⟩ := mv_lenEE h
                      obtain ⟨hi95, h⟩ := mv_chkE h
                      refine mv_lds eL94 (mv_inE hi95) dL_law_511 ?_
                      refine mv_aload_n 3 dL_law_512 rfl ?_
                      refine mv_csH (k' := 4) (k2 := 4 * n) (As := [.ref 0, .int (M.1 302 (x4 + 1).toNatClampNeg), .int (M.1 302 (x4 + 2).toNatClampNeg), .int (M.1 302 (x4 + 3).toNatClampNeg), .ref 106]) (st := []) okL_asks lL_101 rfl (Nat.le_of_ble_eq_true rfl) rfl (Nat.le_of_ble_eq_true rfl) dL_law_513 (by omega) (by omega) rfl (zL_asks (d := d - 1) (by omega) hl (M.1 302 (x4 + 1).toNatClampNeg) (M.1 302 (x4 + 2).toNatClampNeg) (M.1 302 (x4 + 3).toNatClampNeg) M (mv_bindE h)) (fun r96 M97 h => ?_)
                      refine mv_istore [(5, .int r96), (0, .ref 302), (1, .ref 0), (2, .ref 62), (3, .ref 106), (4, .int x4)] dL_law_516 (by decide) rfl ?_
                      refine mv_aload_n 3 dL_law_518 rfl ?_
                      refine mv_aload_n 1 dL_law_519 rfl ?_
                      refine mv_iload 5 dL_law_520 rfl ?_
                      refine mv_iconst 1 dL_law_522 (by decide) ?_
                      refine mv_iadd dL_law_523 ?_
                      obtain ⟨L98, eL98, h⟩ := mv_lenEE h
                      obtain ⟨hi99, h⟩ := mv_chkE h
                      refine mv_lds eL98 (mv_inE hi99) dL_law_524 ?_
                      refine mv_aload_n 1 dL_law_525 rfl ?_
                      refine mv_iload 5 dL_law_526 rfl ?_
                      refine mv_iconst 2 dL_law_528 (by decide) ?_
                      refine mv_iadd dL_law_529 ?_
                      obtain ⟨L100, eL100, h⟩ := mv_lenEE h
                      obtain ⟨hi101, h⟩ := mv_chkE h
                      refine mv_lds eL100 (mv_inE hi101) dL_law_530 ?_
                      refine mv_aload_n 1 dL_law_531 rfl ?_
                      refine mv_iload 5 dL_law_532 rfl ?_
                      refine mv_iconst 3 dL_law_534 (by decide) ?_
                      refine mv_iadd dL_law_535 ?_
                      obtain ⟨L102, eL102, h⟩ := mv_lenEE h
                      obtain ⟨hi103, h⟩ := mv_chkE h
                      refine mv_lds eL102 (mv_inE hi103) dL_law_536 ?_
                      refine mv_cvI (As := [.int (M97.1 302 (x4 + 1).toNatClampNeg), .int (M97.1 302 (x4 + 2).toNatClampNeg), .int (M97.1 302 (x4 + 3).toNatClampNeg)]) (st := []) okX11_asks_ lL_104 (by decide) rfl rfl rfl (Nat.le_of_ble_eq_true rfl) rfl (Nat.le_of_ble_eq_true rfl) dL_law_537 (by omega) rfl (zX11_asks_ (d := d - 1) (by omega) (M97.1 302 (x4 + 1).toNatClampNeg) (M97.1 302 (x4 + 2).toNatClampNeg) (M97.1 302 (x4 + 3).toNatClampNeg) M97 (mv_bindE h)) (fun r104 M105 h => ?_)
                      refine mv_istore [(6, .int r104), (5, .int r96), (0, .ref 302), (1, .ref 0), (2, .ref 62), (3, .ref 106), (4, .int x4)] dL_law_540 (by decide) rfl ?_
                      refine mv_aload_n 4 dL_law_542 rfl ?_
                      refine mv_cvI (As := []) (st := []) okX11_thrown lL_75 (by decide) rfl rfl rfl (Nat.le_of_ble_eq_true rfl) rfl (Nat.le_of_ble_eq_true rfl) dL_law_543 (by omega) rfl (zX11_thrown (d := d - 1) (by omega) M105 (mv_bindE h)) (fun r106 M107 h => ?_)
                      refine mv_iload 1 dL_law_546 rfl ?_
                      refine mv_icmp_eq 553 dL_law_548 (by decide) (fun z => ?_) (fun z => ?_)
                      · replace h := mv_ifT z h
                        refine mv_iload 1 dL_law_553 rfl ?_
                        refine mv_if_ne 570 dL_law_555 (by decide) (fun z => ?_) (fun z => ?_)
                        · replace h := mv_ifF z h
                          refine mv_sub [2, 3, 4, 5, 6] rfl ?_
                          exact zL_law_570 hd hl ih x4 M107 h
                        · replace h := mv_ifT z h
                          refine mv_aload_n 5 dL_law_558 rfl ?_
                          refine mv_iconst 0 dL_law_559 (by decide) ?_
                          refine mv_lld (by decide) rfl (mv_inE (by decide)) dL_law_560 ?_
                          refine mv_iload 0 dL_law_561 rfl ?_
                          refine mv_i2l dL_law_563 ?_
                          refine mv_lcmp dL_law_564 ?_
                          refine mv_if_eq 570 dL_law_565 (by decide) (fun z => ?_) (fun z => ?_)
                          · replace h := mv_ifT z h
                            refine mv_sub [2, 3, 4, 5, 6] rfl ?_
                            exact zL_law_570 hd hl ih x4 M107 h
                          · replace h := mv_ifF z h
                            refine mv_iconst 0 dL_law_568 (by decide) ?_
                            exact mv_zret (by decide) rfl dL_law_569 ⟨_, rfl, h⟩
                      · replace h := mv_ifF z h
                        refine mv_iconst 0 dL_law_551 (by decide) ?_
                        exact mv_zret (by decide) rfl dL_law_552 ⟨_, rfl, h⟩
                    · replace h := mv_ifF z89 h
                      by_cases z108 : ((M.1 302 x4.toNatClampNeg) &&& 15) = 8
                      · replace h := mv_ifT z108 h
                        refine mv_tableIn (off := 533) 573 dL_law_40 (by rw [z108]; decide) (by rw [z108]; decide) (by rw [z108]; rfl) (by decide) ?_
                        refine mv_aload_n 1 dL_law_573 rfl ?_
                        refine mv_aload_n 0 dL_law_574 rfl ?_
                        refine mv_iload 4 dL_law_575 rfl ?_
                        refine mv_iconst 1 dL_law_577 (by decide) ?_
                        refine mv_iadd dL_law_578 ?_
                        obtain ⟨L109, eL109, h⟩ := mv_lenEE h
                        obtain ⟨hi110, h⟩ := mv_chkE h
                        refine mv_lds eL109 (mv_inE hi110) dL_law_579 ?_
                        refine mv_aload_n 0 dL_law_580 rfl ?_
                        refine mv_iload 4 dL_law_581 rfl ?_
                        refine mv_iconst 2 dL_law_583 (by decide) ?_
                        refine mv_iadd dL_law_584 ?_
                        obtain ⟨L111, eL111, h⟩ := mv_lenEE h
                        obtain ⟨hi112, h⟩ := mv_chkE h
                        refine mv_lds eL111 (mv_inE hi112) dL_law_585 ?_
                        refine mv_aload_n 3 dL_law_586 rfl ?_
                        refine mv_csH (k' := 4) (k2 := 4 * n) (As := [.ref 0, .int (M.1 302 (x4 + 1).toNatClampNeg), .int (M.1 302 (x4 + 2).toNatClampNeg), .ref 106]) (st := []) okL_strict lL_105 rfl (Nat.le_of_ble_eq_true rfl) rfl (Nat.le_of_ble_eq_true rfl) dL_law_587 (by omega) (by omega) rfl (zL_strict (d := d - 1) (by omega) hl (M.1 302 (x4 + 1).toNatClampNeg) (M.1 302 (x4 + 2).toNatClampNeg) M (mv_bindE h)) (fun r113 M114 h => ?_)
                        refine mv_istore [(5, .int r113), (0, .ref 302), (1, .ref 0), (2, .ref 62), (3, .ref 106), (4, .int x4)] dL_law_590 (by decide) rfl ?_
                        refine mv_aload_n 3 dL_law_592 rfl ?_
                        refine mv_aload_n 1 dL_law_593 rfl ?_
                        refine mv_iload 5 dL_law_594 rfl ?_
                        refine mv_iconst 1 dL_law_596 (by decide) ?_
                        refine mv_iadd dL_law_597 ?_
                        obtain ⟨L115, eL115, h⟩ := mv_lenEE h
                        obtain ⟨hi116, h⟩ := mv_chkE h
                        refine mv_lds eL115 (mv_inE hi116) dL_law_598 ?_
                        refine mv_aload_n 1 dL_law_599 rfl ?_
                        refine mv_iload 5 dL_law_600 rfl ?_
                        refine mv_iconst 2 dL_law_602 (by decide) ?_
                        refine mv_iadd dL_law_603 ?_
                        obtain ⟨L117, eL117, h⟩ := mv_lenEE h
                        obtain ⟨hi118, h⟩ := mv_chkE h
                        refine mv_lds eL117 (mv_inE hi118) dL_law_604 ?_
                        refine mv_cvI (As := [.int (M114.1 302 (x4 + 1).toNatClampNeg), .int (M114.1 302 (x4 + 2).toNatClampNeg)]) (st := []) okX11_strict lL_107 (by decide) rfl rfl rfl (Nat.le_of_ble_eq_true rfl) rfl (Nat.le_of_ble_eq_true rfl) dL_law_605 (by omega) rfl (zX11_strict (d := d - 1) (by omega) (M114.1 302 (x4 + 1).toNatClampNeg) (M114.1 302 (x4 + 2).toNatClampNeg) M114 (mv_bindE h)) (fun r119 M120 h => ?_)
                        refine mv_istore [(6, .int r119), (5, .int r113), (0, .ref 302), (1, .ref 0), (2, .ref 62), (3, .ref 106), (4, .int x4)] dL_law_608 (by decide) rfl ?_
                        refine mv_aload_n 4 dL_law_610 rfl ?_
                        refine mv_cvI (As := []) (st := []) okX11_thrown lL_75 (by decide) rfl rfl rfl (Nat.le_of_ble_eq_true rfl) rfl (Nat.le_of_ble_eq_true rfl) dL_law_611 (by omega) rfl (zX11_thrown (d := d - 1) (by omega) M120 (mv_bindE h)) (fun r121 M122 h => ?_)
                        refine mv_iload 1 dL_law_614 rfl ?_
                        refine mv_icmp_eq 621 dL_law_616 (by decide) (fun z => ?_) (fun z => ?_)
                        · replace h := mv_ifT z h
                          refine mv_iload 1 dL_law_621 rfl ?_
                          refine mv_if_ne 645 dL_law_623 (by decide) (fun z => ?_) (fun z => ?_)
                          · replace h := mv_ifF z h
                            refine mv_sub [2, 3, 4, 5, 6] rfl ?_
                            exact zL_law_645 hd hl ih x4 M122 h
                          · replace h := mv_ifT z h
                            refine mv_aload_n 5 dL_law_626 rfl ?_
                            refine mv_iconst 0 dL_law_627 (by decide) ?_
                            refine mv_lld (by decide) rfl (mv_inE (by decide)) dL_law_628 ?_
                            refine mv_iload 0 dL_law_629 rfl ?_
                            refine mv_if_eq 638 dL_law_631 (by decide) (fun z => ?_) (fun z => ?_)
                            · replace h := mv_ifT z h
                              refine mv_lconst 0 dL_law_638 (by decide) ?_
                              refine mv_sub [2, 3, 4, 5, 6] rfl ?_
                              exact zL_law_639 hd hl ih x4 0 (M122.2.1 106 (0 : Int32).toNatClampNeg) M122 h
                            · replace h := mv_ifF z h
                              refine mv_lconst 1 dL_law_634 (by decide) ?_
                              refine mv_goto 639 dL_law_635 (by decide) ?_
                              refine mv_sub [2, 3, 4, 5, 6] rfl ?_
                              exact zL_law_639 hd hl ih x4 1 (M122.2.1 106 (0 : Int32).toNatClampNeg) M122 h
                        · replace h := mv_ifF z h
                          refine mv_iconst 0 dL_law_619 (by decide) ?_
                          exact mv_zret (by decide) rfl dL_law_620 ⟨_, rfl, h⟩
                      · replace h := mv_ifF z108 h
                        by_cases z123 : ((M.1 302 x4.toNatClampNeg) &&& 15) = 9
                        · replace h := mv_ifT z123 h
                          refine mv_tableIn (off := 608) 648 dL_law_40 (by rw [z123]; decide) (by rw [z123]; decide) (by rw [z123]; rfl) (by decide) ?_
                          refine mv_aload_n 1 dL_law_648 rfl ?_
                          refine mv_aload_n 0 dL_law_649 rfl ?_
                          refine mv_iload 4 dL_law_650 rfl ?_
                          refine mv_iconst 1 dL_law_652 (by decide) ?_
                          refine mv_iadd dL_law_653 ?_
                          obtain ⟨L124, eL124, h⟩ := mv_lenEE h
                          obtain ⟨hi125, h⟩ := mv_chkE h
                          refine mv_lds eL124 (mv_inE hi125) dL_law_654 ?_
                          refine mv_aload_n 0 dL_law_655 rfl ?_
                          refine mv_iload 4 dL_law_656 rfl ?_
                          refine mv_iconst 2 dL_law_658 (by decide) ?_
                          refine mv_iadd dL_law_659 ?_
                          obtain ⟨L126, eL126, h⟩ := mv_lenEE h
                          obtain ⟨hi127, h⟩ := mv_chkE h
                          refine mv_lds eL126 (mv_inE hi127) dL_law_660 ?_
                          refine mv_aload_n 0 dL_law_661 rfl ?_
                          refine mv_iload 4 dL_law_662 rfl ?_
                          refine mv_iconst 3 dL_law_664 (by decide) ?_
                          refine mv_iadd dL_law_665 ?_
                          obtain ⟨L128, eL128, h⟩ := mv_lenEE h
                          obtain ⟨hi129, h⟩ := mv_chkE h
                          refine mv_lds eL128 (mv_inE hi129) dL_law_666 ?_
                          refine mv_aload_n 0 dL_law_667 rfl ?_
                          refine mv_iload 4 dL_law_668 rfl ?_
                          refine mv_iconst 4 dL_law_670 (by decide) ?_
                          refine mv_iadd dL_law_671 ?_
                          obtain ⟨L130, eL130, h⟩ := mv_lenEE h
                          obtain ⟨hi131, h⟩ := mv_chkE h
                          refine mv_lds eL130 (mv_inE hi131) dL_law_672 ?_
                          refine mv_aload_n 3 dL_law_673 rfl ?_
                          refine mv_csH (k' := 4) (k2 := 4 * n) (As := [.ref 0, .int (M.1 302 (x4 + 1).toNatClampNeg), .int (M.1 302 (x4 + 2).toNatClampNeg), .int (M.1 302 (x4 + 3).toNatClampNeg), .int (M.1 302 (x4 + 4).toNatClampNeg), .ref 106]) (st := []) okL_plant lL_108 rfl (Nat.le_of_ble_eq_true rfl) rfl (Nat.le_of_ble_eq_true rfl) dL_law_674 (by omega) (by omega) rfl (zL_plant (d := d - 1) (by omega) hl (M.1 302 (x4 + 1).toNatClampNeg) (M.1 302 (x4 + 2).toNatClampNeg) (M.1 302 (x4 + 3).toNatClampNeg) (M.1 302 (x4 + 4).toNatClampNeg) M (mv_bindE h)) (fun r132 M133 h => ?_)
                          refine mv_istore [(5, .int r132), (0, .ref 302), (1, .ref 0), (2, .ref 62), (3, .ref 106), (4, .int x4)] dL_law_677 (by decide) rfl ?_
                          refine mv_aload_n 3 dL_law_679 rfl ?_
                          refine mv_aload_n 1 dL_law_680 rfl ?_
                          refine mv_iload 5 dL_law_681 rfl ?_
                          refine mv_iconst 1 dL_law_683 (by decide) ?_
                          refine mv_iadd dL_law_684 ?_
                          obtain ⟨L134, eL134, h⟩ := mv_lenEE h
                          obtain ⟨hi135, h⟩ := mv_chkE h
                          refine mv_lds eL134 (mv_inE hi135) dL_law_685 ?_
                          refine mv_aload_n 1 dL_law_686 rfl ?_
                          refine mv_iload 5 dL_law_687 rfl ?_
                          refine mv_iconst 2 dL_law_689 (by decide) ?_
                          refine mv_iadd dL_law_690 ?_
                          obtain ⟨L136, eL136, h⟩ := mv_lenEE h
                          obtain ⟨hi137, h⟩ := mv_chkE h
                          refine mv_lds eL136 (mv_inE hi137) dL_law_691 ?_
                          refine mv_aload_n 1 dL_law_692 rfl ?_
                          refine mv_iload 5 dL_law_693 rfl ?_
                          refine mv_iconst 3 dL_law_695 (by decide) ?_
                          refine mv_iadd dL_law_696 ?_
                          obtain ⟨L138, eL138, h⟩ := mv_lenEE h
                          obtain ⟨hi139, h⟩ := mv_chkE h
                          refine mv_lds eL138 (mv_inE hi139) dL_law_697 ?_
                          refine mv_aload_n 1 dL_law_698 rfl ?_
                          refine mv_iload 5 dL_law_699 rfl ?_
                          refine mv_iconst 4 dL_law_701 (by decide) ?_
                          refine mv_iadd dL_law_702 ?_
                          obtain ⟨L140, eL140, h⟩ := mv_lenEE h
                          obtain ⟨hi141, h⟩ := mv_chkE h
                          refine mv_lds eL140 (mv_inE hi141) dL_law_703 ?_
                          refine mv_cvI (As := [.int (M133.1 302 (x4 + 1).toNatClampNeg), .int (M133.1 302 (x4 + 2).toNatClampNeg), .int (M133.1 302 (x4 + 3).toNatClampNeg), .int (M133.1 302 (x4 + 4).toNatClampNeg)]) (st := []) okX11_plant lL_111 (by decide) rfl rfl rfl (Nat.le_of_ble_eq_true rfl) rfl (Nat.le_of_ble_eq_true rfl) dL_law_704 (by omega) rfl (zX11_plant (d := d - 1) (by omega) (M133.1 302 (x4 + 1).toNatClampNeg) (M133.1 302 (x4 + 2).toNatClampNeg) (M133.1 302 (x4 + 3).toNatClampNeg) (M133.1 302 (x4 + 4).toNatClampNeg) M133 (mv_bindE h)) (fun r142 M143 h => ?_)
                          refine mv_istore [(6, .int r142), (5, .int r132), (0, .ref 302), (1, .ref 0), (2, .ref 62), (3, .ref 106), (4, .int x4)] dL_law_707 (by decide) rfl ?_
                          refine mv_aload_n 4 dL_law_709 rfl ?_
                          refine mv_cvI (As := []) (st := []) okX11_thrown lL_75 (by decide) rfl rfl rfl (Nat.le_of_ble_eq_true rfl) rfl (Nat.le_of_ble_eq_true rfl) dL_law_710 (by omega) rfl (zX11_thrown (d := d - 1) (by omega) M143 (mv_bindE h)) (fun r144 M145 h => ?_)
                          refine mv_iload 1 dL_law_713 rfl ?_
                          refine mv_icmp_eq 720 dL_law_715 (by decide) (fun z => ?_) (fun z => ?_)
                          · replace h := mv_ifT z h
                            refine mv_iload 1 dL_law_720 rfl ?_
                            refine mv_if_ne 737 dL_law_722 (by decide) (fun z => ?_) (fun z => ?_)
                            · replace h := mv_ifF z h
                              refine mv_sub [2, 3, 4, 5, 6] rfl ?_
                              exact zL_law_737 hd hl ih x4 M145 h
                            · replace h := mv_ifT z h
                              refine mv_aload_n 5 dL_law_725 rfl ?_
                              refine mv_iconst 0 dL_law_726 (by decide) ?_
                              refine mv_lld (by decide) rfl (mv_inE (by decide)) dL_law_727 ?_
                              refine mv_iload 0 dL_law_728 rfl ?_
                              refine mv_i2l dL_law_730 ?_
                              refine mv_lcmp dL_law_731 ?_
                              refine mv_if_eq 737 dL_law_732 (by decide) (fun z => ?_) (fun z => ?_)
                              · replace h := mv_ifT z h
                                refine mv_sub [2, 3, 4, 5, 6] rfl ?_
                                exact zL_law_737 hd hl ih x4 M145 h
                              · replace h := mv_ifF z h
                                refine mv_iconst 0 dL_law_735 (by decide) ?_
                                exact mv_zret (by decide) rfl dL_law_736 ⟨_, rfl, h⟩
                          · replace h := mv_ifF z h
                            refine mv_iconst 0 dL_law_718 (by decide) ?_
                            exact mv_zret (by decide) rfl dL_law_719 ⟨_, rfl, h⟩
                        · replace h := mv_ifF z123 h
                          by_cases z146 : ((M.1 302 x4.toNatClampNeg) &&& 15) = 10
                          · replace h := mv_ifT z146 h
                            refine mv_tableIn (off := 700) 740 dL_law_40 (by rw [z146]; decide) (by rw [z146]; decide) (by rw [z146]; rfl) (by decide) ?_
                            refine mv_aload_n 1 dL_law_740 rfl ?_
                            refine mv_aload_n 3 dL_law_741 rfl ?_
                            refine mv_csH (k' := 4) (k2 := 4 * n) (As := [.ref 0, .ref 106]) (st := []) okL_check lL_112 rfl (Nat.le_of_ble_eq_true rfl) rfl (Nat.le_of_ble_eq_true rfl) dL_law_742 (by omega) (by omega) rfl (zL_check (d := d - 1) (by omega) hl M (mv_bindE h)) (fun r147 M148 h => ?_)
                            refine mv_istore [(5, .int r147), (0, .ref 302), (1, .ref 0), (2, .ref 62), (3, .ref 106), (4, .int x4)] dL_law_745 (by decide) rfl ?_
                            refine mv_aload_n 3 dL_law_747 rfl ?_
                            refine mv_cvI (As := []) (st := []) okX11_check lL_114 (by decide) rfl rfl rfl (Nat.le_of_ble_eq_true rfl) rfl (Nat.le_of_ble_eq_true rfl) dL_law_748 (by omega) rfl (zX11_check (d := d - 1) (by omega) M148 (mv_bindE h)) (fun r149 M150 h => ?_)
                            refine mv_istore [(6, .int r149), (5, .int r147), (0, .ref 302), (1, .ref 0), (2, .ref 62), (3, .ref 106), (4, .int x4)] dL_law_751 (by decide) rfl ?_
                            refine mv_aload_n 4 dL_law_753 rfl ?_
                            refine mv_cvI (As := []) (st := []) okX11_thrown lL_75 (by decide) rfl rfl rfl (Nat.le_of_ble_eq_true rfl) rfl (Nat.le_of_ble_eq_true rfl) dL_law_754 (by omega) rfl (zX11_thrown (d := d - 1) (by omega) M150 (mv_bindE h)) (fun r151 M152 h => ?_)
                            refine mv_iload 1 dL_law_757 rfl ?_
                            refine mv_icmp_eq 764 dL_law_759 (by decide) (fun z => ?_) (fun z => ?_)
                            · replace h := mv_ifT z h
                              refine mv_iload 1 dL_law_764 rfl ?_
                              refine mv_if_ne 781 dL_law_766 (by decide) (fun z => ?_) (fun z => ?_)
                              · replace h := mv_ifF z h
                                refine mv_sub [2, 3, 4, 5, 6] rfl ?_
                                exact zL_law_781 hd hl ih x4 M152 h
                              · replace h := mv_ifT z h
                                refine mv_aload_n 5 dL_law_769 rfl ?_
                                refine mv_iconst 0 dL_law_770 (by decide) ?_
                                refine mv_lld (by decide) rfl (mv_inE (by decide)) dL_law_771 ?_
                                refine mv_iload 0 dL_law_772 rfl ?_
                                refine mv_i2l dL_law_774 ?_
                                refine mv_lcmp dL_law_775 ?_
                                refine mv_if_eq 781 dL_law_776 (by decide) (fun z => ?_) (fun z => ?_)
                                · replace h := mv_ifT z h
                                  refine mv_sub [2, 3, 4, 5, 6] rfl ?_
                                  exact zL_law_781 hd hl ih x4 M152 h
                                · replace h := mv_ifF z h
                                  refine mv_iconst 0 dL_law_779 (by decide) ?_
                                  exact mv_zret (by decide) rfl dL_law_780 ⟨_, rfl, h⟩
                            · replace h := mv_ifF z h
                              refine mv_iconst 0 dL_law_762 (by decide) ?_
                              exact mv_zret (by decide) rfl dL_law_763 ⟨_, rfl, h⟩
                          · replace h := mv_ifF z146 h
                            by_cases z153 : ((M.1 302 x4.toNatClampNeg) &&& 15) = 11
                            · replace h := mv_ifT z153 h
                              refine mv_tableIn (off := 744) 784 dL_law_40 (by rw [z153]; decide) (by rw [z153]; decide) (by rw [z153]; rfl) (by decide) ?_
                              refine mv_aload_n 1 dL_law_784 rfl ?_
                              refine mv_aload_n 0 dL_law_785 rfl ?_
                              refine mv_iload 4 dL_law_786 rfl ?_
                              refine mv_iconst 1 dL_law_788 (by decide) ?_
                              refine mv_iadd dL_law_789 ?_
                              obtain ⟨L154, eL154, h⟩ := mv_lenEE h
                              obtain ⟨hi155, h⟩ := mv_chkE h
                              refine mv_lds eL154 (mv_inE hi155) dL_law_790 ?_
                              refine mv_aload_n 0 dL_law_791 rfl ?_
                              refine mv_iload 4 dL_law_792 rfl ?_
                              refine mv_iconst 2 dL_law_794 (by decide) ?_
                              refine mv_iadd dL_law_795 ?_
                              obtain ⟨L156, eL156, h⟩ := mv_lenEE h
                              obtain ⟨hi157, h⟩ := mv_chkE h
                              refine mv_lds eL156 (mv_inE hi157) dL_law_796 ?_
                              refine mv_aload_n 3 dL_law_797 rfl ?_
                              refine mv_csH (k' := 4) (k2 := 4 * n) (As := [.ref 0, .int (M.1 302 (x4 + 1).toNatClampNeg), .int (M.1 302 (x4 + 2).toNatClampNeg), .ref 106]) (st := []) okL_input lL_115 rfl (Nat.le_of_ble_eq_true rfl) rfl (Nat.le_of_ble_eq_true rfl) dL_law_798 (by omega) (by omega) rfl (zL_input (d := d - 1) (by omega) hl (M.1 302 (x4 + 1).toNatClampNeg) (M.1 302 (x4 + 2).toNatClampNeg) M (mv_bindE h)) (fun r158 M159 h => ?_)
                              refine mv_istore [(5, .int r158), (0, .ref 302), (1, .ref 0), (2, .ref 62), (3, .ref 106), (4, .int x4)] dL_law_801 (by decide) rfl ?_
                              refine mv_aload_n 3 dL_law_803 rfl ?_
                              refine mv_aload_n 1 dL_law_804 rfl ?_
                              refine mv_iload 5 dL_law_805 rfl ?_
                              refine mv_iconst 1 dL_law_807 (by decide) ?_
                              refine mv_iadd dL_law_808 ?_
                              obtain ⟨L160, eL160, h⟩ := mv_lenEE h
                              obtain ⟨hi161, h⟩ := mv_chkE h
                              refine mv_lds eL160 (mv_inE hi161) dL_law_809 ?_
                              refine mv_aload_n 1 dL_law_810 rfl ?_
                              refine mv_iload 5 dL_law_811 rfl ?_
                              refine mv_iconst 2 dL_law_813 (by decide) ?_
                              refine mv_iadd dL_law_814 ?_
                              obtain ⟨L162, eL162, h⟩ := mv_lenEE h
                              obtain ⟨hi163, h⟩ := mv_chkE h
                              refine mv_lds eL162 (mv_inE hi163) dL_law_815 ?_
                              refine mv_cvI (As := [.int (M159.1 302 (x4 + 1).toNatClampNeg), .int (M159.1 302 (x4 + 2).toNatClampNeg)]) (st := []) okX11_input lL_117 (by decide) rfl rfl rfl (Nat.le_of_ble_eq_true rfl) rfl (Nat.le_of_ble_eq_true rfl) dL_law_816 (by omega) rfl (zX11_input (d := d - 1) (by omega) (M159.1 302 (x4 + 1).toNatClampNeg) (M159.1 302 (x4 + 2).toNatClampNeg) M159 (mv_bindE h)) (fun r164 M165 h => ?_)
                              refine mv_istore [(6, .int r164), (5, .int r158), (0, .ref 302), (1, .ref 0), (2, .ref 62), (3, .ref 106), (4, .int x4)] dL_law_819 (by decide) rfl ?_
                              refine mv_aload_n 4 dL_law_821 rfl ?_
                              refine mv_cvI (As := []) (st := []) okX11_thrown lL_75 (by decide) rfl rfl rfl (Nat.le_of_ble_eq_true rfl) rfl (Nat.le_of_ble_eq_true rfl) dL_law_822 (by omega) rfl (zX11_thrown (d := d - 1) (by omega) M165 (mv_bindE h)) (fun r166 M167 h => ?_)
                              refine mv_iload 1 dL_law_825 rfl ?_
                              refine mv_icmp_eq 832 dL_law_827 (by decide) (fun z => ?_) (fun z => ?_)
                              · replace h := mv_ifT z h
                                refine mv_iload 1 dL_law_832 rfl ?_
                                refine mv_if_ne 849 dL_law_834 (by decide) (fun z => ?_) (fun z => ?_)
                                · replace h := mv_ifF z h
                                  refine mv_sub [2, 3, 4, 5, 6] rfl ?_
                                  exact zL_law_849 hd hl ih x4 M167 h
                                · replace h := mv_ifT z h
                                  refine mv_aload_n 5 dL_law_837 rfl ?_
                                  refine mv_iconst 0 dL_law_838 (by decide) ?_
                                  refine mv_lld (by decide) rfl (mv_inE (by decide)) dL_law_839 ?_
                                  refine mv_iload 0 dL_law_840 rfl ?_
                                  refine mv_i2l dL_law_842 ?_
                                  refine mv_lcmp dL_law_843 ?_
                                  refine mv_if_eq 849 dL_law_844 (by decide) (fun z => ?_) (fun z => ?_)
                                  · replace h := mv_ifT z h
                                    refine mv_sub [2, 3, 4, 5, 6] rfl ?_
                                    exact zL_law_849 hd hl ih x4 M167 h
                                  · replace h := mv_ifF z h
                                    refine mv_iconst 0 dL_law_847 (by decide) ?_
                                    exact mv_zret (by decide) rfl dL_law_848 ⟨_, rfl, h⟩
                              · replace h := mv_ifF z h
                                refine mv_iconst 0 dL_law_830 (by decide) ?_
                                exact mv_zret (by decide) rfl dL_law_831 ⟨_, rfl, h⟩
                            · replace h := mv_ifF z153 h
                              by_cases z168 : ((M.1 302 x4.toNatClampNeg) &&& 15) = 12
                              · replace h := mv_ifT z168 h
                                refine mv_tableIn (off := 812) 852 dL_law_40 (by rw [z168]; decide) (by rw [z168]; decide) (by rw [z168]; rfl) (by decide) ?_
                                refine mv_aload_n 1 dL_law_852 rfl ?_
                                refine mv_aload_n 0 dL_law_853 rfl ?_
                                refine mv_iload 4 dL_law_854 rfl ?_
                                refine mv_iconst 1 dL_law_856 (by decide) ?_
                                refine mv_iadd dL_law_857 ?_
                                obtain ⟨L169, eL169, h⟩ := mv_lenEE h
                                obtain ⟨hi170, h⟩ := mv_chkE h
                                refine mv_lds eL169 (mv_inE hi170) dL_law_858 ?_
                                refine mv_aload_n 0 dL_law_859 rfl ?_
                                refine mv_iload 4 dL_law_860 rfl ?_
                                refine mv_iconst 2 dL_law_862 (by decide) ?_
                                refine mv_iadd dL_law_863 ?_
                                obtain ⟨L171, eL171, h⟩ := mv_lenEE h
                                obtain ⟨hi172, h⟩ := mv_chkE h
                                refine mv_lds eL171 (mv_inE hi172) dL_law_864 ?_
                                refine mv_aload_n 0 dL_law_865 rfl ?_
                                refine mv_iload 4 dL_law_866 rfl ?_
                                refine mv_iconst 3 dL_law_868 (by decide) ?_
                                refine mv_iadd dL_law_869 ?_
                                obtain ⟨L173, eL173, h⟩ := mv_lenEE h
                                obtain ⟨hi174, h⟩ := mv_chkE h
                                refine mv_lds eL173 (mv_inE hi174) dL_law_870 ?_
                                refine mv_aload_n 3 dL_law_871 rfl ?_
                                refine mv_csH (k' := 4) (k2 := 4 * n) (As := [.ref 0, .int (M.1 302 (x4 + 1).toNatClampNeg), .int (M.1 302 (x4 + 2).toNatClampNeg), .int (M.1 302 (x4 + 3).toNatClampNeg), .ref 106]) (st := []) okL_run lL_118 rfl (Nat.le_of_ble_eq_true rfl) rfl (Nat.le_of_ble_eq_true rfl) dL_law_872 (by omega) (by omega) rfl (zL_run (d := d - 1) (by omega) hl (M.1 302 (x4 + 1).toNatClampNeg) (M.1 302 (x4 + 2).toNatClampNeg) (M.1 302 (x4 + 3).toNatClampNeg) M (mv_bindE h)) (fun r175 M176 h => ?_)
                                refine mv_istore [(5, .int r175), (0, .ref 302), (1, .ref 0), (2, .ref 62), (3, .ref 106), (4, .int x4)] dL_law_875 (by decide) rfl ?_
                                refine mv_aload_n 3 dL_law_877 rfl ?_
                                refine mv_aload_n 1 dL_law_878 rfl ?_
                                refine mv_iload 5 dL_law_879 rfl ?_
                                refine mv_iconst 1 dL_law_881 (by decide) ?_
                                refine mv_iadd dL_law_882 ?_
                                obtain ⟨L177, eL177, h⟩ := mv_lenEE h
                                obtain ⟨hi178, h⟩ := mv_chkE h
                                refine mv_lds eL177 (mv_inE hi178) dL_law_883 ?_
                                refine mv_aload_n 1 dL_law_884 rfl ?_
                                refine mv_iload 5 dL_law_885 rfl ?_
                                refine mv_iconst 2 dL_law_887 (by decide) ?_
                                refine mv_iadd dL_law_888 ?_
                                obtain ⟨L179, eL179, h⟩ := mv_lenEE h
                                obtain ⟨hi180, h⟩ := mv_chkE h
                                refine mv_lds eL179 (mv_inE hi180) dL_law_889 ?_
                                refine mv_aload_n 1 dL_law_890 rfl ?_
                                refine mv_iload 5 dL_law_891 rfl ?_
                                refine mv_iconst 3 dL_law_893 (by decide) ?_
                                refine mv_iadd dL_law_894 ?_
                                obtain ⟨L181, eL181, h⟩ := mv_lenEE h
                                obtain ⟨hi182, h⟩ := mv_chkE h
                                refine mv_lds eL181 (mv_inE hi182) dL_law_895 ?_
                                refine mv_cvI (As := [.int (M176.1 302 (x4 + 1).toNatClampNeg), .int (M176.1 302 (x4 + 2).toNatClampNeg), .int (M176.1 302 (x4 + 3).toNatClampNeg)]) (st := []) okX11_run lL_120 (by decide) rfl rfl rfl (Nat.le_of_ble_eq_true rfl) rfl (Nat.le_of_ble_eq_true rfl) dL_law_896 (by omega) rfl (zX11_run (d := d - 1) (by omega) (M176.1 302 (x4 + 1).toNatClampNeg) (M176.1 302 (x4 + 2).toNatClampNeg) (M176.1 302 (x4 + 3).toNatClampNeg) M176 (mv_bindE h)) (fun r183 M184 h => ?_)
                                refine mv_istore [(6, .int r183), (5, .int r175), (0, .ref 302), (1, .ref 0), (2, .ref 62), (3, .ref 106), (4, .int x4)] dL_law_899 (by decide) rfl ?_
                                refine mv_aload_n 4 dL_law_901 rfl ?_
                                refine mv_cvI (As := []) (st := []) okX11_thrown lL_75 (by decide) rfl rfl rfl (Nat.le_of_ble_eq_true rfl) rfl (Nat.le_of_ble_eq_true rfl) dL_law_902 (by omega) rfl (zX11_thrown (d := d - 1) (by omega) M184 (mv_bindE h)) (fun r185 M186 h => ?_)
                                refine mv_iload 1 dL_law_905 rfl ?_
                                refine mv_icmp_eq 912 dL_law_907 (by decide) (fun z => ?_) (fun z => ?_)
                                · replace h := mv_ifT z h
                                  refine mv_iload 1 dL_law_912 rfl ?_
                                  refine mv_if_ne 929 dL_law_914 (by decide) (fun z => ?_) (fun z => ?_)
                                  · replace h := mv_ifF z h
                                    refine mv_sub [2, 3, 4, 5, 6] rfl ?_
                                    exact zL_law_929 hd hl ih x4 M186 h
                                  · replace h := mv_ifT z h
                                    refine mv_aload_n 5 dL_law_917 rfl ?_
                                    refine mv_iconst 0 dL_law_918 (by decide) ?_
                                    refine mv_lld (by decide) rfl (mv_inE (by decide)) dL_law_919 ?_
                                    refine mv_iload 0 dL_law_920 rfl ?_
                                    refine mv_i2l dL_law_922 ?_
                                    refine mv_lcmp dL_law_923 ?_
                                    refine mv_if_eq 929 dL_law_924 (by decide) (fun z => ?_) (fun z => ?_)
                                    · replace h := mv_ifT z h
                                      refine mv_sub [2, 3, 4, 5, 6] rfl ?_
                                      exact zL_law_929 hd hl ih x4 M186 h
                                    · replace h := mv_ifF z h
                                      refine mv_iconst 0 dL_law_927 (by decide) ?_
                                      exact mv_zret (by decide) rfl dL_law_928 ⟨_, rfl, h⟩
                                · replace h := mv_ifF z h
                                  refine mv_iconst 0 dL_law_910 (by decide) ?_
                                  exact mv_zret (by decide) rfl dL_law_911 ⟨_, rfl, h⟩
                              · replace h := mv_ifF z168 h
                                by_cases z187 : ((M.1 302 x4.toNatClampNeg) &&& 15) = 13
                                · replace h := mv_ifT z187 h
                                  refine mv_tableIn (off := 892) 932 dL_law_40 (by rw [z187]; decide) (by rw [z187]; decide) (by rw [z187]; rfl) (by decide) ?_
                                  refine mv_aload_n 1 dL_law_932 rfl ?_
                                  refine mv_aload_n 0 dL_law_933 rfl ?_
                                  refine mv_iload 4 dL_law_934 rfl ?_
                                  refine mv_iconst 1 dL_law_936 (by decide) ?_
                                  refine mv_iadd dL_law_937 ?_
                                  obtain ⟨L188, eL188, h⟩ := mv_lenEE h
                                  obtain ⟨hi189, h⟩ := mv_chkE h
                                  refine mv_lds eL188 (mv_inE hi189) dL_law_938 ?_
                                  refine mv_aload_n 3 dL_law_939 rfl ?_
                                  refine mv_csH (k' := 4) (k2 := 4 * n) (As := [.ref 0, .int (M.1 302 (x4 + 1).toNatClampNeg), .ref 106]) (st := []) okL_told lL_121 rfl (Nat.le_of_ble_eq_true rfl) rfl (Nat.le_of_ble_eq_true rfl) dL_law_940 (by omega) (by omega) rfl (zL_told (d := d - 1) (by omega) hl (M.1 302 (x4 + 1).toNatClampNeg) M (mv_bindE h)) (fun r190 M191 h => ?_)
                                  refine mv_istore [(5, .int r190), (0, .ref 302), (1, .ref 0), (2, .ref 62), (3, .ref 106), (4, .int x4)] dL_law_943 (by decide) rfl ?_
                                  refine mv_aload_n 3 dL_law_945 rfl ?_
                                  refine mv_aload_n 1 dL_law_946 rfl ?_
                                  refine mv_iload 5 dL_law_947 rfl ?_
                                  refine mv_iconst 1 dL_law_949 (by decide) ?_
                                  refine mv_iadd dL_law_950 ?_
                                  obtain ⟨L192, eL192, h⟩ := mv_lenEE h
                                  obtain ⟨hi193, h⟩ := mv_chkE h
                                  refine mv_lds eL192 (mv_inE hi193) dL_law_951 ?_
                                  refine mv_cvI (As := [.int (M191.1 302 (x4 + 1).toNatClampNeg)]) (st := []) okX11_told lL_123 (by decide) rfl rfl rfl (Nat.le_of_ble_eq_true rfl) rfl (Nat.le_of_ble_eq_true rfl) dL_law_952 (by omega) rfl (zX11_told (d := d - 1) (by omega) (M191.1 302 (x4 + 1).toNatClampNeg) M191 (mv_bindE h)) (fun r194 M195 h => ?_)
                                  refine mv_istore [(6, .int r194), (5, .int r190), (0, .ref 302), (1, .ref 0), (2, .ref 62), (3, .ref 106), (4, .int x4)] dL_law_955 (by decide) rfl ?_
                                  refine mv_aload_n 4 dL_law_957 rfl ?_
                                  refine mv_cvI (As := []) (st := []) okX11_thrown lL_75 (by decide) rfl rfl rfl (Nat.le_of_ble_eq_true rfl) rfl (Nat.le_of_ble_eq_true rfl) dL_law_958 (by omega) rfl (zX11_thrown (d := d - 1) (by omega) M195 (mv_bindE h)) (fun r196 M197 h => ?_)
                                  refine mv_iload 1 dL_law_961 rfl ?_
                                  refine mv_icmp_eq 968 dL_law_963 (by decide) (fun z => ?_) (fun z => ?_)
                                  · replace h := mv_ifT z h
                                    refine mv_iload 1 dL_law_968 rfl ?_
                                    refine mv_if_ne 985 dL_law_970 (by decide) (fun z => ?_) (fun z => ?_)
                                    · replace h := mv_ifF z h
                                      refine mv_sub [2, 3, 4, 5, 6] rfl ?_
                                      exact zL_law_985 hd hl ih x4 M197 h
                                    · replace h := mv_ifT z h
                                      refine mv_aload_n 5 dL_law_973 rfl ?_
                                      refine mv_iconst 0 dL_law_974 (by decide) ?_
                                      refine mv_lld (by decide) rfl (mv_inE (by decide)) dL_law_975 ?_
                                      refine mv_iload 0 dL_law_976 rfl ?_
                                      refine mv_i2l dL_law_978 ?_
                                      refine mv_lcmp dL_law_979 ?_
                                      refine mv_if_eq 985 dL_law_980 (by decide) (fun z => ?_) (fun z => ?_)
                                      · replace h := mv_ifT z h
                                        refine mv_sub [2, 3, 4, 5, 6] rfl ?_
                                        exact zL_law_985 hd hl ih x4 M197 h
                                      · replace h := mv_ifF z h
                                        refine mv_iconst 0 dL_law_983 (by decide) ?_
                                        exact mv_zret (by decide) rfl dL_law_984 ⟨_, rfl, h⟩
                                  · replace h := mv_ifF z h
                                    refine mv_iconst 0 dL_law_966 (by decide) ?_
                                    exact mv_zret (by decide) rfl dL_law_967 ⟨_, rfl, h⟩
                                · replace h := mv_ifF z187 h
                                  by_cases z198 : ((M.1 302 x4.toNatClampNeg) &&& 15) = 14
                                  · replace h := mv_ifT z198 h
                                    refine mv_tableIn (off := 948) 988 dL_law_40 (by rw [z198]; decide) (by rw [z198]; decide) (by rw [z198]; rfl) (by decide) ?_
                                    refine mv_aload_n 1 dL_law_988 rfl ?_
                                    refine mv_aload_n 0 dL_law_989 rfl ?_
                                    refine mv_iload 4 dL_law_990 rfl ?_
                                    refine mv_iconst 1 dL_law_992 (by decide) ?_
                                    refine mv_iadd dL_law_993 ?_
                                    obtain ⟨L199, eL199, h⟩ := mv_lenEE h
                                    obtain ⟨hi200, h⟩ := mv_chkE h
                                    refine mv_lds eL199 (mv_inE hi200) dL_law_994 ?_
                                    refine mv_aload_n 3 dL_law_995 rfl ?_
                                    refine mv_csH (k' := 4) (k2 := 4 * n) (As := [.ref 0, .int (M.1 302 (x4 + 1).toNatClampNeg), .ref 106]) (st := []) okL_result lL_124 rfl (Nat.le_of_ble_eq_true rfl) rfl (Nat.le_of_ble_eq_true rfl) dL_law_996 (by omega) (by omega) rfl (zL_result (d := d - 1) (by omega) hl (M.1 302 (x4 + 1).toNatClampNeg) M (mv_bindE h)) (fun r201 M202 h => ?_)
                                    refine mv_istore [(5, .int r201), (0, .ref 302), (1, .ref 0), (2, .ref 62), (3, .ref 106), (4, .int x4)] dL_law_999 (by decide) rfl ?_
                                    refine mv_aload_n 3 dL_law_1001 rfl ?_
                                    refine mv_aload_n 1 dL_law_1002 rfl ?_
                                    refine mv_iload 5 dL_law_1003 rfl ?_
                                    refine mv_iconst 1 dL_law_1005 (by decide) ?_
                                    refine mv_iadd dL_law_1006 ?_
                                    obtain ⟨L203, eL203, h⟩ := mv_lenEE h
                                    obtain ⟨hi204, h⟩ := mv_chkE h
                                    refine mv_lds eL203 (mv_inE hi204) dL_law_1007 ?_
                                    refine mv_cvI (As := [.int (M202.1 302 (x4 + 1).toNatClampNeg)]) (st := []) okX11_result lL_126 (by decide) rfl rfl rfl (Nat.le_of_ble_eq_true rfl) rfl (Nat.le_of_ble_eq_true rfl) dL_law_1008 (by omega) rfl (zX11_result (d := d - 1) (by omega) (M202.1 302 (x4 + 1).toNatClampNeg) M202 (mv_bindE h)) (fun r205 M206 h => ?_)
                                    refine mv_istore [(6, .int r205), (5, .int r201), (0, .ref 302), (1, .ref 0), (2, .ref 62), (3, .ref 106), (4, .int x4)] dL_law_1011 (by decide) rfl ?_
                                    refine mv_aload_n 4 dL_law_1013 rfl ?_
                                    refine mv_cvI (As := []) (st := []) okX11_thrown lL_75 (by decide) rfl rfl rfl (Nat.le_of_ble_eq_true rfl) rfl (Nat.le_of_ble_eq_true rfl) dL_law_1014 (by omega) rfl (zX11_thrown (d := d - 1) (by omega) M206 (mv_bindE h)) (fun r207 M208 h => ?_)
                                    refine mv_iload 1 dL_law_1017 rfl ?_
                                    refine mv_icmp_eq 1024 dL_law_1019 (by decide) (fun z => ?_) (fun z => ?_)
                                    · replace h := mv_ifT z h
                                      refine mv_iload 1 dL_law_1024 rfl ?_
                                      refine mv_if_ne 1041 dL_law_1026 (by decide) (fun z => ?_) (fun z => ?_)
                                      · replace h := mv_ifF z h
                                        refine mv_sub [2, 3, 4, 5, 6] rfl ?_
                                        exact zL_law_1041 hd hl ih x4 M208 h
                                      · replace h := mv_ifT z h
                                        refine mv_aload_n 5 dL_law_1029 rfl ?_
                                        refine mv_iconst 0 dL_law_1030 (by decide) ?_
                                        refine mv_lld (by decide) rfl (mv_inE (by decide)) dL_law_1031 ?_
                                        refine mv_iload 0 dL_law_1032 rfl ?_
                                        refine mv_i2l dL_law_1034 ?_
                                        refine mv_lcmp dL_law_1035 ?_
                                        refine mv_if_eq 1041 dL_law_1036 (by decide) (fun z => ?_) (fun z => ?_)
                                        · replace h := mv_ifT z h
                                          refine mv_sub [2, 3, 4, 5, 6] rfl ?_
                                          exact zL_law_1041 hd hl ih x4 M208 h
                                        · replace h := mv_ifF z h
                                          refine mv_iconst 0 dL_law_1039 (by decide) ?_
                                          exact mv_zret (by decide) rfl dL_law_1040 ⟨_, rfl, h⟩
                                    · replace h := mv_ifF z h
                                      refine mv_iconst 0 dL_law_1022 (by decide) ?_
                                      exact mv_zret (by decide) rfl dL_law_1023 ⟨_, rfl, h⟩
                                  · replace h := mv_ifF z198 h
                                    by_cases z209 : ((M.1 302 x4.toNatClampNeg) &&& 15) = 15
                                    · replace h := mv_ifT z209 h
                                      refine mv_tableIn (off := 1004) 1044 dL_law_40 (by rw [z209]; decide) (by rw [z209]; decide) (by rw [z209]; rfl) (by decide) ?_
                                      refine mv_aload_n 1 dL_law_1044 rfl ?_
                                      refine mv_aload_n 0 dL_law_1045 rfl ?_
                                      refine mv_iload 4 dL_law_1046 rfl ?_
                                      refine mv_iconst 1 dL_law_1048 (by decide) ?_
                                      refine mv_iadd dL_law_1049 ?_
                                      obtain ⟨L210, eL210, h⟩ := mv_lenEE h
                                      obtain ⟨hi211, h⟩ := mv_chkE h
                                      refine mv_lds eL210 (mv_inE hi211) dL_law_1050 ?_
                                      refine mv_aload_n 3 dL_law_1051 rfl ?_
                                      refine mv_csH (k' := 4) (k2 := 4 * n) (As := [.ref 0, .int (M.1 302 (x4 + 1).toNatClampNeg), .ref 106]) (st := []) okL_needed lL_127 rfl (Nat.le_of_ble_eq_true rfl) rfl (Nat.le_of_ble_eq_true rfl) dL_law_1052 (by omega) (by omega) rfl (zL_needed (d := d - 1) (by omega) hl (M.1 302 (x4 + 1).toNatClampNeg) M (mv_bindE h)) (fun r212 M213 h => ?_)
                                      refine mv_istore [(5, .int r212), (0, .ref 302), (1, .ref 0), (2, .ref 62), (3, .ref 106), (4, .int x4)] dL_law_1055 (by decide) rfl ?_
                                      refine mv_aload_n 3 dL_law_1057 rfl ?_
                                      refine mv_aload_n 1 dL_law_1058 rfl ?_
                                      refine mv_iload 5 dL_law_1059 rfl ?_
                                      refine mv_iconst 1 dL_law_1061 (by decide) ?_
                                      refine mv_iadd dL_law_1062 ?_
                                      obtain ⟨L214, eL214, h⟩ := mv_lenEE h
                                      obtain ⟨hi215, h⟩ := mv_chkE h
                                      refine mv_lds eL214 (mv_inE hi215) dL_law_1063 ?_
                                      refine mv_cvI (As := [.int (M213.1 302 (x4 + 1).toNatClampNeg)]) (st := []) okX11_needed lL_129 (by decide) rfl rfl rfl (Nat.le_of_ble_eq_true rfl) rfl (Nat.le_of_ble_eq_true rfl) dL_law_1064 (by omega) rfl (zX11_needed (d := d - 1) (by omega) (M213.1 302 (x4 + 1).toNatClampNeg) M213 (mv_bindE h)) (fun r216 M217 h => ?_)
                                      refine mv_istore [(6, .int r216), (5, .int r212), (0, .ref 302), (1, .ref 0), (2, .ref 62), (3, .ref 106), (4, .int x4)] dL_law_1067 (by decide) rfl ?_
                                      refine mv_aload_n 4 dL_law_1069 rfl ?_
                                      refine mv_cvI (As := []) (st := []) okX11_thrown lL_75 (by decide) rfl rfl rfl (Nat.le_of_ble_eq_true rfl) rfl (Nat.le_of_ble_eq_true rfl) dL_law_1070 (by omega) rfl (zX11_thrown (d := d - 1) (by omega) M217 (mv_bindE h)) (fun r218 M219 h => ?_)
                                      refine mv_iload 1 dL_law_1073 rfl ?_
                                      refine mv_icmp_eq 1080 dL_law_1075 (by decide) (fun z => ?_) (fun z => ?_)
                                      · replace h := mv_ifT z h
                                        refine mv_iload 1 dL_law_1080 rfl ?_
                                        refine mv_if_ne 1104 dL_law_1082 (by decide) (fun z => ?_) (fun z => ?_)
                                        · replace h := mv_ifF z h
                                          refine mv_sub [2, 3, 4, 5, 6] rfl ?_
                                          exact zL_law_1104 hd hl ih x4 M219 h
                                        · replace h := mv_ifT z h
                                          refine mv_aload_n 5 dL_law_1085 rfl ?_
                                          refine mv_iconst 0 dL_law_1086 (by decide) ?_
                                          refine mv_lld (by decide) rfl (mv_inE (by decide)) dL_law_1087 ?_
                                          refine mv_iload 0 dL_law_1088 rfl ?_
                                          refine mv_if_eq 1097 dL_law_1090 (by decide) (fun z => ?_) (fun z => ?_)
                                          · replace h := mv_ifT z h
                                            refine mv_lconst 0 dL_law_1097 (by decide) ?_
                                            refine mv_sub [2, 3, 4, 5, 6] rfl ?_
                                            exact zL_law_1098 hd hl ih x4 0 (M219.2.1 106 (0 : Int32).toNatClampNeg) M219 h
                                          · replace h := mv_ifF z h
                                            refine mv_lconst 1 dL_law_1093 (by decide) ?_
                                            refine mv_goto 1098 dL_law_1094 (by decide) ?_
                                            refine mv_sub [2, 3, 4, 5, 6] rfl ?_
                                            exact zL_law_1098 hd hl ih x4 1 (M219.2.1 106 (0 : Int32).toNatClampNeg) M219 h
                                      · replace h := mv_ifF z h
                                        refine mv_iconst 0 dL_law_1078 (by decide) ?_
                                        exact mv_zret (by decide) rfl dL_law_1079 ⟨_, rfl, h⟩
                                    · replace h := mv_ifF z209 h
                                      refine mv_tableOut 1107 dL_law_40 (by have q0 := mv_ne 0 (v := 0) (by decide) z4; have q1 := mv_ne 1 (v := 1) (by decide) z31; have q2 := mv_ne 2 (v := 2) (by decide) z42; have q3 := mv_ne 3 (v := 3) (by decide) z47; have q4 := mv_ne 4 (v := 4) (by decide) z52; have q5 := mv_ne 5 (v := 5) (by decide) z67; have q6 := mv_ne 6 (v := 6) (by decide) z74; have q7 := mv_ne 7 (v := 7) (by decide) z89; have q8 := mv_ne 8 (v := 8) (by decide) z108; have q9 := mv_ne 9 (v := 9) (by decide) z123; have q10 := mv_ne 10 (v := 10) (by decide) z146; have q11 := mv_ne 11 (v := 11) (by decide) z153; have q12 := mv_ne 12 (v := 12) (by decide) z168; have q13 := mv_ne 13 (v := 13) (by decide) z187; have q14 := mv_ne 14 (v := 14) (by decide) z198; have q15 := mv_ne 15 (v := 15) (by decide) z209; omega) (by decide) ?_
                                      refine mv_wk (k2 := 4 * n) (by omega) ?_
                                      refine mv_sub [0, 1, 2, 3, 4] rfl ?_
                                      exact zL_law_1107 hd hl ih x4 M h
noncomputable def fL_law (M : mv_M) : Option (Int32 × mv_M) :=
  fL_law_23 520 0 M
set_option maxRecDepth 100000 in
set_option maxHeartbeats 4000000 in
theorem zL_law {l : Launch} {d : Nat} {Q : Int32 → mv_M → Prop} (hd : 343 ≤ d) (hl : l.stackTraces = false) (M : mv_M) (h : mv_ok (fL_law M) Q) : mv l mL_law d (4 * 520) 20 [(0, .ref 302), (1, .ref 0), (2, .ref 62), (3, .ref 106)] [] M (mv_qI Q) := by
  unfold fL_law at h
  refine mv_iconst 0 dL_law_20 (by decide) ?_
  refine mv_istore [(4, .int 0), (0, .ref 302), (1, .ref 0), (2, .ref 62), (3, .ref 106)] dL_law_21 (by decide) rfl ?_
  refine mv_sub [1, 2, 3, 4, 0] rfl ?_
  exact zL_law_23 hd hl 520 0 M h
