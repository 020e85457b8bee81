theorem dJ7_rangeCheck_23922_0 : decode cJ7_rangeCheck_23922 0 = .ok (.iload_n 1, 1) := by decide +kernel
theorem dJ7_rangeCheck_23922_1 : decode cJ7_rangeCheck_23922 1 = .ok (.iload_n 2, 1) := by decide +kernel
theorem dJ7_rangeCheck_23922_2 : decode cJ7_rangeCheck_23922 2 = .ok (.if_icmp .le 44, 3) := by decide +kernel
theorem dJ7_rangeCheck_23922_46 : decode cJ7_rangeCheck_23922 46 = .ok (.iload_n 1, 1) := by decide +kernel
theorem dJ7_rangeCheck_23922_47 : decode cJ7_rangeCheck_23922 47 = .ok (.ifCond .ge 12, 3) := by decide +kernel
theorem dJ7_rangeCheck_23922_59 : decode cJ7_rangeCheck_23922 59 = .ok (.iload_n 2, 1) := by decide +kernel
theorem dJ7_rangeCheck_23922_60 : decode cJ7_rangeCheck_23922 60 = .ok (.iload_n 0, 1) := by decide +kernel
theorem dJ7_rangeCheck_23922_61 : decode cJ7_rangeCheck_23922 61 = .ok (.if_icmp .le 12, 3) := by decide +kernel
theorem dJ7_rangeCheck_23922_73 : decode cJ7_rangeCheck_23922 73 = .ok (.return_, 1) := by decide +kernel
noncomputable def fJ7_rangeCheck_23922 (a0 : Int32) (a1 : Int32) (a2 : Int32) (M : mv_M) : Option (Unit × mv_M) :=
  if a1 ≤ a2 then
    if 0 ≤ a1 then
      if a2 ≤ a0 then
        some ((), M)
      else
        none
    else
      none
  else
    none
set_option maxRecDepth 100000 in
set_option maxHeartbeats 4000000 in
theorem zJ7_rangeCheck_23922 {l : Launch} {d : Nat} {Q : Unit → mv_M → Prop} (hd : 0 ≤ d) (a0 : Int32) (a1 : Int32) (a2 : Int32) (M : mv_M) (h : mv_ok (fJ7_rangeCheck_23922 a0 a1 a2 M) Q) : mv l mJ7_rangeCheck_23922 d 0 0 (lv_args 0 [.int a0, .int a1, .int a2]) [] M (mv_qV Q) := by
  unfold fJ7_rangeCheck_23922 at h
  show mv l mJ7_rangeCheck_23922 d 0 0 [(0, .int a0), (1, .int a1), (2, .int a2)] [] M (mv_qV Q)
  refine mv_iload_n 1 dJ7_rangeCheck_23922_0 rfl ?_
  refine mv_iload_n 2 dJ7_rangeCheck_23922_1 rfl ?_
  refine mv_icmp_le 46 dJ7_rangeCheck_23922_2 (by decide) (fun z => ?_) (fun z => ?_)
  · replace h := mv_ifT z h
    refine mv_iload_n 1 dJ7_rangeCheck_23922_46 rfl ?_
    refine mv_if_ge 59 dJ7_rangeCheck_23922_47 (by decide) (fun z => ?_) (fun z => ?_)
    · replace h := mv_ifT z h
      refine mv_iload_n 2 dJ7_rangeCheck_23922_59 rfl ?_
      refine mv_iload_n 0 dJ7_rangeCheck_23922_60 rfl ?_
      refine mv_icmp_le 73 dJ7_rangeCheck_23922_61 (by decide) (fun z => ?_) (fun z => ?_)
      · replace h := mv_ifT z h
        exact mv_vret rfl dJ7_rangeCheck_23922_73 ⟨rfl, h⟩
      · replace h := mv_ifF z h
        exact h.elim
    · replace h := mv_ifF z h
      exact h.elim
  · replace h := mv_ifF z h
    exact h.elim
theorem dJ7_fill_fda19_0 : decode cJ7_fill_fda19 0 = .ok (.aload_n 0, 1) := by decide +kernel
theorem dJ7_fill_fda19_1 : decode cJ7_fill_fda19 1 = .ok (.arraylength, 1) := by decide +kernel
theorem dJ7_fill_fda19_2 : decode cJ7_fill_fda19 2 = .ok (.iload_n 1, 1) := by decide +kernel
theorem dJ7_fill_fda19_3 : decode cJ7_fill_fda19 3 = .ok (.iload_n 2, 1) := by decide +kernel
theorem dJ7_fill_fda19_4 : decode cJ7_fill_fda19 4 = .ok (.invokestatic 13, 3) := by decide +kernel
theorem dJ7_fill_fda19_7 : decode cJ7_fill_fda19 7 = .ok (.iload_n 1, 1) := by decide +kernel
theorem dJ7_fill_fda19_8 : decode cJ7_fill_fda19 8 = .ok (.istore 4, 2) := by decide +kernel
theorem dJ7_fill_fda19_10 : decode cJ7_fill_fda19 10 = .ok (.iload 4, 2) := by decide +kernel
theorem dJ7_fill_fda19_12 : decode cJ7_fill_fda19 12 = .ok (.iload_n 2, 1) := by decide +kernel
theorem dJ7_fill_fda19_13 : decode cJ7_fill_fda19 13 = .ok (.if_icmp .ge 14, 3) := by decide +kernel
theorem dJ7_fill_fda19_16 : decode cJ7_fill_fda19 16 = .ok (.aload_n 0, 1) := by decide +kernel
theorem dJ7_fill_fda19_17 : decode cJ7_fill_fda19 17 = .ok (.iload 4, 2) := by decide +kernel
theorem dJ7_fill_fda19_19 : decode cJ7_fill_fda19 19 = .ok (.iload_n 3, 1) := by decide +kernel
theorem dJ7_fill_fda19_20 : decode cJ7_fill_fda19 20 = .ok (.iastore, 1) := by decide +kernel
theorem dJ7_fill_fda19_21 : decode cJ7_fill_fda19 21 = .ok (.iinc 4 1, 3) := by decide +kernel
theorem dJ7_fill_fda19_24 : decode cJ7_fill_fda19 24 = .ok (.goto (-14), 3) := by decide +kernel
theorem dJ7_fill_fda19_27 : decode cJ7_fill_fda19 27 = .ok (.return_, 1) := by decide +kernel
noncomputable def gJ7_fill_fda19_10 (x2 : Int32) (x3 : Int32) (x4 : Int32) (M : mv_M) : Option (((Int32 × Int32 × Int32) ⊕ Unit) × mv_M) :=
  if x2 ≤ x4 then
    some (.inr (()), M)
  else
    mv_chk (mv_inb x4 1344) <|
    mv_let (mv_si M 46 x4.toNatClampNeg x3) fun M3 =>
    mv_let (x4 + 1) fun v4 =>
    some (.inl (x2, x3, v4), M3)
noncomputable def fJ7_fill_fda19_10 (x2 : Int32) (x3 : Int32) (x4 : Int32) (M : mv_M) : Option (Unit × mv_M) := mv_loop (fun (s : Int32 × Int32 × Int32) M => gJ7_fill_fda19_10 s.1 s.2.1 s.2.2 M) (x2, x3, x4) M
set_option maxRecDepth 100000 in
set_option maxHeartbeats 4000000 in
theorem zJ7_fill_fda19_10 {l : Launch} {d : Nat} {Q : Unit → mv_M → Prop} (hd : 1 ≤ d) (x2 : Int32) (x3 : Int32) (x4 : Int32) (M : mv_M) (h : mv_ok (fJ7_fill_fda19_10 x2 x3 x4 M) Q) : mv l mJ7_fill_fda19 d 0 10 [(0, .ref 46), (2, .int x2), (3, .int x3), (4, .int x4)] [] M (mv_qV Q) := by
  unfold fJ7_fill_fda19_10 at h
  refine mv_loopE (A := (fun (s : Int32 × Int32 × Int32) M => mv l mJ7_fill_fda19 d 0 10 [(0, .ref 46), (2, .int s.1), (3, .int s.2.1), (4, .int s.2.2)] [] M (mv_qV Q))) ?_ (x2, x3, x4) M h
  · rintro ⟨x2, x3, x4⟩ M h
    try dsimp only at h
    show mv l mJ7_fill_fda19 d 0 10 [(0, .ref 46), (2, .int x2), (3, .int x3), (4, .int x4)] [] M (mv_qV Q)
    unfold gJ7_fill_fda19_10 at h
    refine mv_iload 3 dJ7_fill_fda19_10 rfl ?_
    refine mv_iload_n 1 dJ7_fill_fda19_12 rfl ?_
    refine mv_icmp_ge 27 dJ7_fill_fda19_13 (by decide) (fun z => ?_) (fun z => ?_)
    · replace h := mv_ifT z h
      exact mv_vret rfl dJ7_fill_fda19_27 ⟨rfl, h⟩
    · replace h := mv_ifF z h
      refine mv_aload_n 0 dJ7_fill_fda19_16 rfl ?_
      refine mv_iload 3 dJ7_fill_fda19_17 rfl ?_
      refine mv_iload_n 2 dJ7_fill_fda19_19 rfl ?_
      obtain ⟨hi2, h⟩ := mv_chkE h
      refine mv_ist (by decide) rfl (mv_inE hi2) dJ7_fill_fda19_20 (fun M3 eM3 => ?_)
      replace h := mv_letE h M3 eM3
      obtain ⟨v4, ev4⟩ : ∃ z : Int32, z = x4 + 1 := ⟨_, rfl⟩
      replace h := mv_letE h v4 ev4
      refine mv_iinc v4 3 [(4, .int v4), (0, .ref 46), (2, .int x2), (3, .int x3)] dJ7_fill_fda19_21 rfl (by rw [ev4]; rfl) (by decide) rfl ?_
      refine mv_goto 10 dJ7_fill_fda19_24 (by decide) ?_
      refine mv_sub [1, 2, 3, 0] rfl ?_
      exact h
noncomputable def fJ7_fill_fda19 (a1 : Int32) (a2 : Int32) (a3 : Int32) (M : mv_M) : Option (Unit × mv_M) :=
  mv_bind (fJ7_rangeCheck_23922 1344 a1 a2 M) fun _ M1 =>
  fJ7_fill_fda19_10 a2 a3 a1 M1
set_option maxRecDepth 100000 in
set_option maxHeartbeats 4000000 in
theorem zJ7_fill_fda19 {l : Launch} {d : Nat} {Q : Unit → mv_M → Prop} (hd : 1 ≤ d) (a1 : Int32) (a2 : Int32) (a3 : Int32) (M : mv_M) (h : mv_ok (fJ7_fill_fda19 a1 a2 a3 M) Q) : mv l mJ7_fill_fda19 d 0 0 (lv_args 0 [.ref 46, .int a1, .int a2, .int a3]) [] M (mv_qV Q) := by
  unfold fJ7_fill_fda19 at h
  show mv l mJ7_fill_fda19 d 0 0 [(0, .ref 46), (1, .int a1), (2, .int a2), (3, .int a3)] [] M (mv_qV Q)
  refine mv_aload_n 0 dJ7_fill_fda19_0 rfl ?_
  refine mv_len (v := 1344) (by decide) rfl (by decide) dJ7_fill_fda19_1 ?_
  refine mv_iload_n 1 dJ7_fill_fda19_2 rfl ?_
  refine mv_iload_n 2 dJ7_fill_fda19_3 rfl ?_
  refine mv_csV (As := [.int 1344, .int a1, .int a2]) (st := []) okJ7_rangeCheck_23922 lJ7_13 rfl (Nat.le_of_ble_eq_true rfl) rfl (Nat.le_of_ble_eq_true rfl) dJ7_fill_fda19_4 (by omega) rfl (zJ7_rangeCheck_23922 (d := d - 1) (by omega) 1344 a1 a2 M (mv_bindE h)) (fun _ M1 h => ?_)
  refine mv_iload_n 1 dJ7_fill_fda19_7 rfl ?_
  refine mv_istore [(4, .int a1), (0, .ref 46), (1, .int a1), (2, .int a2), (3, .int a3)] dJ7_fill_fda19_8 (by decide) rfl ?_
  refine mv_sub [1, 3, 4, 0] rfl ?_
  exact zJ7_fill_fda19_10 hd a2 a3 a1 M1 h
