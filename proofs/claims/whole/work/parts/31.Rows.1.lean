theorem dX5_changesInRound_0 : decode cX5_changesInRound 0 = .ok (.iconst 0, 1) := by decide +kernel
theorem dX5_changesInRound_1 : decode cX5_changesInRound 1 = .ok (.istore_n 1, 1) := by decide +kernel
theorem dX5_changesInRound_2 : decode cX5_changesInRound 2 = .ok (.iconst 0, 1) := by decide +kernel
theorem dX5_changesInRound_3 : decode cX5_changesInRound 3 = .ok (.istore_n 2, 1) := by decide +kernel
theorem dX5_changesInRound_4 : decode cX5_changesInRound 4 = .ok (.iload_n 2, 1) := by decide +kernel
theorem dX5_changesInRound_5 : decode cX5_changesInRound 5 = .ok (.aload_n 0, 1) := by decide +kernel
theorem dX5_changesInRound_6 : decode cX5_changesInRound 6 = .ok (.getfield 33, 3) := by decide +kernel
theorem dX5_changesInRound_9 : decode cX5_changesInRound 9 = .ok (.getfield 45, 3) := by decide +kernel
theorem dX5_changesInRound_12 : decode cX5_changesInRound 12 = .ok (.if_icmp .ge 83, 3) := by decide +kernel
theorem dX5_changesInRound_15 : decode cX5_changesInRound 15 = .ok (.aload_n 0, 1) := by decide +kernel
theorem dX5_changesInRound_16 : decode cX5_changesInRound 16 = .ok (.iload_n 2, 1) := by decide +kernel
theorem dX5_changesInRound_17 : decode cX5_changesInRound 17 = .ok (.putfield 51, 3) := by decide +kernel
theorem dX5_changesInRound_20 : decode cX5_changesInRound 20 = .ok (.aload_n 0, 1) := by decide +kernel
theorem dX5_changesInRound_21 : decode cX5_changesInRound 21 = .ok (.getfield 33, 3) := by decide +kernel
theorem dX5_changesInRound_24 : decode cX5_changesInRound 24 = .ok (.getfield 54, 3) := by decide +kernel
theorem dX5_changesInRound_27 : decode cX5_changesInRound 27 = .ok (.aload_n 0, 1) := by decide +kernel
theorem dX5_changesInRound_28 : decode cX5_changesInRound 28 = .ok (.getfield 51, 3) := by decide +kernel
theorem dX5_changesInRound_31 : decode cX5_changesInRound 31 = .ok (.iaload, 1) := by decide +kernel
theorem dX5_changesInRound_32 : decode cX5_changesInRound 32 = .ok (.invokestatic 57, 3) := by decide +kernel
theorem dX5_changesInRound_35 : decode cX5_changesInRound 35 = .ok (.istore_n 3, 1) := by decide +kernel
theorem dX5_changesInRound_36 : decode cX5_changesInRound 36 = .ok (.iconst 1, 1) := by decide +kernel
theorem dX5_changesInRound_37 : decode cX5_changesInRound 37 = .ok (.istore 4, 2) := by decide +kernel
theorem dX5_changesInRound_39 : decode cX5_changesInRound 39 = .ok (.iload 4, 2) := by decide +kernel
theorem dX5_changesInRound_41 : decode cX5_changesInRound 41 = .ok (.iload_n 3, 1) := by decide +kernel
theorem dX5_changesInRound_42 : decode cX5_changesInRound 42 = .ok (.if_icmp .ge 47, 3) := by decide +kernel
theorem dX5_changesInRound_45 : decode cX5_changesInRound 45 = .ok (.aload_n 0, 1) := by decide +kernel
theorem dX5_changesInRound_46 : decode cX5_changesInRound 46 = .ok (.aload_n 0, 1) := by decide +kernel
theorem dX5_changesInRound_47 : decode cX5_changesInRound 47 = .ok (.getfield 33, 3) := by decide +kernel
theorem dX5_changesInRound_50 : decode cX5_changesInRound 50 = .ok (.getfield 63, 3) := by decide +kernel
theorem dX5_changesInRound_53 : decode cX5_changesInRound 53 = .ok (.aload_n 0, 1) := by decide +kernel
theorem dX5_changesInRound_54 : decode cX5_changesInRound 54 = .ok (.getfield 51, 3) := by decide +kernel
theorem dX5_changesInRound_57 : decode cX5_changesInRound 57 = .ok (.iaload, 1) := by decide +kernel
theorem dX5_changesInRound_58 : decode cX5_changesInRound 58 = .ok (.iload 4, 2) := by decide +kernel
theorem dX5_changesInRound_60 : decode cX5_changesInRound 60 = .ok (.iconst 0, 1) := by decide +kernel
theorem dX5_changesInRound_61 : decode cX5_changesInRound 61 = .ok (.invokevirtual 66, 3) := by decide +kernel
theorem dX5_changesInRound_64 : decode cX5_changesInRound 64 = .ok (.aload_n 0, 1) := by decide +kernel
theorem dX5_changesInRound_65 : decode cX5_changesInRound 65 = .ok (.iload 4, 2) := by decide +kernel
theorem dX5_changesInRound_67 : decode cX5_changesInRound 67 = .ok (.invokevirtual 74, 3) := by decide +kernel
theorem dX5_changesInRound_70 : decode cX5_changesInRound 70 = .ok (.ifCond .ne 7, 3) := by decide +kernel
theorem dX5_changesInRound_73 : decode cX5_changesInRound 73 = .ok (.iload_n 1, 1) := by decide +kernel
theorem dX5_changesInRound_74 : decode cX5_changesInRound 74 = .ok (.ifCond .eq 7, 3) := by decide +kernel
theorem dX5_changesInRound_77 : decode cX5_changesInRound 77 = .ok (.iconst 1, 1) := by decide +kernel
theorem dX5_changesInRound_78 : decode cX5_changesInRound 78 = .ok (.goto 4, 3) := by decide +kernel
theorem dX5_changesInRound_81 : decode cX5_changesInRound 81 = .ok (.iconst 0, 1) := by decide +kernel
theorem dX5_changesInRound_82 : decode cX5_changesInRound 82 = .ok (.istore_n 1, 1) := by decide +kernel
theorem dX5_changesInRound_83 : decode cX5_changesInRound 83 = .ok (.iinc 4 1, 3) := by decide +kernel
theorem dX5_changesInRound_86 : decode cX5_changesInRound 86 = .ok (.goto (-47), 3) := by decide +kernel
theorem dX5_changesInRound_89 : decode cX5_changesInRound 89 = .ok (.iinc 2 1, 3) := by decide +kernel
theorem dX5_changesInRound_92 : decode cX5_changesInRound 92 = .ok (.goto (-88), 3) := by decide +kernel
theorem dX5_changesInRound_95 : decode cX5_changesInRound 95 = .ok (.iload_n 1, 1) := by decide +kernel
theorem dX5_changesInRound_96 : decode cX5_changesInRound 96 = .ok (.ireturn, 1) := by decide +kernel
noncomputable def fX5_changesInRound_82 (x2 : Int32) (x3 : Int32) (x4 : Int32) (s0 : Int32) (M : mv_M) : Option (((Int32 × Int32 × Int32 × Int32) ⊕ ((Int32 × Int32) ⊕ Int32)) × mv_M) :=
  mv_let (x4 + 1) fun v14 =>
  some (.inl (s0, x2, x3, v14), M)
set_option maxRecDepth 100000 in
set_option maxHeartbeats 4000000 in
theorem zX5_changesInRound_82 {l : Launch} {d : Nat} {Q : Int32 → mv_M → Prop} (hd : 339 ≤ d) (x2 : Int32) (x3 : Int32) (x4 : Int32) (s0 : Int32) (M : mv_M) (h : mv_ok (fX5_changesInRound_82 x2 x3 x4 s0 M) (mv_pq (fun (s : Int32 × Int32 × Int32 × Int32) M => mv l mX5_changesInRound d 0 39 [(0, .ref 5), (1, .int s.1), (2, .int s.2.1), (3, .int s.2.2.1), (4, .int s.2.2.2)] [] M (mv_qI Q)) (mv_pq (fun (s : Int32 × Int32) M => mv l mX5_changesInRound d 0 4 [(0, .ref 5), (1, .int s.1), (2, .int s.2)] [] M (mv_qI Q)) Q))) : mv l mX5_changesInRound d 0 82 [(0, .ref 5), (2, .int x2), (3, .int x3), (4, .int x4)] [.int s0] M (mv_qI Q) := by
  unfold fX5_changesInRound_82 at h
  refine mv_istore_n [(1, .int s0), (0, .ref 5), (2, .int x2), (3, .int x3), (4, .int x4)] dX5_changesInRound_82 (by decide) rfl ?_
  obtain ⟨v14, ev14⟩ : ∃ z : Int32, z = x4 + 1 := ⟨_, rfl⟩
  replace h := mv_letE h v14 ev14
  refine mv_iinc v14 4 [(4, .int v14), (1, .int s0), (0, .ref 5), (2, .int x2), (3, .int x3)] dX5_changesInRound_83 rfl (by rw [ev14]; rfl) (by decide) rfl ?_
  refine mv_goto 39 dX5_changesInRound_86 (by decide) ?_
  refine mv_sub [2, 1, 3, 4, 0] rfl ?_
  exact h
noncomputable def fX5_changesInRound_77 (x2 : Int32) (x3 : Int32) (x4 : Int32) (M : mv_M) : Option (((Int32 × Int32 × Int32 × Int32) ⊕ ((Int32 × Int32) ⊕ Int32)) × mv_M) :=
  fX5_changesInRound_82 x2 x3 x4 1 M
set_option maxRecDepth 100000 in
set_option maxHeartbeats 4000000 in
theorem zX5_changesInRound_77 {l : Launch} {d : Nat} {Q : Int32 → mv_M → Prop} (hd : 339 ≤ d) (x2 : Int32) (x3 : Int32) (x4 : Int32) (M : mv_M) (h : mv_ok (fX5_changesInRound_77 x2 x3 x4 M) (mv_pq (fun (s : Int32 × Int32 × Int32 × Int32) M => mv l mX5_changesInRound d 0 39 [(0, .ref 5), (1, .int s.1), (2, .int s.2.1), (3, .int s.2.2.1), (4, .int s.2.2.2)] [] M (mv_qI Q)) (mv_pq (fun (s : Int32 × Int32) M => mv l mX5_changesInRound d 0 4 [(0, .ref 5), (1, .int s.1), (2, .int s.2)] [] M (mv_qI Q)) Q))) : mv l mX5_changesInRound d 0 77 [(0, .ref 5), (2, .int x2), (3, .int x3), (4, .int x4)] [] M (mv_qI Q) := by
  unfold fX5_changesInRound_77 at h
  refine mv_iconst 1 dX5_changesInRound_77 (by decide) ?_
  refine mv_goto 82 dX5_changesInRound_78 (by decide) ?_
  refine mv_sub [0, 1, 2, 3] rfl ?_
  exact zX5_changesInRound_82 hd x2 x3 x4 1 M h
noncomputable def gX5_changesInRound_39 (x1 : Int32) (x2 : Int32) (x3 : Int32) (x4 : Int32) (M : mv_M) : Option (((Int32 × Int32 × Int32 × Int32) ⊕ ((Int32 × Int32) ⊕ Int32)) × mv_M) :=
  if x3 ≤ x4 then
    mv_let (x2 + 1) fun v8 =>
    some (.inr (.inl (x1, v8)), M)
  else
    mv_getp (M.2.2 5 1) fun b9 =>
    mv_chk (mv_inb (M.1 5 2) 12) <|
    mv_bind (tX5_weigh (M.1 (b9 + 5) (M.1 5 2).toNatClampNeg) x4 0 M) fun _ M11 =>
    mv_bind (fX5_takeFirstSheet x4 M11) fun r12 M13 =>
    if r12 = 0 then
      if x1 = 0 then
        fX5_changesInRound_82 x2 x3 x4 0 M13
      else
        fX5_changesInRound_77 x2 x3 x4 M13
    else
      fX5_changesInRound_77 x2 x3 x4 M13
noncomputable def fX5_changesInRound_39 (x1 : Int32) (x2 : Int32) (x3 : Int32) (x4 : Int32) (M : mv_M) : Option (((Int32 × Int32) ⊕ Int32) × mv_M) := mv_loop (fun (s : Int32 × Int32 × Int32 × Int32) M => gX5_changesInRound_39 s.1 s.2.1 s.2.2.1 s.2.2.2 M) (x1, x2, x3, x4) M
set_option maxRecDepth 100000 in
set_option maxHeartbeats 4000000 in
theorem zX5_changesInRound_39 {l : Launch} {d : Nat} {Q : Int32 → mv_M → Prop} (hd : 339 ≤ d) (x1 : Int32) (x2 : Int32) (x3 : Int32) (x4 : Int32) (M : mv_M) (h : mv_ok (fX5_changesInRound_39 x1 x2 x3 x4 M) (mv_pq (fun (s : Int32 × Int32) M => mv l mX5_changesInRound d 0 4 [(0, .ref 5), (1, .int s.1), (2, .int s.2)] [] M (mv_qI Q)) Q)) : mv l mX5_changesInRound d 0 39 [(0, .ref 5), (1, .int x1), (2, .int x2), (3, .int x3), (4, .int x4)] [] M (mv_qI Q) := by
  unfold fX5_changesInRound_39 at h
  refine mv_loopE (A := (fun (s : Int32 × Int32 × Int32 × Int32) M => mv l mX5_changesInRound d 0 39 [(0, .ref 5), (1, .int s.1), (2, .int s.2.1), (3, .int s.2.2.1), (4, .int s.2.2.2)] [] M (mv_qI Q))) ?_ (x1, x2, x3, x4) M h
  · rintro ⟨x1, x2, x3, x4⟩ M h
    try dsimp only at h
    show mv l mX5_changesInRound d 0 39 [(0, .ref 5), (1, .int x1), (2, .int x2), (3, .int x3), (4, .int x4)] [] M (mv_qI Q)
    unfold gX5_changesInRound_39 at h
    refine mv_iload 4 dX5_changesInRound_39 rfl ?_
    refine mv_iload_n 3 dX5_changesInRound_41 rfl ?_
    refine mv_icmp_ge 89 dX5_changesInRound_42 (by decide) (fun z => ?_) (fun z => ?_)
    · replace h := mv_ifT z h
      obtain ⟨v8, ev8⟩ : ∃ z : Int32, z = x2 + 1 := ⟨_, rfl⟩
      replace h := mv_letE h v8 ev8
      refine mv_iinc v8 2 [(2, .int v8), (0, .ref 5), (1, .int x1), (3, .int x3), (4, .int x4)] dX5_changesInRound_89 rfl (by rw [ev8]; rfl) (by decide) rfl ?_
      refine mv_goto 4 dX5_changesInRound_92 (by decide) ?_
      refine mv_sub [1, 2, 0] rfl ?_
      exact h
    · replace h := mv_ifF z h
      refine mv_aload_n 0 dX5_changesInRound_45 rfl ?_
      refine mv_aload_n 0 dX5_changesInRound_46 rfl ?_
      obtain ⟨b9, eb9, hb9, h⟩ := mv_getpE h
      refine mv_getP b9 fX5_33 (by decide) rfl rfl eb9 dX5_changesInRound_47 ?_
      refine mv_getR (b9 + 5) fX5_63 (mv_pN (t := 0) hb9 (by decide)) (by rcases hb9 with rfl | rfl <;> rfl) rfl (by rcases hb9 with rfl | rfl <;> rfl) dX5_changesInRound_50 ?_
      refine mv_aload_n 0 dX5_changesInRound_53 rfl ?_
      refine mv_getI fX5_51 (by decide) rfl rfl dX5_changesInRound_54 ?_
      obtain ⟨hi10, h⟩ := mv_chkE h
      refine mv_ild (mv_pN (t := 5) hb9 (by decide)) (by rcases hb9 with rfl | rfl <;> rfl) (mv_inE hi10) dX5_changesInRound_57 ?_
      refine mv_iload 4 dX5_changesInRound_58 rfl ?_
      refine mv_iconst 0 dX5_changesInRound_60 (by decide) ?_
      refine mv_cvV (As := [.int (M.1 (b9 + 5) (M.1 5 2).toNatClampNeg), .int x4, .int 0]) (st := []) okX5_weigh lX5_66 (by decide) rfl rfl rfl (Nat.le_of_ble_eq_true rfl) rfl (Nat.le_of_ble_eq_true rfl) dX5_changesInRound_61 (by omega) rfl (ztX5_weigh (d := d - 1) (by omega) (M.1 (b9 + 5) (M.1 5 2).toNatClampNeg) x4 0 M (mv_bindE h)) (fun _ M11 h => ?_)
      refine mv_aload_n 0 dX5_changesInRound_64 rfl ?_
      refine mv_iload 4 dX5_changesInRound_65 rfl ?_
      refine mv_cvI (As := [.int x4]) (st := []) okX5_takeFirstSheet lX5_74 (by decide) rfl rfl rfl (Nat.le_of_ble_eq_true rfl) rfl (Nat.le_of_ble_eq_true rfl) dX5_changesInRound_67 (by omega) rfl (zX5_takeFirstSheet (d := d - 1) (by omega) x4 M11 (mv_bindE h)) (fun r12 M13 h => ?_)
      refine mv_if_ne 77 dX5_changesInRound_70 (by decide) (fun z => ?_) (fun z => ?_)
      · replace h := mv_ifF z h
        refine mv_sub [0, 2, 3, 4] rfl ?_
        exact zX5_changesInRound_77 hd x2 x3 x4 M13 h
      · replace h := mv_ifT z h
        refine mv_iload_n 1 dX5_changesInRound_73 rfl ?_
        refine mv_if_eq 81 dX5_changesInRound_74 (by decide) (fun z => ?_) (fun z => ?_)
        · replace h := mv_ifT z h
          refine mv_iconst 0 dX5_changesInRound_81 (by decide) ?_
          refine mv_sub [0, 2, 3, 4] rfl ?_
          exact zX5_changesInRound_82 hd x2 x3 x4 0 M13 h
        · replace h := mv_ifF z h
          refine mv_sub [0, 2, 3, 4] rfl ?_
          exact zX5_changesInRound_77 hd x2 x3 x4 M13 h
noncomputable def gX5_changesInRound_4 (x1 : Int32) (x2 : Int32) (M : mv_M) : Option (((Int32 × Int32) ⊕ Int32) × mv_M) :=
  mv_getp (M.2.2 5 1) fun b1 =>
  if (M.1 b1 0) ≤ x2 then
    mv_chk (mv_bt x1) <|
    some (.inr (x1), M)
  else
    mv_let (mv_si M 5 2 x2) fun M3 =>
    mv_getp (M3.2.2 5 1) fun b4 =>
    mv_chk (mv_inb (M3.1 5 2) 12) <|
    mv_bind (fX6_demandsOf (M3.1 (b4 + 4) (M3.1 5 2).toNatClampNeg) M3) fun r6 M7 =>
    fX5_changesInRound_39 x1 x2 r6 1 M7
noncomputable def fX5_changesInRound_4 (x1 : Int32) (x2 : Int32) (M : mv_M) : Option (Int32 × mv_M) := mv_loop (fun (s : Int32 × Int32) M => gX5_changesInRound_4 s.1 s.2 M) (x1, x2) M
set_option maxRecDepth 100000 in
set_option maxHeartbeats 4000000 in
theorem zX5_changesInRound_4 {l : Launch} {d : Nat} {Q : Int32 → mv_M → Prop} (hd : 339 ≤ d) (x1 : Int32) (x2 : Int32) (M : mv_M) (h : mv_ok (fX5_changesInRound_4 x1 x2 M) Q) : mv l mX5_changesInRound d 0 4 [(0, .ref 5), (1, .int x1), (2, .int x2)] [] M (mv_qI Q) := by
  unfold fX5_changesInRound_4 at h
  refine mv_loopE (A := (fun (s : Int32 × Int32) M => mv l mX5_changesInRound d 0 4 [(0, .ref 5), (1, .int s.1), (2, .int s.2)] [] M (mv_qI Q))) ?_ (x1, x2) M h
  · rintro ⟨x1, x2⟩ M h
    try dsimp only at h
    show mv l mX5_changesInRound d 0 4 [(0, .ref 5), (1, .int x1), (2, .int x2)] [] M (mv_qI Q)
    unfold gX5_changesInRound_4 at h
    refine mv_iload_n 2 dX5_changesInRound_4 rfl ?_
    refine mv_aload_n 0 dX5_changesInRound_5 rfl ?_
    obtain ⟨b1, eb1, hb1, h⟩ := mv_getpE h
    refine mv_getP b1 fX5_33 (by decide) rfl rfl eb1 dX5_changesInRound_6 ?_
    refine mv_getI fX5_45 (mv_pN (t := 0) hb1 (by decide)) (by rcases hb1 with rfl | rfl <;> rfl) rfl dX5_changesInRound_9 ?_
    refine mv_icmp_ge 95 dX5_changesInRound_12 (by decide) (fun z => ?_) (fun z => ?_)
    · replace h := mv_ifT z h
      refine mv_iload_n 1 dX5_changesInRound_95 rfl ?_
      obtain ⟨hz2, h⟩ := mv_chkE h
      exact mv_zret (mv_btE hz2) rfl dX5_changesInRound_96 ⟨_, rfl, h⟩
    · replace h := mv_ifF z h
      refine mv_aload_n 0 dX5_changesInRound_15 rfl ?_
      refine mv_iload_n 2 dX5_changesInRound_16 rfl ?_
      refine mv_putI fX5_51 (by decide) rfl rfl dX5_changesInRound_17 (fun M3 eM3 => ?_)
      replace h := mv_letE h M3 eM3
      refine mv_aload_n 0 dX5_changesInRound_20 rfl ?_
      obtain ⟨b4, eb4, hb4, h⟩ := mv_getpE h
      refine mv_getP b4 fX5_33 (by decide) rfl rfl eb4 dX5_changesInRound_21 ?_
      refine mv_getR (b4 + 4) fX5_54 (mv_pN (t := 0) hb4 (by decide)) (by rcases hb4 with rfl | rfl <;> rfl) rfl (by rcases hb4 with rfl | rfl <;> rfl) dX5_changesInRound_24 ?_
      refine mv_aload_n 0 dX5_changesInRound_27 rfl ?_
      refine mv_getI fX5_51 (by decide) rfl rfl dX5_changesInRound_28 ?_
      obtain ⟨hi5, h⟩ := mv_chkE h
      refine mv_ild (mv_pN (t := 4) hb4 (by decide)) (by rcases hb4 with rfl | rfl <;> rfl) (mv_inE hi5) dX5_changesInRound_31 ?_
      refine mv_csI (As := [.int (M3.1 (b4 + 4) (M3.1 5 2).toNatClampNeg)]) (st := []) okX6_demandsOf lX5_57 rfl (Nat.le_of_ble_eq_true rfl) rfl (Nat.le_of_ble_eq_true rfl) dX5_changesInRound_32 (by omega) rfl (zX6_demandsOf (d := d - 1) (by omega) (M3.1 (b4 + 4) (M3.1 5 2).toNatClampNeg) M3 (mv_bindE h)) (fun r6 M7 h => ?_)
      refine mv_istore_n [(3, .int r6), (0, .ref 5), (1, .int x1), (2, .int x2)] dX5_changesInRound_35 (by decide) rfl ?_
      refine mv_iconst 1 dX5_changesInRound_36 (by decide) ?_
      refine mv_istore [(4, .int 1), (3, .int r6), (0, .ref 5), (1, .int x1), (2, .int x2)] dX5_changesInRound_37 (by decide) rfl ?_
      refine mv_sub [2, 3, 4, 1, 0] rfl ?_
      exact zX5_changesInRound_39 hd x1 x2 r6 1 M7 h
noncomputable def fX5_changesInRound (M : mv_M) : Option (Int32 × mv_M) :=
  fX5_changesInRound_4 0 0 M
set_option maxRecDepth 100000 in
set_option maxHeartbeats 4000000 in
theorem zX5_changesInRound {l : Launch} {d : Nat} {Q : Int32 → mv_M → Prop} (hd : 339 ≤ d) (M : mv_M) (h : mv_ok (fX5_changesInRound M) Q) : mv l mX5_changesInRound d 0 0 (lv_args 0 [.ref 5]) [] M (mv_qI Q) := by
  unfold fX5_changesInRound at h
  show mv l mX5_changesInRound d 0 0 [(0, .ref 5)] [] M (mv_qI Q)
  refine mv_iconst 0 dX5_changesInRound_0 (by decide) ?_
  refine mv_istore_n [(1, .int 0), (0, .ref 5)] dX5_changesInRound_1 (by decide) rfl ?_
  refine mv_iconst 0 dX5_changesInRound_2 (by decide) ?_
  refine mv_istore_n [(2, .int 0), (1, .int 0), (0, .ref 5)] dX5_changesInRound_3 (by decide) rfl ?_
  refine mv_sub [2, 1, 0] rfl ?_
  exact zX5_changesInRound_4 hd 0 0 M h
theorem dX5_settle_0 : decode cX5_settle 0 = .ok (.aload_n 0, 1) := by decide +kernel
theorem dX5_settle_1 : decode cX5_settle 1 = .ok (.aload_n 1, 1) := by decide +kernel
theorem dX5_settle_2 : decode cX5_settle 2 = .ok (.putfield 33, 3) := by decide +kernel
theorem dX5_settle_5 : decode cX5_settle 5 = .ok (.aload_n 0, 1) := by decide +kernel
theorem dX5_settle_6 : decode cX5_settle 6 = .ok (.iconst 1, 1) := by decide +kernel
theorem dX5_settle_7 : decode cX5_settle 7 = .ok (.putfield 9, 3) := by decide +kernel
theorem dX5_settle_10 : decode cX5_settle 10 = .ok (.aload_n 0, 1) := by decide +kernel
theorem dX5_settle_11 : decode cX5_settle 11 = .ok (.invokevirtual 37, 3) := by decide +kernel
theorem dX5_settle_14 : decode cX5_settle 14 = .ok (.iconst 1, 1) := by decide +kernel
theorem dX5_settle_15 : decode cX5_settle 15 = .ok (.istore_n 2, 1) := by decide +kernel
theorem dX5_settle_16 : decode cX5_settle 16 = .ok (.iload_n 2, 1) := by decide +kernel
theorem dX5_settle_17 : decode cX5_settle 17 = .ok (.ldc 40, 2) := by decide +kernel
theorem dX5_settle_19 : decode cX5_settle 19 = .ok (.if_icmp .ge 18, 3) := by decide +kernel
theorem dX5_settle_22 : decode cX5_settle 22 = .ok (.aload_n 0, 1) := by decide +kernel
theorem dX5_settle_23 : decode cX5_settle 23 = .ok (.invokevirtual 41, 3) := by decide +kernel
theorem dX5_settle_26 : decode cX5_settle 26 = .ok (.ifCond .ne 5, 3) := by decide +kernel
theorem dX5_settle_29 : decode cX5_settle 29 = .ok (.iload_n 2, 1) := by decide +kernel
theorem dX5_settle_30 : decode cX5_settle 30 = .ok (.ireturn, 1) := by decide +kernel
theorem dX5_settle_31 : decode cX5_settle 31 = .ok (.iinc 2 1, 3) := by decide +kernel
theorem dX5_settle_34 : decode cX5_settle 34 = .ok (.goto (-18), 3) := by decide +kernel
theorem dX5_settle_37 : decode cX5_settle 37 = .ok (.ldc 40, 2) := by decide +kernel
theorem dX5_settle_39 : decode cX5_settle 39 = .ok (.ireturn, 1) := by decide +kernel
noncomputable def gX5_settle_16 (x2 : Int32) (M : mv_M) : Option (((Int32) ⊕ Int32) × mv_M) :=
  if 1000000 ≤ x2 then
    some (.inr (1000000), M)
  else
    mv_bind (fX5_changesInRound M) fun r4 M5 =>
    if r4 = 0 then
      some (.inr (x2), M5)
    else
      mv_let (x2 + 1) fun v6 =>
      some (.inl v6, M5)
noncomputable def fX5_settle_16 (x2 : Int32) (M : mv_M) : Option (Int32 × mv_M) := mv_loop (fun (s : Int32) M => gX5_settle_16 s M) x2 M
set_option maxRecDepth 100000 in
set_option maxHeartbeats 4000000 in
theorem zX5_settle_16 {l : Launch} {d : Nat} {Q : Int32 → mv_M → Prop} (hd : 340 ≤ d) (x2 : Int32) (M : mv_M) (h : mv_ok (fX5_settle_16 x2 M) Q) : mv l mX5_settle d 0 16 [(0, .ref 5), (2, .int x2)] [] M (mv_qI Q) := by
  unfold fX5_settle_16 at h
  refine mv_loopE (A := (fun (s : Int32) M => mv l mX5_settle d 0 16 [(0, .ref 5), (2, .int s)] [] M (mv_qI Q))) ?_ x2 M h
  · intro x2 M h
    try dsimp only at h
    show mv l mX5_settle d 0 16 [(0, .ref 5), (2, .int x2)] [] M (mv_qI Q)
    unfold gX5_settle_16 at h
    refine mv_iload_n 1 dX5_settle_16 rfl ?_
    refine mv_ldc kX5_40 dX5_settle_17 ?_
    refine mv_icmp_ge 37 dX5_settle_19 (by decide) (fun z => ?_) (fun z => ?_)
    · replace h := mv_ifT z h
      refine mv_ldc kX5_40 dX5_settle_37 ?_
      exact mv_iret rfl dX5_settle_39 ⟨_, rfl, h⟩
    · replace h := mv_ifF z h
      refine mv_aload_n 0 dX5_settle_22 rfl ?_
      refine mv_cvI (As := []) (st := []) okX5_changesInRound lX5_41 (by decide) rfl rfl rfl (Nat.le_of_ble_eq_true rfl) rfl (Nat.le_of_ble_eq_true rfl) dX5_settle_23 (by omega) rfl (zX5_changesInRound (d := d - 1) (by omega) M (mv_bindE h)) (fun r4 M5 h => ?_)
      refine mv_if_ne 31 dX5_settle_26 (by decide) (fun z => ?_) (fun z => ?_)
      · replace h := mv_ifF z h
        obtain ⟨v6, ev6⟩ : ∃ z : Int32, z = x2 + 1 := ⟨_, rfl⟩
        replace h := mv_letE h v6 ev6
        refine mv_iinc v6 1 [(2, .int v6), (0, .ref 5)] dX5_settle_31 rfl (by rw [ev6]; rfl) (by decide) rfl ?_
        refine mv_goto 16 dX5_settle_34 (by decide) ?_
        refine mv_sub [1, 0] rfl ?_
        exact h
      · replace h := mv_ifT z h
        refine mv_iload_n 1 dX5_settle_29 rfl ?_
        exact mv_iret rfl dX5_settle_30 ⟨_, rfl, h⟩
noncomputable def fX5_settle (b1 : Nat) (M : mv_M) : Option (Int32 × mv_M) :=
  mv_let (mv_sr M 5 1 (some b1)) fun M1 =>
  mv_let (mv_si M1 5 0 1) fun M2 =>
  mv_bind (fX5_killAll M2) fun _ M3 =>
  fX5_settle_16 1 M3
set_option maxRecDepth 100000 in
set_option maxHeartbeats 4000000 in
theorem zX5_settle {l : Launch} {d : Nat} {Q : Int32 → mv_M → Prop} (hd : 340 ≤ d) (b1 : Nat) (M : mv_M) (hb1 : b1 = 9 ∨ b1 = 24) (h : mv_ok (fX5_settle b1 M) Q) : mv l mX5_settle d 0 0 (lv_args 0 [.ref 5, .ref b1]) [] M (mv_qI Q) := by
  unfold fX5_settle at h
  show mv l mX5_settle d 0 0 [(0, .ref 5), (1, .ref b1)] [] M (mv_qI Q)
  refine mv_aload_n 0 dX5_settle_0 rfl ?_
  refine mv_aload_n 1 dX5_settle_1 rfl ?_
  refine mv_putR fX5_33 (by decide) rfl rfl dX5_settle_2 (fun M1 eM1 => ?_)
  replace h := mv_letE h M1 eM1
  refine mv_aload_n 0 dX5_settle_5 rfl ?_
  refine mv_iconst 1 dX5_settle_6 (by decide) ?_
  refine mv_putZ fX5_9 (by decide) (by decide) rfl rfl dX5_settle_7 (fun M2 eM2 => ?_)
  replace h := mv_letE h M2 eM2
  refine mv_aload_n 0 dX5_settle_10 rfl ?_
  refine mv_cvV (As := []) (st := []) okX5_killAll lX5_37 (by decide) rfl rfl rfl (Nat.le_of_ble_eq_true rfl) rfl (Nat.le_of_ble_eq_true rfl) dX5_settle_11 (by omega) rfl (zX5_killAll (d := d - 1) (by omega) M2 (mv_bindE h)) (fun _ M3 h => ?_)
  refine mv_iconst 1 dX5_settle_14 (by decide) ?_
  refine mv_istore_n [(2, .int 1), (0, .ref 5), (1, .ref b1)] dX5_settle_15 (by decide) rfl ?_
  refine mv_sub [1, 0] rfl ?_
  exact zX5_settle_16 hd 1 M3 h
theorem dX5_put_0 : decode cX5_put 0 = .ok (.aload_n 0, 1) := by decide +kernel
theorem dX5_put_1 : decode cX5_put 1 = .ok (.iload_n 1, 1) := by decide +kernel
theorem dX5_put_2 : decode cX5_put 2 = .ok (.iload_n 2, 1) := by decide +kernel
theorem dX5_put_3 : decode cX5_put 3 = .ok (.invokevirtual 29, 3) := by decide +kernel
theorem dX5_put_6 : decode cX5_put 6 = .ok (.istore 5, 2) := by decide +kernel
theorem dX5_put_8 : decode cX5_put 8 = .ok (.iload 5, 2) := by decide +kernel
theorem dX5_put_10 : decode cX5_put 10 = .ok (.iconst (-1), 1) := by decide +kernel
theorem dX5_put_11 : decode cX5_put 11 = .ok (.if_icmp .eq 33, 3) := by decide +kernel
theorem dX5_put_14 : decode cX5_put 14 = .ok (.iload_n 3, 1) := by decide +kernel
theorem dX5_put_15 : decode cX5_put 15 = .ok (.ifCond .lt 29, 3) := by decide +kernel
theorem dX5_put_18 : decode cX5_put 18 = .ok (.iload_n 3, 1) := by decide +kernel
theorem dX5_put_19 : decode cX5_put 19 = .ok (.iconst 4, 1) := by decide +kernel
theorem dX5_put_20 : decode cX5_put 20 = .ok (.if_icmp .ge 24, 3) := by decide +kernel
theorem dX5_put_23 : decode cX5_put 23 = .ok (.aload_n 0, 1) := by decide +kernel
theorem dX5_put_24 : decode cX5_put 24 = .ok (.getfield 15, 3) := by decide +kernel
theorem dX5_put_27 : decode cX5_put 27 = .ok (.iload 5, 2) := by decide +kernel
theorem dX5_put_29 : decode cX5_put 29 = .ok (.iconst 4, 1) := by decide +kernel
theorem dX5_put_30 : decode cX5_put 30 = .ok (.imul, 1) := by decide +kernel
theorem dX5_put_31 : decode cX5_put 31 = .ok (.iload_n 3, 1) := by decide +kernel
theorem dX5_put_32 : decode cX5_put 32 = .ok (.iadd, 1) := by decide +kernel
theorem dX5_put_33 : decode cX5_put 33 = .ok (.iload 4, 2) := by decide +kernel
theorem dX5_put_35 : decode cX5_put 35 = .ok (.iastore, 1) := by decide +kernel
theorem dX5_put_36 : decode cX5_put 36 = .ok (.aload_n 0, 1) := by decide +kernel
theorem dX5_put_37 : decode cX5_put 37 = .ok (.getfield 19, 3) := by decide +kernel
theorem dX5_put_40 : decode cX5_put 40 = .ok (.iload 5, 2) := by decide +kernel
theorem dX5_put_42 : decode cX5_put 42 = .ok (.iconst 0, 1) := by decide +kernel
theorem dX5_put_43 : decode cX5_put 43 = .ok (.bastore, 1) := by decide +kernel
theorem dX5_put_44 : decode cX5_put 44 = .ok (.return_, 1) := by decide +kernel
noncomputable def fX5_put (a0 : Int32) (a1 : Int32) (a2 : Int32) (a3 : Int32) (M : mv_M) : Option (Unit × mv_M) :=
  mv_bind (fX5_rowOf a0 a1 M) fun r1 M2 =>
  if r1 = (-1) then
    some ((), M2)
  else
    if a2 < 0 then
      some ((), M2)
    else
      if 4 ≤ a2 then
        some ((), M2)
      else
        mv_chk (mv_inb ((r1 * 4) + a2) 1248) <|
        mv_let (mv_si M2 44 ((r1 * 4) + a2).toNatClampNeg a3) fun M4 =>
        mv_chk (mv_inb r1 312) <|
        mv_let (mv_si M4 45 r1.toNatClampNeg (vp_nar .boolean 0)) fun M6 =>
        some ((), M6)
set_option maxRecDepth 100000 in
set_option maxHeartbeats 4000000 in
theorem zX5_put {l : Launch} {d : Nat} {Q : Unit → mv_M → Prop} (hd : 1 ≤ d) (a0 : Int32) (a1 : Int32) (a2 : Int32) (a3 : Int32) (M : mv_M) (h : mv_ok (fX5_put a0 a1 a2 a3 M) Q) : mv l mX5_put d 0 0 (lv_args 0 [.ref 5, .int a0, .int a1, .int a2, .int a3]) [] M (mv_qV Q) := by
  unfold fX5_put at h
  show mv l mX5_put d 0 0 [(0, .ref 5), (1, .int a0), (2, .int a1), (3, .int a2), (4, .int a3)] [] M (mv_qV Q)
  refine mv_aload_n 0 dX5_put_0 rfl ?_
  refine mv_iload_n 1 dX5_put_1 rfl ?_
  refine mv_iload_n 2 dX5_put_2 rfl ?_
  refine mv_cvI (As := [.int a0, .int a1]) (st := []) okX5_rowOf lX5_29 (by decide) rfl rfl rfl (Nat.le_of_ble_eq_true rfl) rfl (Nat.le_of_ble_eq_true rfl) dX5_put_3 (by omega) rfl (zX5_rowOf (d := d - 1) (by omega) a0 a1 M (mv_bindE h)) (fun r1 M2 h => ?_)
  refine mv_istore [(5, .int r1), (0, .ref 5), (1, .int a0), (2, .int a1), (3, .int a2), (4, .int a3)] dX5_put_6 (by decide) rfl ?_
  refine mv_iload 0 dX5_put_8 rfl ?_
  refine mv_iconst (-1) dX5_put_10 (by decide) ?_
  refine mv_icmp_eq 44 dX5_put_11 (by decide) (fun z => ?_) (fun z => ?_)
  · replace h := mv_ifT z h
    exact mv_vret rfl dX5_put_44 ⟨rfl, h⟩
  · replace h := mv_ifF z h
    refine mv_iload_n 4 dX5_put_14 rfl ?_
    refine mv_if_lt 44 dX5_put_15 (by decide) (fun z => ?_) (fun z => ?_)
    · replace h := mv_ifT z h
      exact mv_vret rfl dX5_put_44 ⟨rfl, h⟩
    · replace h := mv_ifF z h
      refine mv_iload_n 4 dX5_put_18 rfl ?_
      refine mv_iconst 4 dX5_put_19 (by decide) ?_
      refine mv_icmp_ge 44 dX5_put_20 (by decide) (fun z => ?_) (fun z => ?_)
      · replace h := mv_ifT z h
        exact mv_vret rfl dX5_put_44 ⟨rfl, h⟩
      · replace h := mv_ifF z h
        refine mv_aload_n 1 dX5_put_23 rfl ?_
        refine mv_getR 44 fX5_15 (by decide) rfl rfl rfl dX5_put_24 ?_
        refine mv_iload 0 dX5_put_27 rfl ?_
        refine mv_iconst 4 dX5_put_29 (by decide) ?_
        refine mv_imul dX5_put_30 ?_
        refine mv_iload_n 4 dX5_put_31 rfl ?_
        refine mv_iadd dX5_put_32 ?_
        refine mv_iload 5 dX5_put_33 rfl ?_
        obtain ⟨hi3, h⟩ := mv_chkE h
        refine mv_ist (by decide) rfl (mv_inE hi3) dX5_put_35 (fun M4 eM4 => ?_)
        replace h := mv_letE h M4 eM4
        refine mv_aload_n 1 dX5_put_36 rfl ?_
        refine mv_getR 45 fX5_19 (by decide) rfl rfl rfl dX5_put_37 ?_
        refine mv_iload 0 dX5_put_40 rfl ?_
        refine mv_iconst 0 dX5_put_42 (by decide) ?_
        obtain ⟨hi5, h⟩ := mv_chkE h
        refine mv_zst (by decide) rfl (mv_inE hi5) dX5_put_43 (fun M6 eM6 => ?_)
        replace h := mv_letE h M6 eM6
        exact mv_vret rfl dX5_put_44 ⟨rfl, h⟩
theorem dX5_tellsTooMuch_0 : decode cX5_tellsTooMuch 0 = .ok (.aload_n 0, 1) := by decide +kernel
theorem dX5_tellsTooMuch_1 : decode cX5_tellsTooMuch 1 = .ok (.getfield 26, 3) := by decide +kernel
theorem dX5_tellsTooMuch_4 : decode cX5_tellsTooMuch 4 = .ok (.iconst 0, 1) := by decide +kernel
theorem dX5_tellsTooMuch_5 : decode cX5_tellsTooMuch 5 = .ok (.baload, 1) := by decide +kernel
theorem dX5_tellsTooMuch_6 : decode cX5_tellsTooMuch 6 = .ok (.ifCond .eq 5, 3) := by decide +kernel
theorem dX5_tellsTooMuch_9 : decode cX5_tellsTooMuch 9 = .ok (.iconst 0, 1) := by decide +kernel
theorem dX5_tellsTooMuch_10 : decode cX5_tellsTooMuch 10 = .ok (.ireturn, 1) := by decide +kernel
theorem dX5_tellsTooMuch_11 : decode cX5_tellsTooMuch 11 = .ok (.aload_n 0, 1) := by decide +kernel
theorem dX5_tellsTooMuch_12 : decode cX5_tellsTooMuch 12 = .ok (.aload_n 0, 1) := by decide +kernel
theorem dX5_tellsTooMuch_13 : decode cX5_tellsTooMuch 13 = .ok (.getfield 51, 3) := by decide +kernel
theorem dX5_tellsTooMuch_16 : decode cX5_tellsTooMuch 16 = .ok (.iload_n 1, 1) := by decide +kernel
theorem dX5_tellsTooMuch_17 : decode cX5_tellsTooMuch 17 = .ok (.invokevirtual 86, 3) := by decide +kernel
theorem dX5_tellsTooMuch_20 : decode cX5_tellsTooMuch 20 = .ok (.ifCond .eq 5, 3) := by decide +kernel
theorem dX5_tellsTooMuch_23 : decode cX5_tellsTooMuch 23 = .ok (.iconst 1, 1) := by decide +kernel
theorem dX5_tellsTooMuch_24 : decode cX5_tellsTooMuch 24 = .ok (.ireturn, 1) := by decide +kernel
theorem dX5_tellsTooMuch_25 : decode cX5_tellsTooMuch 25 = .ok (.iconst 0, 1) := by decide +kernel
theorem dX5_tellsTooMuch_26 : decode cX5_tellsTooMuch 26 = .ok (.istore_n 2, 1) := by decide +kernel
theorem dX5_tellsTooMuch_27 : decode cX5_tellsTooMuch 27 = .ok (.iload_n 2, 1) := by decide +kernel
theorem dX5_tellsTooMuch_28 : decode cX5_tellsTooMuch 28 = .ok (.aload_n 0, 1) := by decide +kernel
theorem dX5_tellsTooMuch_29 : decode cX5_tellsTooMuch 29 = .ok (.getfield 33, 3) := by decide +kernel
theorem dX5_tellsTooMuch_32 : decode cX5_tellsTooMuch 32 = .ok (.getfield 77, 3) := by decide +kernel
theorem dX5_tellsTooMuch_35 : decode cX5_tellsTooMuch 35 = .ok (.aload_n 0, 1) := by decide +kernel
theorem dX5_tellsTooMuch_36 : decode cX5_tellsTooMuch 36 = .ok (.getfield 51, 3) := by decide +kernel
theorem dX5_tellsTooMuch_39 : decode cX5_tellsTooMuch 39 = .ok (.iaload, 1) := by decide +kernel
theorem dX5_tellsTooMuch_40 : decode cX5_tellsTooMuch 40 = .ok (.if_icmp .ge 48, 3) := by decide +kernel
theorem dX5_tellsTooMuch_43 : decode cX5_tellsTooMuch 43 = .ok (.aload_n 0, 1) := by decide +kernel
theorem dX5_tellsTooMuch_44 : decode cX5_tellsTooMuch 44 = .ok (.aload_n 0, 1) := by decide +kernel
theorem dX5_tellsTooMuch_45 : decode cX5_tellsTooMuch 45 = .ok (.getfield 51, 3) := by decide +kernel
theorem dX5_tellsTooMuch_48 : decode cX5_tellsTooMuch 48 = .ok (.iload_n 1, 1) := by decide +kernel
theorem dX5_tellsTooMuch_49 : decode cX5_tellsTooMuch 49 = .ok (.iload_n 2, 1) := by decide +kernel
theorem dX5_tellsTooMuch_50 : decode cX5_tellsTooMuch 50 = .ok (.invokevirtual 90, 3) := by decide +kernel
theorem dX5_tellsTooMuch_53 : decode cX5_tellsTooMuch 53 = .ok (.istore_n 3, 1) := by decide +kernel
theorem dX5_tellsTooMuch_54 : decode cX5_tellsTooMuch 54 = .ok (.aload_n 0, 1) := by decide +kernel
theorem dX5_tellsTooMuch_55 : decode cX5_tellsTooMuch 55 = .ok (.getfield 33, 3) := by decide +kernel
theorem dX5_tellsTooMuch_58 : decode cX5_tellsTooMuch 58 = .ok (.aload_n 0, 1) := by decide +kernel
theorem dX5_tellsTooMuch_59 : decode cX5_tellsTooMuch 59 = .ok (.getfield 51, 3) := by decide +kernel
theorem dX5_tellsTooMuch_62 : decode cX5_tellsTooMuch 62 = .ok (.iload_n 2, 1) := by decide +kernel
theorem dX5_tellsTooMuch_63 : decode cX5_tellsTooMuch 63 = .ok (.invokevirtual 80, 3) := by decide +kernel
theorem dX5_tellsTooMuch_66 : decode cX5_tellsTooMuch 66 = .ok (.iload_n 3, 1) := by decide +kernel
theorem dX5_tellsTooMuch_67 : decode cX5_tellsTooMuch 67 = .ok (.aload_n 0, 1) := by decide +kernel
theorem dX5_tellsTooMuch_68 : decode cX5_tellsTooMuch 68 = .ok (.getfield 23, 3) := by decide +kernel
theorem dX5_tellsTooMuch_71 : decode cX5_tellsTooMuch 71 = .ok (.iload_n 2, 1) := by decide +kernel
theorem dX5_tellsTooMuch_72 : decode cX5_tellsTooMuch 72 = .ok (.iaload, 1) := by decide +kernel
theorem dX5_tellsTooMuch_73 : decode cX5_tellsTooMuch 73 = .ok (.invokestatic 94, 3) := by decide +kernel
theorem dX5_tellsTooMuch_76 : decode cX5_tellsTooMuch 76 = .ok (.iload_n 3, 1) := by decide +kernel
theorem dX5_tellsTooMuch_77 : decode cX5_tellsTooMuch 77 = .ok (.if_icmp .eq 5, 3) := by decide +kernel
theorem dX5_tellsTooMuch_80 : decode cX5_tellsTooMuch 80 = .ok (.iconst 1, 1) := by decide +kernel
theorem dX5_tellsTooMuch_81 : decode cX5_tellsTooMuch 81 = .ok (.ireturn, 1) := by decide +kernel
theorem dX5_tellsTooMuch_82 : decode cX5_tellsTooMuch 82 = .ok (.iinc 2 1, 3) := by decide +kernel
theorem dX5_tellsTooMuch_85 : decode cX5_tellsTooMuch 85 = .ok (.goto (-58), 3) := by decide +kernel
theorem dX5_tellsTooMuch_88 : decode cX5_tellsTooMuch 88 = .ok (.iconst 0, 1) := by decide +kernel
theorem dX5_tellsTooMuch_89 : decode cX5_tellsTooMuch 89 = .ok (.ireturn, 1) := by decide +kernel
noncomputable def gX5_tellsTooMuch_27 (x1 : Int32) (x2 : Int32) (M : mv_M) : Option (((Int32 × Int32) ⊕ Int32) × mv_M) :=
  mv_getp (M.2.2 5 1) fun b3 =>
  mv_chk (mv_inb (M.1 5 2) 12) <|
  if (M.1 (b3 + 2) (M.1 5 2).toNatClampNeg) ≤ x2 then
    some (.inr (0), M)
  else
    mv_bind (fX5_demandOf (M.1 5 2) x1 x2 M) fun r5 M6 =>
    mv_getp (M6.2.2 5 1) fun b7 =>
    mv_bind (fX4_nameType b7 (M6.1 5 2) x2 M6) fun r8 M9 =>
    mv_chk (mv_inb x2 1344) <|
    mv_bind (tX6_either r8 r5 (M9.1 46 x2.toNatClampNeg) M9) fun r11 M12 =>
    if r11 = r5 then
      mv_let (x2 + 1) fun v13 =>
      some (.inl (x1, v13), M12)
    else
      some (.inr (1), M12)
noncomputable def fX5_tellsTooMuch_27 (x1 : Int32) (x2 : Int32) (M : mv_M) : Option (Int32 × mv_M) := mv_loop (fun (s : Int32 × Int32) M => gX5_tellsTooMuch_27 s.1 s.2 M) (x1, x2) M
set_option maxRecDepth 100000 in
set_option maxHeartbeats 4000000 in
theorem zX5_tellsTooMuch_27 {l : Launch} {d : Nat} {Q : Int32 → mv_M → Prop} (hd : 16 ≤ d) (x1 : Int32) (x2 : Int32) (M : mv_M) (h : mv_ok (fX5_tellsTooMuch_27 x1 x2 M) Q) : mv l mX5_tellsTooMuch d 0 27 [(0, .ref 5), (1, .int x1), (2, .int x2)] [] M (mv_qI Q) := by
  unfold fX5_tellsTooMuch_27 at h
  refine mv_loopE (A := (fun (s : Int32 × Int32) M => mv l mX5_tellsTooMuch d 0 27 [(0, .ref 5), (1, .int s.1), (2, .int s.2)] [] M (mv_qI Q))) ?_ (x1, x2) M h
  · rintro ⟨x1, x2⟩ M h
    try dsimp only at h
    show mv l mX5_tellsTooMuch d 0 27 [(0, .ref 5), (1, .int x1), (2, .int x2)] [] M (mv_qI Q)
    unfold gX5_tellsTooMuch_27 at h
    refine mv_iload_n 2 dX5_tellsTooMuch_27 rfl ?_
    refine mv_aload_n 0 dX5_tellsTooMuch_28 rfl ?_
    obtain ⟨b3, eb3, hb3, h⟩ := mv_getpE h
    refine mv_getP b3 fX5_33 (by decide) rfl rfl eb3 dX5_tellsTooMuch_29 ?_
    refine mv_getR (b3 + 2) fX5_77 (mv_pN (t := 0) hb3 (by decide)) (by rcases hb3 with rfl | rfl <;> rfl) rfl (by rcases hb3 with rfl | rfl <;> rfl) dX5_tellsTooMuch_32 ?_
    refine mv_aload_n 0 dX5_tellsTooMuch_35 rfl ?_
    refine mv_getI fX5_51 (by decide) rfl rfl dX5_tellsTooMuch_36 ?_
    obtain ⟨hi4, h⟩ := mv_chkE h
    refine mv_ild (mv_pN (t := 2) hb3 (by decide)) (by rcases hb3 with rfl | rfl <;> rfl) (mv_inE hi4) dX5_tellsTooMuch_39 ?_
    refine mv_icmp_ge 88 dX5_tellsTooMuch_40 (by decide) (fun z => ?_) (fun z => ?_)
    · replace h := mv_ifT z h
      refine mv_iconst 0 dX5_tellsTooMuch_88 (by decide) ?_
      exact mv_zret (by decide) rfl dX5_tellsTooMuch_89 ⟨_, rfl, h⟩
    · replace h := mv_ifF z h
      refine mv_aload_n 0 dX5_tellsTooMuch_43 rfl ?_
      refine mv_aload_n 0 dX5_tellsTooMuch_44 rfl ?_
      refine mv_getI fX5_51 (by decide) rfl rfl dX5_tellsTooMuch_45 ?_
      refine mv_iload_n 1 dX5_tellsTooMuch_48 rfl ?_
      refine mv_iload_n 2 dX5_tellsTooMuch_49 rfl ?_
      refine mv_cvI (As := [.int (M.1 5 2), .int x1, .int x2]) (st := []) okX5_demandOf lX5_90 (by decide) rfl rfl rfl (Nat.le_of_ble_eq_true rfl) rfl (Nat.le_of_ble_eq_true rfl) dX5_tellsTooMuch_50 (by omega) rfl (zX5_demandOf (d := d - 1) (by omega) (M.1 5 2) x1 x2 M (mv_bindE h)) (fun r5 M6 h => ?_)
      refine mv_istore_n [(3, .int r5), (0, .ref 5), (1, .int x1), (2, .int x2)] dX5_tellsTooMuch_53 (by decide) rfl ?_
      refine mv_aload_n 1 dX5_tellsTooMuch_54 rfl ?_
      obtain ⟨b7, eb7, hb7, h⟩ := mv_getpE h
      refine mv_getP b7 fX5_33 (by decide) rfl rfl eb7 dX5_tellsTooMuch_55 ?_
      refine mv_aload_n 1 dX5_tellsTooMuch_58 rfl ?_
      refine mv_getI fX5_51 (by decide) rfl rfl dX5_tellsTooMuch_59 ?_
      refine mv_iload_n 3 dX5_tellsTooMuch_62 rfl ?_
      refine mv_cvI (As := [.int (M6.1 5 2), .int x2]) (st := []) okX4_nameType lX5_80 (mv_pN (t := 0) hb7 (by decide)) (by rcases hb7 with rfl | rfl <;> rfl) rfl rfl (Nat.le_of_ble_eq_true rfl) rfl (Nat.le_of_ble_eq_true rfl) dX5_tellsTooMuch_63 (by omega) rfl (zX4_nameType (d := d - 1) (by omega) b7 (M6.1 5 2) x2 M6 hb7 (mv_bindE h)) (fun r8 M9 h => ?_)
      refine mv_iload_n 0 dX5_tellsTooMuch_66 rfl ?_
      refine mv_aload_n 1 dX5_tellsTooMuch_67 rfl ?_
      refine mv_getR 46 fX5_23 (by decide) rfl rfl rfl dX5_tellsTooMuch_68 ?_
      refine mv_iload_n 3 dX5_tellsTooMuch_71 rfl ?_
      obtain ⟨hi10, h⟩ := mv_chkE h
      refine mv_ild (by decide) rfl (mv_inE hi10) dX5_tellsTooMuch_72 ?_
      refine mv_csI (As := [.int r8, .int r5, .int (M9.1 46 x2.toNatClampNeg)]) (st := []) okX6_either lX5_94 rfl (Nat.le_of_ble_eq_true rfl) rfl (Nat.le_of_ble_eq_true rfl) dX5_tellsTooMuch_73 (by omega) rfl (ztX6_either (d := d - 1) (by omega) r8 r5 (M9.1 46 x2.toNatClampNeg) M9 (mv_bindE h)) (fun r11 M12 h => ?_)
      refine mv_iload_n 0 dX5_tellsTooMuch_76 rfl ?_
      refine mv_icmp_eq 82 dX5_tellsTooMuch_77 (by decide) (fun z => ?_) (fun z => ?_)
      · replace h := mv_ifT z h
        obtain ⟨v13, ev13⟩ : ∃ z : Int32, z = x2 + 1 := ⟨_, rfl⟩
        replace h := mv_letE h v13 ev13
        refine mv_iinc v13 3 [(2, .int v13), (3, .int r5), (0, .ref 5), (1, .int x1)] dX5_tellsTooMuch_82 rfl (by rw [ev13]; rfl) (by decide) rfl ?_
        refine mv_goto 27 dX5_tellsTooMuch_85 (by decide) ?_
        refine mv_sub [2, 3, 0] rfl ?_
        exact h
      · replace h := mv_ifF z h
        refine mv_iconst 1 dX5_tellsTooMuch_80 (by decide) ?_
        exact mv_zret (by decide) rfl dX5_tellsTooMuch_81 ⟨_, rfl, h⟩
noncomputable def fX5_tellsTooMuch (a0 : Int32) (M : mv_M) : Option (Int32 × mv_M) :=
  if (M.1 47 (0 : Int32).toNatClampNeg) = 0 then
    mv_bind (fX5_isDead (M.1 5 2) a0 M) fun r1 M2 =>
    if r1 = 0 then
      fX5_tellsTooMuch_27 a0 0 M2
    else
      some (1, M2)
  else
    some (0, M)
set_option maxRecDepth 100000 in
set_option maxHeartbeats 4000000 in
theorem zX5_tellsTooMuch {l : Launch} {d : Nat} {Q : Int32 → mv_M → Prop} (hd : 16 ≤ d) (a0 : Int32) (M : mv_M) (h : mv_ok (fX5_tellsTooMuch a0 M) Q) : mv l mX5_tellsTooMuch d 0 0 (lv_args 0 [.ref 5, .int a0]) [] M (mv_qI Q) := by
  unfold fX5_tellsTooMuch at h
  show mv l mX5_tellsTooMuch d 0 0 [(0, .ref 5), (1, .int a0)] [] M (mv_qI Q)
  refine mv_aload_n 0 dX5_tellsTooMuch_0 rfl ?_
  refine mv_getR 47 fX5_26 (by decide) rfl rfl rfl dX5_tellsTooMuch_1 ?_
  refine mv_iconst 0 dX5_tellsTooMuch_4 (by decide) ?_
  refine mv_zld (by decide) rfl (mv_inE (by decide)) dX5_tellsTooMuch_5 ?_
  refine mv_if_eq 11 dX5_tellsTooMuch_6 (by decide) (fun z => ?_) (fun z => ?_)
  · replace h := mv_ifT z h
    refine mv_aload_n 0 dX5_tellsTooMuch_11 rfl ?_
    refine mv_aload_n 0 dX5_tellsTooMuch_12 rfl ?_
    refine mv_getI fX5_51 (by decide) rfl rfl dX5_tellsTooMuch_13 ?_
    refine mv_iload_n 1 dX5_tellsTooMuch_16 rfl ?_
    refine mv_cvI (As := [.int (M.1 5 2), .int a0]) (st := []) okX5_isDead lX5_86 (by decide) rfl rfl rfl (Nat.le_of_ble_eq_true rfl) rfl (Nat.le_of_ble_eq_true rfl) dX5_tellsTooMuch_17 (by omega) rfl (zX5_isDead (d := d - 1) (by omega) (M.1 5 2) a0 M (mv_bindE h)) (fun r1 M2 h => ?_)
    refine mv_if_eq 25 dX5_tellsTooMuch_20 (by decide) (fun z => ?_) (fun z => ?_)
    · replace h := mv_ifT z h
      refine mv_iconst 0 dX5_tellsTooMuch_25 (by decide) ?_
      refine mv_istore_n [(2, .int 0), (0, .ref 5), (1, .int a0)] dX5_tellsTooMuch_26 (by decide) rfl ?_
      refine mv_sub [1, 2, 0] rfl ?_
      exact zX5_tellsTooMuch_27 hd a0 0 M2 h
    · replace h := mv_ifF z h
      refine mv_iconst 1 dX5_tellsTooMuch_23 (by decide) ?_
      exact mv_zret (by decide) rfl dX5_tellsTooMuch_24 ⟨_, rfl, h⟩
  · replace h := mv_ifF z h
    refine mv_iconst 0 dX5_tellsTooMuch_9 (by decide) ?_
    exact mv_zret (by decide) rfl dX5_tellsTooMuch_10 ⟨_, rfl, h⟩
theorem dX5_firstTooMuch_0 : decode cX5_firstTooMuch 0 = .ok (.iconst 0, 1) := by decide +kernel
theorem dX5_firstTooMuch_1 : decode cX5_firstTooMuch 1 = .ok (.istore_n 1, 1) := by decide +kernel
theorem dX5_firstTooMuch_2 : decode cX5_firstTooMuch 2 = .ok (.iload_n 1, 1) := by decide +kernel
theorem dX5_firstTooMuch_3 : decode cX5_firstTooMuch 3 = .ok (.aload_n 0, 1) := by decide +kernel
theorem dX5_firstTooMuch_4 : decode cX5_firstTooMuch 4 = .ok (.getfield 33, 3) := by decide +kernel
theorem dX5_firstTooMuch_7 : decode cX5_firstTooMuch 7 = .ok (.getfield 45, 3) := by decide +kernel
theorem dX5_firstTooMuch_10 : decode cX5_firstTooMuch 10 = .ok (.if_icmp .ge 79, 3) := by decide +kernel
theorem dX5_firstTooMuch_13 : decode cX5_firstTooMuch 13 = .ok (.aload_n 0, 1) := by decide +kernel
theorem dX5_firstTooMuch_14 : decode cX5_firstTooMuch 14 = .ok (.iload_n 1, 1) := by decide +kernel
theorem dX5_firstTooMuch_15 : decode cX5_firstTooMuch 15 = .ok (.putfield 51, 3) := by decide +kernel
theorem dX5_firstTooMuch_18 : decode cX5_firstTooMuch 18 = .ok (.aload_n 0, 1) := by decide +kernel
theorem dX5_firstTooMuch_19 : decode cX5_firstTooMuch 19 = .ok (.getfield 33, 3) := by decide +kernel
theorem dX5_firstTooMuch_22 : decode cX5_firstTooMuch 22 = .ok (.getfield 54, 3) := by decide +kernel
theorem dX5_firstTooMuch_25 : decode cX5_firstTooMuch 25 = .ok (.aload_n 0, 1) := by decide +kernel
theorem dX5_firstTooMuch_26 : decode cX5_firstTooMuch 26 = .ok (.getfield 51, 3) := by decide +kernel
theorem dX5_firstTooMuch_29 : decode cX5_firstTooMuch 29 = .ok (.iaload, 1) := by decide +kernel
theorem dX5_firstTooMuch_30 : decode cX5_firstTooMuch 30 = .ok (.invokestatic 57, 3) := by decide +kernel
theorem dX5_firstTooMuch_33 : decode cX5_firstTooMuch 33 = .ok (.istore_n 2, 1) := by decide +kernel
theorem dX5_firstTooMuch_34 : decode cX5_firstTooMuch 34 = .ok (.iconst 1, 1) := by decide +kernel
theorem dX5_firstTooMuch_35 : decode cX5_firstTooMuch 35 = .ok (.istore_n 3, 1) := by decide +kernel
theorem dX5_firstTooMuch_36 : decode cX5_firstTooMuch 36 = .ok (.iload_n 3, 1) := by decide +kernel
theorem dX5_firstTooMuch_37 : decode cX5_firstTooMuch 37 = .ok (.iload_n 2, 1) := by decide +kernel
theorem dX5_firstTooMuch_38 : decode cX5_firstTooMuch 38 = .ok (.if_icmp .ge 45, 3) := by decide +kernel
theorem dX5_firstTooMuch_41 : decode cX5_firstTooMuch 41 = .ok (.aload_n 0, 1) := by decide +kernel
theorem dX5_firstTooMuch_42 : decode cX5_firstTooMuch 42 = .ok (.aload_n 0, 1) := by decide +kernel
theorem dX5_firstTooMuch_43 : decode cX5_firstTooMuch 43 = .ok (.getfield 33, 3) := by decide +kernel
theorem dX5_firstTooMuch_46 : decode cX5_firstTooMuch 46 = .ok (.getfield 63, 3) := by decide +kernel
theorem dX5_firstTooMuch_49 : decode cX5_firstTooMuch 49 = .ok (.aload_n 0, 1) := by decide +kernel
theorem dX5_firstTooMuch_50 : decode cX5_firstTooMuch 50 = .ok (.getfield 51, 3) := by decide +kernel
theorem dX5_firstTooMuch_53 : decode cX5_firstTooMuch 53 = .ok (.iaload, 1) := by decide +kernel
theorem dX5_firstTooMuch_54 : decode cX5_firstTooMuch 54 = .ok (.iload_n 3, 1) := by decide +kernel
theorem dX5_firstTooMuch_55 : decode cX5_firstTooMuch 55 = .ok (.iconst 0, 1) := by decide +kernel
theorem dX5_firstTooMuch_56 : decode cX5_firstTooMuch 56 = .ok (.invokevirtual 66, 3) := by decide +kernel
theorem dX5_firstTooMuch_59 : decode cX5_firstTooMuch 59 = .ok (.aload_n 0, 1) := by decide +kernel
theorem dX5_firstTooMuch_60 : decode cX5_firstTooMuch 60 = .ok (.iload_n 3, 1) := by decide +kernel
theorem dX5_firstTooMuch_61 : decode cX5_firstTooMuch 61 = .ok (.invokevirtual 70, 3) := by decide +kernel
theorem dX5_firstTooMuch_64 : decode cX5_firstTooMuch 64 = .ok (.ifCond .eq 13, 3) := by decide +kernel
theorem dX5_firstTooMuch_67 : decode cX5_firstTooMuch 67 = .ok (.bipush 32, 2) := by decide +kernel
theorem dX5_firstTooMuch_69 : decode cX5_firstTooMuch 69 = .ok (.aload_n 0, 1) := by decide +kernel
theorem dX5_firstTooMuch_70 : decode cX5_firstTooMuch 70 = .ok (.getfield 51, 3) := by decide +kernel
theorem dX5_firstTooMuch_73 : decode cX5_firstTooMuch 73 = .ok (.imul, 1) := by decide +kernel
theorem dX5_firstTooMuch_74 : decode cX5_firstTooMuch 74 = .ok (.iload_n 3, 1) := by decide +kernel
theorem dX5_firstTooMuch_75 : decode cX5_firstTooMuch 75 = .ok (.iadd, 1) := by decide +kernel
theorem dX5_firstTooMuch_76 : decode cX5_firstTooMuch 76 = .ok (.ireturn, 1) := by decide +kernel
theorem dX5_firstTooMuch_77 : decode cX5_firstTooMuch 77 = .ok (.iinc 3 1, 3) := by decide +kernel
theorem dX5_firstTooMuch_80 : decode cX5_firstTooMuch 80 = .ok (.goto (-44), 3) := by decide +kernel
theorem dX5_firstTooMuch_83 : decode cX5_firstTooMuch 83 = .ok (.iinc 1 1, 3) := by decide +kernel
theorem dX5_firstTooMuch_86 : decode cX5_firstTooMuch 86 = .ok (.goto (-84), 3) := by decide +kernel
theorem dX5_firstTooMuch_89 : decode cX5_firstTooMuch 89 = .ok (.iconst (-1), 1) := by decide +kernel
theorem dX5_firstTooMuch_90 : decode cX5_firstTooMuch 90 = .ok (.ireturn, 1) := by decide +kernel
noncomputable def gX5_firstTooMuch_36 (x1 : Int32) (x2 : Int32) (x3 : Int32) (M : mv_M) : Option (((Int32 × Int32 × Int32) ⊕ ((Int32) ⊕ Int32)) × mv_M) :=
  if x2 ≤ x3 then
    mv_let (x1 + 1) fun v7 =>
    some (.inr (.inl v7), M)
  else
    mv_getp (M.2.2 5 1) fun b8 =>
    mv_chk (mv_inb (M.1 5 2) 12) <|
    mv_bind (tX5_weigh (M.1 (b8 + 5) (M.1 5 2).toNatClampNeg) x3 0 M) fun _ M10 =>
    mv_bind (fX5_tellsTooMuch x3 M10) fun r11 M12 =>
    if r11 = 0 then
      mv_let (x3 + 1) fun v13 =>
      some (.inl (x1, x2, v13), M12)
    else
      some (.inr (.inr ((32 * (M12.1 5 2)) + x3)), M12)
noncomputable def fX5_firstTooMuch_36 (x1 : Int32) (x2 : Int32) (x3 : Int32) (M : mv_M) : Option (((Int32) ⊕ Int32) × mv_M) := mv_loop (fun (s : Int32 × Int32 × Int32) M => gX5_firstTooMuch_36 s.1 s.2.1 s.2.2 M) (x1, x2, x3) M
set_option maxRecDepth 100000 in
set_option maxHeartbeats 4000000 in
theorem zX5_firstTooMuch_36 {l : Launch} {d : Nat} {Q : Int32 → mv_M → Prop} (hd : 339 ≤ d) (x1 : Int32) (x2 : Int32) (x3 : Int32) (M : mv_M) (h : mv_ok (fX5_firstTooMuch_36 x1 x2 x3 M) (mv_pq (fun (s : Int32) M => mv l mX5_firstTooMuch d 0 2 [(0, .ref 5), (1, .int s)] [] M (mv_qI Q)) Q)) : mv l mX5_firstTooMuch d 0 36 [(0, .ref 5), (1, .int x1), (2, .int x2), (3, .int x3)] [] M (mv_qI Q) := by
  unfold fX5_firstTooMuch_36 at h
  refine mv_loopE (A := (fun (s : Int32 × Int32 × Int32) M => mv l mX5_firstTooMuch d 0 36 [(0, .ref 5), (1, .int s.1), (2, .int s.2.1), (3, .int s.2.2)] [] M (mv_qI Q))) ?_ (x1, x2, x3) M h
  · rintro ⟨x1, x2, x3⟩ M h
    try dsimp only at h
    show mv l mX5_firstTooMuch d 0 36 [(0, .ref 5), (1, .int x1), (2, .int x2), (3, .int x3)] [] M (mv_qI Q)
    unfold gX5_firstTooMuch_36 at h
    refine mv_iload_n 3 dX5_firstTooMuch_36 rfl ?_
    refine mv_iload_n 2 dX5_firstTooMuch_37 rfl ?_
    refine mv_icmp_ge 83 dX5_firstTooMuch_38 (by decide) (fun z => ?_) (fun z => ?_)
    · replace h := mv_ifT z h
      obtain ⟨v7, ev7⟩ : ∃ z : Int32, z = x1 + 1 := ⟨_, rfl⟩
      replace h := mv_letE h v7 ev7
      refine mv_iinc v7 1 [(1, .int v7), (0, .ref 5), (2, .int x2), (3, .int x3)] dX5_firstTooMuch_83 rfl (by rw [ev7]; rfl) (by decide) rfl ?_
      refine mv_goto 2 dX5_firstTooMuch_86 (by decide) ?_
      refine mv_sub [1, 0] rfl ?_
      exact h
    · replace h := mv_ifF z h
      refine mv_aload_n 0 dX5_firstTooMuch_41 rfl ?_
      refine mv_aload_n 0 dX5_firstTooMuch_42 rfl ?_
      obtain ⟨b8, eb8, hb8, h⟩ := mv_getpE h
      refine mv_getP b8 fX5_33 (by decide) rfl rfl eb8 dX5_firstTooMuch_43 ?_
      refine mv_getR (b8 + 5) fX5_63 (mv_pN (t := 0) hb8 (by decide)) (by rcases hb8 with rfl | rfl <;> rfl) rfl (by rcases hb8 with rfl | rfl <;> rfl) dX5_firstTooMuch_46 ?_
      refine mv_aload_n 0 dX5_firstTooMuch_49 rfl ?_
      refine mv_getI fX5_51 (by decide) rfl rfl dX5_firstTooMuch_50 ?_
      obtain ⟨hi9, h⟩ := mv_chkE h
      refine mv_ild (mv_pN (t := 5) hb8 (by decide)) (by rcases hb8 with rfl | rfl <;> rfl) (mv_inE hi9) dX5_firstTooMuch_53 ?_
      refine mv_iload_n 3 dX5_firstTooMuch_54 rfl ?_
      refine mv_iconst 0 dX5_firstTooMuch_55 (by decide) ?_
      refine mv_cvV (As := [.int (M.1 (b8 + 5) (M.1 5 2).toNatClampNeg), .int x3, .int 0]) (st := []) okX5_weigh lX5_66 (by decide) rfl rfl rfl (Nat.le_of_ble_eq_true rfl) rfl (Nat.le_of_ble_eq_true rfl) dX5_firstTooMuch_56 (by omega) rfl (ztX5_weigh (d := d - 1) (by omega) (M.1 (b8 + 5) (M.1 5 2).toNatClampNeg) x3 0 M (mv_bindE h)) (fun _ M10 h => ?_)
      refine mv_aload_n 0 dX5_firstTooMuch_59 rfl ?_
      refine mv_iload_n 3 dX5_firstTooMuch_60 rfl ?_
      refine mv_cvI (As := [.int x3]) (st := []) okX5_tellsTooMuch lX5_70 (by decide) rfl rfl rfl (Nat.le_of_ble_eq_true rfl) rfl (Nat.le_of_ble_eq_true rfl) dX5_firstTooMuch_61 (by omega) rfl (zX5_tellsTooMuch (d := d - 1) (by omega) x3 M10 (mv_bindE h)) (fun r11 M12 h => ?_)
      refine mv_if_eq 77 dX5_firstTooMuch_64 (by decide) (fun z => ?_) (fun z => ?_)
      · replace h := mv_ifT z h
        obtain ⟨v13, ev13⟩ : ∃ z : Int32, z = x3 + 1 := ⟨_, rfl⟩
        replace h := mv_letE h v13 ev13
        refine mv_iinc v13 3 [(3, .int v13), (0, .ref 5), (1, .int x1), (2, .int x2)] dX5_firstTooMuch_77 rfl (by rw [ev13]; rfl) (by decide) rfl ?_
        refine mv_goto 36 dX5_firstTooMuch_80 (by decide) ?_
        refine mv_sub [1, 2, 3, 0] rfl ?_
        exact h
      · replace h := mv_ifF z h
        refine mv_bipush 32 dX5_firstTooMuch_67 (by decide) ?_
        refine mv_aload_n 0 dX5_firstTooMuch_69 rfl ?_
        refine mv_getI fX5_51 (by decide) rfl rfl dX5_firstTooMuch_70 ?_
        refine mv_imul dX5_firstTooMuch_73 ?_
        refine mv_iload_n 3 dX5_firstTooMuch_74 rfl ?_
        refine mv_iadd dX5_firstTooMuch_75 ?_
        exact mv_iret rfl dX5_firstTooMuch_76 ⟨_, rfl, h⟩
noncomputable def gX5_firstTooMuch_2 (x1 : Int32) (M : mv_M) : Option (((Int32) ⊕ Int32) × mv_M) :=
  mv_getp (M.2.2 5 1) fun b1 =>
  if (M.1 b1 0) ≤ x1 then
    some (.inr ((-1)), M)
  else
    mv_let (mv_si M 5 2 x1) fun M2 =>
    mv_getp (M2.2.2 5 1) fun b3 =>
    mv_chk (mv_inb (M2.1 5 2) 12) <|
    mv_bind (fX6_demandsOf (M2.1 (b3 + 4) (M2.1 5 2).toNatClampNeg) M2) fun r5 M6 =>
    fX5_firstTooMuch_36 x1 r5 1 M6
noncomputable def fX5_firstTooMuch_2 (x1 : Int32) (M : mv_M) : Option (Int32 × mv_M) := mv_loop (fun (s : Int32) M => gX5_firstTooMuch_2 s M) x1 M
set_option maxRecDepth 100000 in
set_option maxHeartbeats 4000000 in
theorem zX5_firstTooMuch_2 {l : Launch} {d : Nat} {Q : Int32 → mv_M → Prop} (hd : 339 ≤ d) (x1 : Int32) (M : mv_M) (h : mv_ok (fX5_firstTooMuch_2 x1 M) Q) : mv l mX5_firstTooMuch d 0 2 [(0, .ref 5), (1, .int x1)] [] M (mv_qI Q) := by
  unfold fX5_firstTooMuch_2 at h
  refine mv_loopE (A := (fun (s : Int32) M => mv l mX5_firstTooMuch d 0 2 [(0, .ref 5), (1, .int s)] [] M (mv_qI Q))) ?_ x1 M h
  · intro x1 M h
    try dsimp only at h
    show mv l mX5_firstTooMuch d 0 2 [(0, .ref 5), (1, .int x1)] [] M (mv_qI Q)
    unfold gX5_firstTooMuch_2 at h
    refine mv_iload_n 1 dX5_firstTooMuch_2 rfl ?_
    refine mv_aload_n 0 dX5_firstTooMuch_3 rfl ?_
    obtain ⟨b1, eb1, hb1, h⟩ := mv_getpE h
    refine mv_getP b1 fX5_33 (by decide) rfl rfl eb1 dX5_firstTooMuch_4 ?_
    refine mv_getI fX5_45 (mv_pN (t := 0) hb1 (by decide)) (by rcases hb1 with rfl | rfl <;> rfl) rfl dX5_firstTooMuch_7 ?_
    refine mv_icmp_ge 89 dX5_firstTooMuch_10 (by decide) (fun z => ?_) (fun z => ?_)
    · replace h := mv_ifT z h
      refine mv_iconst (-1) dX5_firstTooMuch_89 (by decide) ?_
      exact mv_iret rfl dX5_firstTooMuch_90 ⟨_, rfl, h⟩
    · replace h := mv_ifF z h
      refine mv_aload_n 0 dX5_firstTooMuch_13 rfl ?_
      refine mv_iload_n 1 dX5_firstTooMuch_14 rfl ?_
      refine mv_putI fX5_51 (by decide) rfl rfl dX5_firstTooMuch_15 (fun M2 eM2 => ?_)
      replace h := mv_letE h M2 eM2
      refine mv_aload_n 0 dX5_firstTooMuch_18 rfl ?_
      obtain ⟨b3, eb3, hb3, h⟩ := mv_getpE h
      refine mv_getP b3 fX5_33 (by decide) rfl rfl eb3 dX5_firstTooMuch_19 ?_
      refine mv_getR (b3 + 4) fX5_54 (mv_pN (t := 0) hb3 (by decide)) (by rcases hb3 with rfl | rfl <;> rfl) rfl (by rcases hb3 with rfl | rfl <;> rfl) dX5_firstTooMuch_22 ?_
      refine mv_aload_n 0 dX5_firstTooMuch_25 rfl ?_
      refine mv_getI fX5_51 (by decide) rfl rfl dX5_firstTooMuch_26 ?_
      obtain ⟨hi4, h⟩ := mv_chkE h
      refine mv_ild (mv_pN (t := 4) hb3 (by decide)) (by rcases hb3 with rfl | rfl <;> rfl) (mv_inE hi4) dX5_firstTooMuch_29 ?_
      refine mv_csI (As := [.int (M2.1 (b3 + 4) (M2.1 5 2).toNatClampNeg)]) (st := []) okX6_demandsOf lX5_57 rfl (Nat.le_of_ble_eq_true rfl) rfl (Nat.le_of_ble_eq_true rfl) dX5_firstTooMuch_30 (by omega) rfl (zX6_demandsOf (d := d - 1) (by omega) (M2.1 (b3 + 4) (M2.1 5 2).toNatClampNeg) M2 (mv_bindE h)) (fun r5 M6 h => ?_)
      refine mv_istore_n [(2, .int r5), (0, .ref 5), (1, .int x1)] dX5_firstTooMuch_33 (by decide) rfl ?_
      refine mv_iconst 1 dX5_firstTooMuch_34 (by decide) ?_
      refine mv_istore_n [(3, .int 1), (2, .int r5), (0, .ref 5), (1, .int x1)] dX5_firstTooMuch_35 (by decide) rfl ?_
      refine mv_sub [2, 3, 1, 0] rfl ?_
      exact zX5_firstTooMuch_36 hd x1 r5 1 M6 h
noncomputable def fX5_firstTooMuch (M : mv_M) : Option (Int32 × mv_M) :=
  fX5_firstTooMuch_2 0 M
set_option maxRecDepth 100000 in
set_option maxHeartbeats 4000000 in
theorem zX5_firstTooMuch {l : Launch} {d : Nat} {Q : Int32 → mv_M → Prop} (hd : 339 ≤ d) (M : mv_M) (h : mv_ok (fX5_firstTooMuch M) Q) : mv l mX5_firstTooMuch d 0 0 (lv_args 0 [.ref 5]) [] M (mv_qI Q) := by
  unfold fX5_firstTooMuch at h
  show mv l mX5_firstTooMuch d 0 0 [(0, .ref 5)] [] M (mv_qI Q)
  refine mv_iconst 0 dX5_firstTooMuch_0 (by decide) ?_
  refine mv_istore_n [(1, .int 0), (0, .ref 5)] dX5_firstTooMuch_1 (by decide) rfl ?_
  refine mv_sub [1, 0] rfl ?_
  exact zX5_firstTooMuch_2 hd 0 M h
