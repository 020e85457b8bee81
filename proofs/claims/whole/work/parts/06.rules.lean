section MVR
variable {l : Launch} {Y : mv_Y} {d k pc : Nat} {lv : List (Nat × Value)} {st : List Value} {M : mv_M} {Q : mv_R → mv_M → Prop}
theorem mv_iconst {n : Int} (v : Int32) (hd : decode Y.2.1 pc = .ok (.iconst n, 1)) (hv : Int32.ofInt n = v) (h : mv l Y d k (pc + 1) lv (.int v :: st) M Q) : mv l Y d k pc lv (st) M Q := by
  intro p e R s m args below meth c H locs cells slots ls ad cA dC dI kk ss hm hf hP hS hR hl
  exact lv_iconst (rest := st.map (mv_cv ad)) hm.1 hm.2.1 hd hv (h p e R s m args below meth c H locs cells slots ls ad cA dC dI kk ss hm hf hP hS hR hl)
theorem mv_bipush {n : Int} (v : Int32) (hd : decode Y.2.1 pc = .ok (.bipush n, 2)) (hv : (Int8.ofInt n).toInt32 = v) (h : mv l Y d k (pc + 2) lv (.int v :: st) M Q) : mv l Y d k pc lv (st) M Q := by
  intro p e R s m args below meth c H locs cells slots ls ad cA dC dI kk ss hm hf hP hS hR hl
  exact lv_bipush (rest := st.map (mv_cv ad)) hm.1 hm.2.1 hd hv (h p e R s m args below meth c H locs cells slots ls ad cA dC dI kk ss hm hf hP hS hR hl)
theorem mv_sipush {n : Int} (v : Int32) (hd : decode Y.2.1 pc = .ok (.sipush n, 3)) (hv : (Int16.ofInt n).toInt32 = v) (h : mv l Y d k (pc + 3) lv (.int v :: st) M Q) : mv l Y d k pc lv (st) M Q := by
  intro p e R s m args below meth c H locs cells slots ls ad cA dC dI kk ss hm hf hP hS hR hl
  exact lv_sipush (rest := st.map (mv_cv ad)) hm.1 hm.2.1 hd hv (h p e R s m args below meth c H locs cells slots ls ad cA dC dI kk ss hm hf hP hS hR hl)
theorem mv_lconst {n : Fin 2} (v : Int64) (hd : decode Y.2.1 pc = .ok (.lconst n, 1)) (hv : Int64.ofNat (n : Nat) = v) (h : mv l Y d k (pc + 1) lv (.long v :: st) M Q) : mv l Y d k pc lv (st) M Q := by
  intro p e R s m args below meth c H locs cells slots ls ad cA dC dI kk ss hm hf hP hS hR hl
  exact lv_lconst (rest := st.map (mv_cv ad)) hm.1 hm.2.1 hd hv (h p e R s m args below meth c H locs cells slots ls ad cA dC dI kk ss hm hf hP hS hR hl)
theorem mv_ldc {n : Nat} {v : Int32} (hc : Cond.constant Y.1.cls n v ∈ mv_T) (hd : decode Y.2.1 pc = .ok (.ldc n, 2)) (h : mv l Y d k (pc + 2) lv (.int v :: st) M Q) : mv l Y d k pc lv (st) M Q := by
  intro p e R s m args below meth c H locs cells slots ls ad cA dC dI kk ss hm hf hP hS hR hl
  exact lv_ldc (rest := st.map (mv_cv ad)) hm.1 hm.2.1 hm.2.2.2.2.1 (hm.2.2.2.2.2.2.2 _ hc) hd (h p e R s m args below meth c H locs cells slots ls ad cA dC dI kk ss hm hf hP hS hR hl)
theorem mv_ldcw {n : Nat} {v : Int32} (hc : Cond.constant Y.1.cls n v ∈ mv_T) (hd : decode Y.2.1 pc = .ok (.ldc_w n, 3)) (h : mv l Y d k (pc + 3) lv (.int v :: st) M Q) : mv l Y d k pc lv (st) M Q := by
  intro p e R s m args below meth c H locs cells slots ls ad cA dC dI kk ss hm hf hP hS hR hl
  exact lv_ldcw (rest := st.map (mv_cv ad)) hm.1 hm.2.1 hm.2.2.2.2.1 (hm.2.2.2.2.2.2.2 _ hc) hd (h p e R s m args below meth c H locs cells slots ls ad cA dC dI kk ss hm hf hP hS hR hl)
theorem mv_ldc2 {n : Nat} {v : Int64} (hc : Cond.constantLong Y.1.cls n v ∈ mv_T) (hd : decode Y.2.1 pc = .ok (.ldc2_w n, 3)) (h : mv l Y d k (pc + 3) lv (.long v :: st) M Q) : mv l Y d k pc lv (st) M Q := by
  intro p e R s m args below meth c H locs cells slots ls ad cA dC dI kk ss hm hf hP hS hR hl
  exact lv_ldc2 (rest := st.map (mv_cv ad)) hm.1 hm.2.1 hm.2.2.2.2.1 (hm.2.2.2.2.2.2.2 _ hc) hd (h p e R s m args below meth c H locs cells slots ls ad cA dC dI kk ss hm hf hP hS hR hl)
theorem mv_iload_n {i : Fin 4} {x : Int32} (j : Nat) (hd : decode Y.2.1 pc = .ok (.iload_n i, 1)) (hk : lv[j]? = some ((i : Nat), Value.int x)) (h : mv l Y d k (pc + 1) lv (.int x :: st) M Q) : mv l Y d k pc lv (st) M Q := by
  intro p e R s m args below meth c H locs cells slots ls ad cA dC dI kk ss hm hf hP hS hR hl
  exact lv_iload_n (rest := st.map (mv_cv ad)) hm.1 hm.2.1 hd rfl (lv_at hl j (mv_cl_at hk)) (h p e R s m args below meth c H locs cells slots ls ad cA dC dI kk ss hm hf hP hS hR hl)
theorem mv_iload {i : Nat} {x : Int32} (j : Nat) (hd : decode Y.2.1 pc = .ok (.iload i, 2)) (hk : lv[j]? = some (i, Value.int x)) (h : mv l Y d k (pc + 2) lv (.int x :: st) M Q) : mv l Y d k pc lv (st) M Q := by
  intro p e R s m args below meth c H locs cells slots ls ad cA dC dI kk ss hm hf hP hS hR hl
  exact lv_iload (rest := st.map (mv_cv ad)) hm.1 hm.2.1 hd (lv_at hl j (mv_cl_at hk)) (h p e R s m args below meth c H locs cells slots ls ad cA dC dI kk ss hm hf hP hS hR hl)
theorem mv_istore_n {i : Fin 4} {x : Int32} (lv' : List (Nat × Value)) (hd : decode Y.2.1 pc = .ok (.istore_n i, 1)) (hn : (i : Nat) < Y.2.2.1) (hl2 : mv_st1 lv (i : Nat) (.int x) = lv') (h : mv l Y d k (pc + 1) lv' st M Q) : mv l Y d k pc lv (.int x :: st) M Q := by
  intro p e R s m args below meth c H locs cells slots ls ad cA dC dI kk ss hm hf hP hS hR hl
  subst hl2
  exact lv_istore_n (rest := st.map (mv_cv ad)) hm.1 hm.2.1 hd rfl hl hn (mv_cl_st1 ad lv (i : Nat) (.int x)) (fun ls hl => h p e R s m args below meth c H locs cells slots ls ad cA dC dI kk ss hm hf hP hS hR hl)
theorem mv_istore {i : Nat} {x : Int32} (lv' : List (Nat × Value)) (hd : decode Y.2.1 pc = .ok (.istore i, 2)) (hn : (i : Nat) < Y.2.2.1) (hl2 : mv_st1 lv i (.int x) = lv') (h : mv l Y d k (pc + 2) lv' st M Q) : mv l Y d k pc lv (.int x :: st) M Q := by
  intro p e R s m args below meth c H locs cells slots ls ad cA dC dI kk ss hm hf hP hS hR hl
  subst hl2
  exact lv_istore (rest := st.map (mv_cv ad)) hm.1 hm.2.1 hd hl hn (mv_cl_st1 ad lv i (.int x)) (fun ls hl => h p e R s m args below meth c H locs cells slots ls ad cA dC dI kk ss hm hf hP hS hR hl)
theorem mv_lload_n {i : Fin 4} {x : Int64} (j : Nat) (hd : decode Y.2.1 pc = .ok (.lload_n i, 1)) (hk : lv[j]? = some ((i : Nat), Value.long x)) (h : mv l Y d k (pc + 1) lv (.long x :: st) M Q) : mv l Y d k pc lv (st) M Q := by
  intro p e R s m args below meth c H locs cells slots ls ad cA dC dI kk ss hm hf hP hS hR hl
  exact lv_lload_n (rest := st.map (mv_cv ad)) hm.1 hm.2.1 hd rfl (lv_at hl j (mv_cl_at hk)) (h p e R s m args below meth c H locs cells slots ls ad cA dC dI kk ss hm hf hP hS hR hl)
theorem mv_lload {i : Nat} {x : Int64} (j : Nat) (hd : decode Y.2.1 pc = .ok (.lload i, 2)) (hk : lv[j]? = some (i, Value.long x)) (h : mv l Y d k (pc + 2) lv (.long x :: st) M Q) : mv l Y d k pc lv (st) M Q := by
  intro p e R s m args below meth c H locs cells slots ls ad cA dC dI kk ss hm hf hP hS hR hl
  exact lv_lload (rest := st.map (mv_cv ad)) hm.1 hm.2.1 hd (lv_at hl j (mv_cl_at hk)) (h p e R s m args below meth c H locs cells slots ls ad cA dC dI kk ss hm hf hP hS hR hl)
theorem mv_lstore_n {i : Fin 4} {x : Int64} (lv' : List (Nat × Value)) (hd : decode Y.2.1 pc = .ok (.lstore_n i, 1)) (hn : (i : Nat) + 1 < Y.2.2.1) (hl2 : mv_st2 lv (i : Nat) (.long x) = lv') (h : mv l Y d k (pc + 1) lv' st M Q) : mv l Y d k pc lv (.long x :: st) M Q := by
  intro p e R s m args below meth c H locs cells slots ls ad cA dC dI kk ss hm hf hP hS hR hl
  subst hl2
  exact lv_lstore_n (rest := st.map (mv_cv ad)) hm.1 hm.2.1 hd rfl hl hn (mv_cl_st2 ad lv (i : Nat) (.long x)) (fun ls hl => h p e R s m args below meth c H locs cells slots ls ad cA dC dI kk ss hm hf hP hS hR hl)
theorem mv_lstore {i : Nat} {x : Int64} (lv' : List (Nat × Value)) (hd : decode Y.2.1 pc = .ok (.lstore i, 2)) (hn : (i : Nat) + 1 < Y.2.2.1) (hl2 : mv_st2 lv i (.long x) = lv') (h : mv l Y d k (pc + 2) lv' st M Q) : mv l Y d k pc lv (.long x :: st) M Q := by
  intro p e R s m args below meth c H locs cells slots ls ad cA dC dI kk ss hm hf hP hS hR hl
  subst hl2
  exact lv_lstore (rest := st.map (mv_cv ad)) hm.1 hm.2.1 hd hl hn (mv_cl_st2 ad lv i (.long x)) (fun ls hl => h p e R s m args below meth c H locs cells slots ls ad cA dC dI kk ss hm hf hP hS hR hl)
theorem mv_aload_n {i : Fin 4} {x : Nat} (j : Nat) (hd : decode Y.2.1 pc = .ok (.aload_n i, 1)) (hk : lv[j]? = some ((i : Nat), Value.ref x)) (h : mv l Y d k (pc + 1) lv (.ref x :: st) M Q) : mv l Y d k pc lv (st) M Q := by
  intro p e R s m args below meth c H locs cells slots ls ad cA dC dI kk ss hm hf hP hS hR hl
  exact lv_aload_n (rest := st.map (mv_cv ad)) hm.1 hm.2.1 hd rfl (lv_at hl j (mv_cl_at hk)) (h p e R s m args below meth c H locs cells slots ls ad cA dC dI kk ss hm hf hP hS hR hl)
theorem mv_aload {i : Nat} {x : Nat} (j : Nat) (hd : decode Y.2.1 pc = .ok (.aload i, 2)) (hk : lv[j]? = some (i, Value.ref x)) (h : mv l Y d k (pc + 2) lv (.ref x :: st) M Q) : mv l Y d k pc lv (st) M Q := by
  intro p e R s m args below meth c H locs cells slots ls ad cA dC dI kk ss hm hf hP hS hR hl
  exact lv_aload (rest := st.map (mv_cv ad)) hm.1 hm.2.1 hd (lv_at hl j (mv_cl_at hk)) (h p e R s m args below meth c H locs cells slots ls ad cA dC dI kk ss hm hf hP hS hR hl)
theorem mv_astore_n {i : Fin 4} {x : Nat} (lv' : List (Nat × Value)) (hd : decode Y.2.1 pc = .ok (.astore_n i, 1)) (hn : (i : Nat) < Y.2.2.1) (hl2 : mv_st1 lv (i : Nat) (.ref x) = lv') (h : mv l Y d k (pc + 1) lv' st M Q) : mv l Y d k pc lv (.ref x :: st) M Q := by
  intro p e R s m args below meth c H locs cells slots ls ad cA dC dI kk ss hm hf hP hS hR hl
  subst hl2
  exact lv_astore_n (rest := st.map (mv_cv ad)) hm.1 hm.2.1 hd rfl hl hn (mv_cl_st1 ad lv (i : Nat) (.ref x)) (fun ls hl => h p e R s m args below meth c H locs cells slots ls ad cA dC dI kk ss hm hf hP hS hR hl)
theorem mv_astore {i : Nat} {x : Nat} (lv' : List (Nat × Value)) (hd : decode Y.2.1 pc = .ok (.astore i, 2)) (hn : (i : Nat) < Y.2.2.1) (hl2 : mv_st1 lv i (.ref x) = lv') (h : mv l Y d k (pc + 2) lv' st M Q) : mv l Y d k pc lv (.ref x :: st) M Q := by
  intro p e R s m args below meth c H locs cells slots ls ad cA dC dI kk ss hm hf hP hS hR hl
  subst hl2
  exact lv_astore (rest := st.map (mv_cv ad)) hm.1 hm.2.1 hd hl hn (mv_cl_st1 ad lv i (.ref x)) (fun ls hl => h p e R s m args below meth c H locs cells slots ls ad cA dC dI kk ss hm hf hP hS hR hl)
theorem mv_iinc {i : Nat} {n : Int} {x : Int32} (v : Int32) (j : Nat) (lv' : List (Nat × Value)) (hd : decode Y.2.1 pc = .ok (.iinc i n, 3)) (hk : lv[j]? = some (i, Value.int x)) (hv : x + Int32.ofInt n = v) (hn : i < Y.2.2.1) (hl2 : mv_st1 lv i (.int v) = lv') (h : mv l Y d k (pc + 3) lv' st M Q) : mv l Y d k pc lv st M Q := by
  intro p e R s m args below meth c H locs cells slots ls ad cA dC dI kk ss hm hf hP hS hR hl
  subst hl2
  exact lv_iinc (rest := st.map (mv_cv ad)) hm.1 hm.2.1 hd hl (mv_cl_at hk) hv hn (mv_cl_st1 ad lv i (.int v)) (fun ls hl => h p e R s m args below meth c H locs cells slots ls ad cA dC dI kk ss hm hf hP hS hR hl)
theorem mv_iadd {x y : Int32} (hd : decode Y.2.1 pc = .ok (.iadd, 1)) (h : mv l Y d k (pc + 1) lv (.int (x + y) :: st) M Q) : mv l Y d k pc lv (.int y :: .int x :: st) M Q := by
  intro p e R s m args below meth c H locs cells slots ls ad cA dC dI kk ss hm hf hP hS hR hl
  exact lv_iadd (rest := st.map (mv_cv ad)) hm.1 hm.2.1 hd (h p e R s m args below meth c H locs cells slots ls ad cA dC dI kk ss hm hf hP hS hR hl)
theorem mv_isub {x y : Int32} (hd : decode Y.2.1 pc = .ok (.isub, 1)) (h : mv l Y d k (pc + 1) lv (.int (x - y) :: st) M Q) : mv l Y d k pc lv (.int y :: .int x :: st) M Q := by
  intro p e R s m args below meth c H locs cells slots ls ad cA dC dI kk ss hm hf hP hS hR hl
  exact lv_isub (rest := st.map (mv_cv ad)) hm.1 hm.2.1 hd (h p e R s m args below meth c H locs cells slots ls ad cA dC dI kk ss hm hf hP hS hR hl)
theorem mv_imul {x y : Int32} (hd : decode Y.2.1 pc = .ok (.imul, 1)) (h : mv l Y d k (pc + 1) lv (.int (x * y) :: st) M Q) : mv l Y d k pc lv (.int y :: .int x :: st) M Q := by
  intro p e R s m args below meth c H locs cells slots ls ad cA dC dI kk ss hm hf hP hS hR hl
  exact lv_imul (rest := st.map (mv_cv ad)) hm.1 hm.2.1 hd (h p e R s m args below meth c H locs cells slots ls ad cA dC dI kk ss hm hf hP hS hR hl)
theorem mv_iand {x y : Int32} (hd : decode Y.2.1 pc = .ok (.iand, 1)) (h : mv l Y d k (pc + 1) lv (.int (x &&& y) :: st) M Q) : mv l Y d k pc lv (.int y :: .int x :: st) M Q := by
  intro p e R s m args below meth c H locs cells slots ls ad cA dC dI kk ss hm hf hP hS hR hl
  exact lv_iand (rest := st.map (mv_cv ad)) hm.1 hm.2.1 hd (h p e R s m args below meth c H locs cells slots ls ad cA dC dI kk ss hm hf hP hS hR hl)
theorem mv_ior {x y : Int32} (hd : decode Y.2.1 pc = .ok (.ior, 1)) (h : mv l Y d k (pc + 1) lv (.int (x ||| y) :: st) M Q) : mv l Y d k pc lv (.int y :: .int x :: st) M Q := by
  intro p e R s m args below meth c H locs cells slots ls ad cA dC dI kk ss hm hf hP hS hR hl
  exact lv_ior (rest := st.map (mv_cv ad)) hm.1 hm.2.1 hd (h p e R s m args below meth c H locs cells slots ls ad cA dC dI kk ss hm hf hP hS hR hl)
theorem mv_ishl {x y : Int32} (hd : decode Y.2.1 pc = .ok (.ishl, 1)) (h : mv l Y d k (pc + 1) lv (.int (x <<< (y &&& 31)) :: st) M Q) : mv l Y d k pc lv (.int y :: .int x :: st) M Q := by
  intro p e R s m args below meth c H locs cells slots ls ad cA dC dI kk ss hm hf hP hS hR hl
  exact lv_ishl (rest := st.map (mv_cv ad)) hm.1 hm.2.1 hd (h p e R s m args below meth c H locs cells slots ls ad cA dC dI kk ss hm hf hP hS hR hl)
theorem mv_ishr {x y : Int32} (hd : decode Y.2.1 pc = .ok (.ishr, 1)) (h : mv l Y d k (pc + 1) lv (.int (x >>> (y &&& 31)) :: st) M Q) : mv l Y d k pc lv (.int y :: .int x :: st) M Q := by
  intro p e R s m args below meth c H locs cells slots ls ad cA dC dI kk ss hm hf hP hS hR hl
  exact lv_ishr (rest := st.map (mv_cv ad)) hm.1 hm.2.1 hd (h p e R s m args below meth c H locs cells slots ls ad cA dC dI kk ss hm hf hP hS hR hl)
theorem mv_idiv {x y : Int32} (hd : decode Y.2.1 pc = .ok (.idiv, 1)) (hne : ¬ y = 0) (h : mv l Y d k (pc + 1) lv (.int (x / y) :: st) M Q) : mv l Y d k pc lv (.int y :: .int x :: st) M Q := by
  intro p e R s m args below meth c H locs cells slots ls ad cA dC dI kk ss hm hf hP hS hR hl
  exact lv_idiv (rest := st.map (mv_cv ad)) hm.1 hm.2.1 hd hne (h p e R s m args below meth c H locs cells slots ls ad cA dC dI kk ss hm hf hP hS hR hl)
theorem mv_irem {x y : Int32} (hd : decode Y.2.1 pc = .ok (.irem, 1)) (hne : ¬ y = 0) (h : mv l Y d k (pc + 1) lv (.int (x - x / y * y) :: st) M Q) : mv l Y d k pc lv (.int y :: .int x :: st) M Q := by
  intro p e R s m args below meth c H locs cells slots ls ad cA dC dI kk ss hm hf hP hS hR hl
  exact lv_irem (rest := st.map (mv_cv ad)) hm.1 hm.2.1 hd hne (h p e R s m args below meth c H locs cells slots ls ad cA dC dI kk ss hm hf hP hS hR hl)
theorem mv_ineg {x : Int32} (hd : decode Y.2.1 pc = .ok (.ineg, 1)) (h : mv l Y d k (pc + 1) lv (.int (-x) :: st) M Q) : mv l Y d k pc lv (.int x :: st) M Q := by
  intro p e R s m args below meth c H locs cells slots ls ad cA dC dI kk ss hm hf hP hS hR hl
  exact lv_ineg (rest := st.map (mv_cv ad)) hm.1 hm.2.1 hd (h p e R s m args below meth c H locs cells slots ls ad cA dC dI kk ss hm hf hP hS hR hl)
theorem mv_ladd {x y : Int64} (hd : decode Y.2.1 pc = .ok (.ladd, 1)) (h : mv l Y d k (pc + 1) lv (.long (x + y) :: st) M Q) : mv l Y d k pc lv (.long y :: .long x :: st) M Q := by
  intro p e R s m args below meth c H locs cells slots ls ad cA dC dI kk ss hm hf hP hS hR hl
  exact lv_ladd (rest := st.map (mv_cv ad)) hm.1 hm.2.1 hd (h p e R s m args below meth c H locs cells slots ls ad cA dC dI kk ss hm hf hP hS hR hl)
theorem mv_lsub {x y : Int64} (hd : decode Y.2.1 pc = .ok (.lsub, 1)) (h : mv l Y d k (pc + 1) lv (.long (x - y) :: st) M Q) : mv l Y d k pc lv (.long y :: .long x :: st) M Q := by
  intro p e R s m args below meth c H locs cells slots ls ad cA dC dI kk ss hm hf hP hS hR hl
  exact lv_lsub (rest := st.map (mv_cv ad)) hm.1 hm.2.1 hd (h p e R s m args below meth c H locs cells slots ls ad cA dC dI kk ss hm hf hP hS hR hl)
theorem mv_lmul {x y : Int64} (hd : decode Y.2.1 pc = .ok (.lmul, 1)) (h : mv l Y d k (pc + 1) lv (.long (x * y) :: st) M Q) : mv l Y d k pc lv (.long y :: .long x :: st) M Q := by
  intro p e R s m args below meth c H locs cells slots ls ad cA dC dI kk ss hm hf hP hS hR hl
  exact lv_lmul (rest := st.map (mv_cv ad)) hm.1 hm.2.1 hd (h p e R s m args below meth c H locs cells slots ls ad cA dC dI kk ss hm hf hP hS hR hl)
theorem mv_lor {x y : Int64} (hd : decode Y.2.1 pc = .ok (.lor, 1)) (h : mv l Y d k (pc + 1) lv (.long (x ||| y) :: st) M Q) : mv l Y d k pc lv (.long y :: .long x :: st) M Q := by
  intro p e R s m args below meth c H locs cells slots ls ad cA dC dI kk ss hm hf hP hS hR hl
  exact lv_lor (rest := st.map (mv_cv ad)) hm.1 hm.2.1 hd (h p e R s m args below meth c H locs cells slots ls ad cA dC dI kk ss hm hf hP hS hR hl)
theorem mv_lshl {x : Int64} {y : Int32} (hd : decode Y.2.1 pc = .ok (.lshl, 1)) (h : mv l Y d k (pc + 1) lv (.long (x <<< (y.toInt64 &&& 63)) :: st) M Q) : mv l Y d k pc lv (.int y :: .long x :: st) M Q := by
  intro p e R s m args below meth c H locs cells slots ls ad cA dC dI kk ss hm hf hP hS hR hl
  exact lv_lshl (rest := st.map (mv_cv ad)) hm.1 hm.2.1 hd rfl (h p e R s m args below meth c H locs cells slots ls ad cA dC dI kk ss hm hf hP hS hR hl)
theorem mv_i2l {x : Int32} (hd : decode Y.2.1 pc = .ok (.i2l, 1)) (h : mv l Y d k (pc + 1) lv (.long x.toInt64 :: st) M Q) : mv l Y d k pc lv (.int x :: st) M Q := by
  intro p e R s m args below meth c H locs cells slots ls ad cA dC dI kk ss hm hf hP hS hR hl
  exact lv_i2l (rest := st.map (mv_cv ad)) hm.1 hm.2.1 hd rfl (h p e R s m args below meth c H locs cells slots ls ad cA dC dI kk ss hm hf hP hS hR hl)
theorem mv_l2i {x : Int64} (hd : decode Y.2.1 pc = .ok (.l2i, 1)) (h : mv l Y d k (pc + 1) lv (.int x.toInt32 :: st) M Q) : mv l Y d k pc lv (.long x :: st) M Q := by
  intro p e R s m args below meth c H locs cells slots ls ad cA dC dI kk ss hm hf hP hS hR hl
  exact lv_l2i (rest := st.map (mv_cv ad)) hm.1 hm.2.1 hd rfl (h p e R s m args below meth c H locs cells slots ls ad cA dC dI kk ss hm hf hP hS hR hl)
theorem mv_i2b {x : Int32} (hd : decode Y.2.1 pc = .ok (.i2b, 1)) (h : mv l Y d k (pc + 1) lv (.int x.toInt8.toInt32 :: st) M Q) : mv l Y d k pc lv (.int x :: st) M Q := by
  intro p e R s m args below meth c H locs cells slots ls ad cA dC dI kk ss hm hf hP hS hR hl
  exact lv_i2b (rest := st.map (mv_cv ad)) hm.1 hm.2.1 hd rfl (h p e R s m args below meth c H locs cells slots ls ad cA dC dI kk ss hm hf hP hS hR hl)
theorem mv_lcmp {x y : Int64} (hd : decode Y.2.1 pc = .ok (.lcmp, 1)) (h : mv l Y d k (pc + 1) lv (.int (lg_cmp x y) :: st) M Q) : mv l Y d k pc lv (.long y :: .long x :: st) M Q := by
  intro p e R s m args below meth c H locs cells slots ls ad cA dC dI kk ss hm hf hP hS hR hl
  exact W.lcmp (rest := st.map (mv_cv ad)) hm.1 hm.2.1 hd (h p e R s m args below meth c H locs cells slots ls ad cA dC dI kk ss hm hf hP hS hR hl)
theorem mv_dup {v : Value} (hd : decode Y.2.1 pc = .ok (.dup, 1)) (hv : v.category = 1) (h : mv l Y d k (pc + 1) lv (v :: v :: st) M Q) : mv l Y d k pc lv (v :: st) M Q := by
  intro p e R s m args below meth c H locs cells slots ls ad cA dC dI kk ss hm hf hP hS hR hl
  exact lv_dup (rest := st.map (mv_cv ad)) hm.1 hm.2.1 hd ((mv_ctg ad v).trans hv) (h p e R s m args below meth c H locs cells slots ls ad cA dC dI kk ss hm hf hP hS hR hl)
theorem mv_pop {v : Value} (hd : decode Y.2.1 pc = .ok (.pop, 1)) (hv : v.category = 1) (h : mv l Y d k (pc + 1) lv (st) M Q) : mv l Y d k pc lv (v :: st) M Q := by
  intro p e R s m args below meth c H locs cells slots ls ad cA dC dI kk ss hm hf hP hS hR hl
  exact lv_pop (rest := st.map (mv_cv ad)) hm.1 hm.2.1 hd ((mv_ctg ad v).trans hv) (h p e R s m args below meth c H locs cells slots ls ad cA dC dI kk ss hm hf hP hS hR hl)
theorem mv_dup2 {v w : Value} (hd : decode Y.2.1 pc = .ok (.dup2, 1)) (hv : v.category = 1) (hw : w.category = 1) (h : mv l Y d k (pc + 1) lv (v :: w :: v :: w :: st) M Q) : mv l Y d k pc lv (v :: w :: st) M Q := by
  intro p e R s m args below meth c H locs cells slots ls ad cA dC dI kk ss hm hf hP hS hR hl
  exact lv_dup2_11 (rest := st.map (mv_cv ad)) hm.1 hm.2.1 hd ((mv_ctg ad v).trans hv) ((mv_ctg ad w).trans hw) (h p e R s m args below meth c H locs cells slots ls ad cA dC dI kk ss hm hf hP hS hR hl)
theorem mv_if_eq {x : Int32} {off : Int} (tgt : Nat) (hd : decode Y.2.1 pc = .ok (.ifCond .eq off, 3)) (ht : (pc : Int) + off = (tgt : Int)) (kt : x = 0 → mv l Y d k tgt lv st M Q) (kf : ¬ x = 0 → mv l Y d k (pc + 3) lv st M Q) : mv l Y d k pc lv (.int x :: st) M Q := by
  intro p e R s m args below meth c H locs cells slots ls ad cA dC dI kk ss hm hf hP hS hR hl
  exact lv_if_eq (rest := st.map (mv_cv ad)) hm.1 hm.2.1 hd ht (fun z => kt z p e R s m args below meth c H locs cells slots ls ad cA dC dI kk ss hm hf hP hS hR hl) (fun z => kf z p e R s m args below meth c H locs cells slots ls ad cA dC dI kk ss hm hf hP hS hR hl)
theorem mv_if_ne {x : Int32} {off : Int} (tgt : Nat) (hd : decode Y.2.1 pc = .ok (.ifCond .ne off, 3)) (ht : (pc : Int) + off = (tgt : Int)) (kt : ¬ x = 0 → mv l Y d k tgt lv st M Q) (kf : x = 0 → mv l Y d k (pc + 3) lv st M Q) : mv l Y d k pc lv (.int x :: st) M Q := by
  intro p e R s m args below meth c H locs cells slots ls ad cA dC dI kk ss hm hf hP hS hR hl
  exact lv_if_ne (rest := st.map (mv_cv ad)) hm.1 hm.2.1 hd ht (fun z => kt z p e R s m args below meth c H locs cells slots ls ad cA dC dI kk ss hm hf hP hS hR hl) (fun z => kf z p e R s m args below meth c H locs cells slots ls ad cA dC dI kk ss hm hf hP hS hR hl)
theorem mv_if_lt {x : Int32} {off : Int} (tgt : Nat) (hd : decode Y.2.1 pc = .ok (.ifCond .lt off, 3)) (ht : (pc : Int) + off = (tgt : Int)) (kt : x < 0 → mv l Y d k tgt lv st M Q) (kf : ¬ x < 0 → mv l Y d k (pc + 3) lv st M Q) : mv l Y d k pc lv (.int x :: st) M Q := by
  intro p e R s m args below meth c H locs cells slots ls ad cA dC dI kk ss hm hf hP hS hR hl
  exact lv_if_lt (rest := st.map (mv_cv ad)) hm.1 hm.2.1 hd ht (fun z => kt z p e R s m args below meth c H locs cells slots ls ad cA dC dI kk ss hm hf hP hS hR hl) (fun z => kf z p e R s m args below meth c H locs cells slots ls ad cA dC dI kk ss hm hf hP hS hR hl)
theorem mv_if_ge {x : Int32} {off : Int} (tgt : Nat) (hd : decode Y.2.1 pc = .ok (.ifCond .ge off, 3)) (ht : (pc : Int) + off = (tgt : Int)) (kt : 0 ≤ x → mv l Y d k tgt lv st M Q) (kf : ¬ 0 ≤ x → mv l Y d k (pc + 3) lv st M Q) : mv l Y d k pc lv (.int x :: st) M Q := by
  intro p e R s m args below meth c H locs cells slots ls ad cA dC dI kk ss hm hf hP hS hR hl
  exact lv_if_ge (rest := st.map (mv_cv ad)) hm.1 hm.2.1 hd ht (fun z => kt z p e R s m args below meth c H locs cells slots ls ad cA dC dI kk ss hm hf hP hS hR hl) (fun z => kf z p e R s m args below meth c H locs cells slots ls ad cA dC dI kk ss hm hf hP hS hR hl)
theorem mv_if_gt {x : Int32} {off : Int} (tgt : Nat) (hd : decode Y.2.1 pc = .ok (.ifCond .gt off, 3)) (ht : (pc : Int) + off = (tgt : Int)) (kt : 0 < x → mv l Y d k tgt lv st M Q) (kf : ¬ 0 < x → mv l Y d k (pc + 3) lv st M Q) : mv l Y d k pc lv (.int x :: st) M Q := by
  intro p e R s m args below meth c H locs cells slots ls ad cA dC dI kk ss hm hf hP hS hR hl
  exact lv_if_gt (rest := st.map (mv_cv ad)) hm.1 hm.2.1 hd ht (fun z => kt z p e R s m args below meth c H locs cells slots ls ad cA dC dI kk ss hm hf hP hS hR hl) (fun z => kf z p e R s m args below meth c H locs cells slots ls ad cA dC dI kk ss hm hf hP hS hR hl)
theorem mv_if_le {x : Int32} {off : Int} (tgt : Nat) (hd : decode Y.2.1 pc = .ok (.ifCond .le off, 3)) (ht : (pc : Int) + off = (tgt : Int)) (kt : x ≤ 0 → mv l Y d k tgt lv st M Q) (kf : ¬ x ≤ 0 → mv l Y d k (pc + 3) lv st M Q) : mv l Y d k pc lv (.int x :: st) M Q := by
  intro p e R s m args below meth c H locs cells slots ls ad cA dC dI kk ss hm hf hP hS hR hl
  exact lv_if_le (rest := st.map (mv_cv ad)) hm.1 hm.2.1 hd ht (fun z => kt z p e R s m args below meth c H locs cells slots ls ad cA dC dI kk ss hm hf hP hS hR hl) (fun z => kf z p e R s m args below meth c H locs cells slots ls ad cA dC dI kk ss hm hf hP hS hR hl)
theorem mv_icmp_eq {x y : Int32} {off : Int} (tgt : Nat) (hd : decode Y.2.1 pc = .ok (.if_icmp .eq off, 3)) (ht : (pc : Int) + off = (tgt : Int)) (kt : x = y → mv l Y d k tgt lv st M Q) (kf : ¬ x = y → mv l Y d k (pc + 3) lv st M Q) : mv l Y d k pc lv (.int y :: .int x :: st) M Q := by
  intro p e R s m args below meth c H locs cells slots ls ad cA dC dI kk ss hm hf hP hS hR hl
  exact lv_icmp_eq (rest := st.map (mv_cv ad)) hm.1 hm.2.1 hd ht (fun z => kt z p e R s m args below meth c H locs cells slots ls ad cA dC dI kk ss hm hf hP hS hR hl) (fun z => kf z p e R s m args below meth c H locs cells slots ls ad cA dC dI kk ss hm hf hP hS hR hl)
theorem mv_icmp_ne {x y : Int32} {off : Int} (tgt : Nat) (hd : decode Y.2.1 pc = .ok (.if_icmp .ne off, 3)) (ht : (pc : Int) + off = (tgt : Int)) (kt : ¬ x = y → mv l Y d k tgt lv st M Q) (kf : x = y → mv l Y d k (pc + 3) lv st M Q) : mv l Y d k pc lv (.int y :: .int x :: st) M Q := by
  intro p e R s m args below meth c H locs cells slots ls ad cA dC dI kk ss hm hf hP hS hR hl
  exact lv_icmp_ne (rest := st.map (mv_cv ad)) hm.1 hm.2.1 hd ht (fun z => kt z p e R s m args below meth c H locs cells slots ls ad cA dC dI kk ss hm hf hP hS hR hl) (fun z => kf z p e R s m args below meth c H locs cells slots ls ad cA dC dI kk ss hm hf hP hS hR hl)
theorem mv_icmp_lt {x y : Int32} {off : Int} (tgt : Nat) (hd : decode Y.2.1 pc = .ok (.if_icmp .lt off, 3)) (ht : (pc : Int) + off = (tgt : Int)) (kt : x < y → mv l Y d k tgt lv st M Q) (kf : ¬ x < y → mv l Y d k (pc + 3) lv st M Q) : mv l Y d k pc lv (.int y :: .int x :: st) M Q := by
  intro p e R s m args below meth c H locs cells slots ls ad cA dC dI kk ss hm hf hP hS hR hl
  exact lv_icmp_lt (rest := st.map (mv_cv ad)) hm.1 hm.2.1 hd ht (fun z => kt z p e R s m args below meth c H locs cells slots ls ad cA dC dI kk ss hm hf hP hS hR hl) (fun z => kf z p e R s m args below meth c H locs cells slots ls ad cA dC dI kk ss hm hf hP hS hR hl)
theorem mv_icmp_ge {x y : Int32} {off : Int} (tgt : Nat) (hd : decode Y.2.1 pc = .ok (.if_icmp .ge off, 3)) (ht : (pc : Int) + off = (tgt : Int)) (kt : y ≤ x → mv l Y d k tgt lv st M Q) (kf : ¬ y ≤ x → mv l Y d k (pc + 3) lv st M Q) : mv l Y d k pc lv (.int y :: .int x :: st) M Q := by
  intro p e R s m args below meth c H locs cells slots ls ad cA dC dI kk ss hm hf hP hS hR hl
  exact lv_icmp_ge (rest := st.map (mv_cv ad)) hm.1 hm.2.1 hd ht (fun z => kt z p e R s m args below meth c H locs cells slots ls ad cA dC dI kk ss hm hf hP hS hR hl) (fun z => kf z p e R s m args below meth c H locs cells slots ls ad cA dC dI kk ss hm hf hP hS hR hl)
theorem mv_icmp_gt {x y : Int32} {off : Int} (tgt : Nat) (hd : decode Y.2.1 pc = .ok (.if_icmp .gt off, 3)) (ht : (pc : Int) + off = (tgt : Int)) (kt : y < x → mv l Y d k tgt lv st M Q) (kf : ¬ y < x → mv l Y d k (pc + 3) lv st M Q) : mv l Y d k pc lv (.int y :: .int x :: st) M Q := by
  intro p e R s m args below meth c H locs cells slots ls ad cA dC dI kk ss hm hf hP hS hR hl
  exact lv_icmp_gt (rest := st.map (mv_cv ad)) hm.1 hm.2.1 hd ht (fun z => kt z p e R s m args below meth c H locs cells slots ls ad cA dC dI kk ss hm hf hP hS hR hl) (fun z => kf z p e R s m args below meth c H locs cells slots ls ad cA dC dI kk ss hm hf hP hS hR hl)
theorem mv_icmp_le {x y : Int32} {off : Int} (tgt : Nat) (hd : decode Y.2.1 pc = .ok (.if_icmp .le off, 3)) (ht : (pc : Int) + off = (tgt : Int)) (kt : x ≤ y → mv l Y d k tgt lv st M Q) (kf : ¬ x ≤ y → mv l Y d k (pc + 3) lv st M Q) : mv l Y d k pc lv (.int y :: .int x :: st) M Q := by
  intro p e R s m args below meth c H locs cells slots ls ad cA dC dI kk ss hm hf hP hS hR hl
  exact lv_icmp_le (rest := st.map (mv_cv ad)) hm.1 hm.2.1 hd ht (fun z => kt z p e R s m args below meth c H locs cells slots ls ad cA dC dI kk ss hm hf hP hS hR hl) (fun z => kf z p e R s m args below meth c H locs cells slots ls ad cA dC dI kk ss hm hf hP hS hR hl)
theorem mv_goto {off : Int} (tgt : Nat) (hd : decode Y.2.1 pc = .ok (.goto off, 3)) (ht : (pc : Int) + off = (tgt : Int)) (h : mv l Y d k tgt lv st M Q) : mv l Y d k pc lv st M Q := by
  intro p e R s m args below meth c H locs cells slots ls ad cA dC dI kk ss hm hf hP hS hR hl
  exact lv_goto (rest := st.map (mv_cv ad)) hm.1 hm.2.1 hd ht (h p e R s m args below meth c H locs cells slots ls ad cA dC dI kk ss hm hf hP hS hR hl)
theorem mv_lookup {dflt : Int} {ps : Array (Int × Int)} {len : Nat} {x : Int32} {off : Int} (tgt : Nat) (hd : decode Y.2.1 pc = .ok (.lookupswitch dflt ps, len)) (hp : (ps.toList.zip (ps.toList.drop 1)).all (fun (a, next) => a.1 < next.1) = true) (ho : Op.lookupswitch.offset ps.toList dflt x.toInt = off) (ht : (pc : Int) + off = (tgt : Int)) (h : mv l Y d k tgt lv st M Q) : mv l Y d k pc lv (.int x :: st) M Q := by
  intro p e R s m args below meth c H locs cells slots ls ad cA dC dI kk ss hm hf hP hS hR hl
  exact lv_lookup (rest := st.map (mv_cv ad)) hm.1 hm.2.1 hd hp ho ht (h p e R s m args below meth c H locs cells slots ls ad cA dC dI kk ss hm hf hP hS hR hl)
theorem mv_tableIn {dflt lo hi : Int} {offs : Array Int} {len : Nat} {x : Int32} {off : Int} (tgt : Nat) (hd : decode Y.2.1 pc = .ok (.tableswitch dflt lo hi offs, len)) (e1 : ¬ x.toInt < lo) (e2 : ¬ hi < x.toInt) (ho : offs[(x.toInt - lo).toNat]? = some off) (ht : (pc : Int) + off = (tgt : Int)) (h : mv l Y d k tgt lv st M Q) : mv l Y d k pc lv (.int x :: st) M Q := by
  intro p e R s m args below meth c H locs cells slots ls ad cA dC dI kk ss hm hf hP hS hR hl
  exact lv_tableIn (rest := st.map (mv_cv ad)) hm.1 hm.2.1 hd e1 e2 ho ht (h p e R s m args below meth c H locs cells slots ls ad cA dC dI kk ss hm hf hP hS hR hl)
theorem mv_tableOut {dflt lo hi : Int} {offs : Array Int} {len : Nat} {x : Int32} (tgt : Nat) (hd : decode Y.2.1 pc = .ok (.tableswitch dflt lo hi offs, len)) (e1 : x.toInt < lo ∨ hi < x.toInt) (ht : (pc : Int) + dflt = (tgt : Int)) (h : mv l Y d k tgt lv st M Q) : mv l Y d k pc lv (.int x :: st) M Q := by
  intro p e R s m args below meth c H locs cells slots ls ad cA dC dI kk ss hm hf hP hS hR hl
  exact lv_tableOut (rest := st.map (mv_cv ad)) hm.1 hm.2.1 hd e1 ht (h p e R s m args below meth c H locs cells slots ls ad cA dC dI kk ss hm hf hP hS hR hl)
theorem mv_topi {x : Int32} (h : ∀ y : Int32, y = x → mv l Y d k pc lv (.int y :: st) M Q) : mv l Y d k pc lv (.int x :: st) M Q := h x rfl
theorem mv_topl {x : Int64} (h : ∀ y : Int64, y = x → mv l Y d k pc lv (.long y :: st) M Q) : mv l Y d k pc lv (.long x :: st) M Q := h x rfl
end MVR
