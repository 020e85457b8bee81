def R_law : String := "StrictProofsLaw"
def lw_P (b : Addr) (xs : List Int32) (args : Array Value) (s : State) : Prop := args = #[.ref b] ∧ s.IntsAt b xs ∧ xs.length ≤ 3072 ∧ (Jvm.Cond.and given_1 narrow_1).before args s = true
def lw_Q (_ : Array Value) (s : State) (o : Outcome) (t : State) : Prop := o = .returned (some (.int 1)) ∧ Framed s o t [] 601024 7293033
def lw_Z (below : List Frame) (a : Array Value) (s : State) : State → Prop := fun t => ∃ o, t.status = .running ∧ Ended t below o ∧ lw_Q a s o t
/-- what holds at the law's entry: the machine, the code, the tables' words (any of lw_tbl by 'hts w (by decide +kernel)'), the script of L ints xs at the cell b, what the Statement gives of the start (any of its parts by flat_of_before) -/
def lw_At (p : Program) (s : State) (m : MethodId) (meth : Method) (c : Code) (b L : Nat) (xs : Nat → Int32) : Prop :=
  p.tables.exec = Jvm.exec ∧ c.code = code ∧ meth.sig.returnType = ret ∧ c.maxLocals = 7 ∧ s.vm.findClass R_law = some m.cls ∧ (∀ w ∈ lw_tbl, w.before #[Value.ref b] s = true) ∧ va_X b L xs s s.heap ∧ b < s.heap.size ∧ meth.locks = false ∧ (Jvm.Cond.and given_1 narrow_1).before #[Value.ref b] s = true
theorem dL_law_0 : decode cL_law 0 = .ok (.new 8, 3) := by decide +kernel
theorem dL_law_3 : decode cL_law 3 = .ok (.dup, 1) := by decide +kernel
theorem dL_law_4 : decode cL_law 4 = .ok (.invokespecial 65, 3) := by decide +kernel
theorem dL_law_7 : decode cL_law 7 = .ok (.astore_n 1, 1) := by decide +kernel
theorem dL_law_8 : decode cL_law 8 = .ok (.new 66, 3) := by decide +kernel
theorem dL_law_11 : decode cL_law 11 = .ok (.dup, 1) := by decide +kernel
theorem dL_law_12 : decode cL_law 12 = .ok (.invokespecial 68, 3) := by decide +kernel
theorem dL_law_15 : decode cL_law 15 = .ok (.astore_n 2, 1) := by decide +kernel
theorem dL_law_16 : decode cL_law 16 = .ok (.iconst 1, 1) := by decide +kernel
theorem dL_law_17 : decode cL_law 17 = .ok (.newarray .long, 2) := by decide +kernel
theorem dL_law_19 : decode cL_law 19 = .ok (.astore_n 3, 1) := by decide +kernel
theorem st_mono {p : Program} {l : Launch} {e : Env} {R : Room} {s : State} {m : MethodId} {args : Array Value} {below : List Frame} {meth : Method} {c : Code} {H : Heap} {locs : List Loc} {cells slots : Nat} {Q Q' : State → Prop} {g : JFrame} (h : W p l e R s m args below meth c H locs cells slots Q g) (hq : ∀ t, Q t → Q' t) : W p l e R s m args below meth c H locs cells slots Q' g := by
  intro T hT X
  obtain ⟨t, a, b⟩ := h T hT X
  exact ⟨t, a, hq t b⟩
theorem st_d11 : ∀ j, j < 83 → defaultValue (tyX11 j) = vp_V (.int 0 :: .null :: .int 0 :: .int 0 :: .int 0 :: .int 0 :: .int 0 :: .long 0 :: .int 0 :: .int 0 :: .int 0 :: .null :: .null :: .null :: .null :: .null :: .null :: .null :: .null :: .null :: .null :: .null :: .null :: .null :: .null :: .null :: .null :: .int 0 :: .int 0 :: .int 0 :: .int 0 :: .null :: .int 0 :: .int 0 :: .null :: .null :: .int 0 :: .null :: .int 0 :: .null :: .int 0 :: .int 0 :: .null :: .null :: .int 0 :: .int 0 :: .int 0 :: .int 0 :: .null :: .null :: .null :: .null :: .null :: .null :: .null :: .int 0 :: .null :: .null :: .null :: .null :: .null :: .null :: .null :: .null :: .null :: .null :: .null :: .int 0 :: .int 0 :: .int 0 :: .int 0 :: .int 0 :: .int 0 :: .int 0 :: .int 0 :: .int 0 :: .int 0 :: .int 0 :: .int 0 :: .int 0 :: .int 0 :: .null :: .int 0 :: []) j := by decide +kernel
theorem st_d10 : ∀ j, j < 9 → defaultValue (tyX10 j) = vp_V [.null, .null, .null, .null, .null, .null, .null, .null, .null] j := by decide +kernel
set_option maxRecDepth 100000 in
set_option maxHeartbeats 4000000 in
theorem st_go (PURE : ∀ (L : Nat) (xs : Nat → Int32), L ≤ 3072 → mv_ok (fL_law (mv_M0 L xs)) (fun r _ => r = 1)) {p : Program} {e : Env} {s : State} {m : MethodId} {below : List Frame} {meth : Method} {c : Code} (l : Launch) (hst : l.stackTraces = false) {b L : Nat} {xs : Nat → Int32} (hL : L ≤ 3072) (htab : c.exceptionTable.toList = []) (C0 : lw_At p s m meth c b L xs) : W p l e room_1 s m #[Value.ref b] below meth c s.heap [] 0 0 (lw_Z below #[Value.ref b] s) (entryFrame m ([Value.ref b] : List Value).toArray 7) := by
  obtain ⟨hx, hb, hr, hml, hown, hts, hX, hbl, hlocks, hgv⟩ := C0
  have htsT : ∀ w ∈ mv_T, w.before #[Value.ref b] s = true := fun w hw => hts w (List.mem_filter.mp hw).1
  obtain ⟨cA, hcA⟩ := st_cA htsT
  obtain ⟨dC, dI, hKc⟩ := st_K htsT
  obtain ⟨aW, hW⟩ := st_W hts hgv
  obtain ⟨aD, hDm⟩ := st_D hts hgv
  have hK : va_K (dC, dI) vwCl (mv_tys cA) s := ⟨hKc, hcA⟩
  have hm : mv_mach mL_law p s m #[Value.ref b] meth c := ⟨hx, hb, hr, hml, hown, hlocks, htab, htsT⟩
  have hN : ∀ w ∈ mv_NW, va_Nw w s := fun w hw => va_Nw.of (mv_nwT hw) (hts w (List.mem_filter.mp hw).1)
  have E : mk_env mL_law p s m #[Value.ref b] meth c cA dC dI (fun q => s.heap.size ≤ q) := ⟨hm, hK, hN, fun _ h => h⟩
  have P : mk_at dC dI (fun q => s.heap.size ≤ q) [] s s.heap [] := ⟨fun k q h => by simp at h, ⟨fun i j p q h => by simp at h, fun k q h => by simp at h⟩, va_S.rf⟩
  have hl := lv_entry ([.ref b]) (n := 7) (Nat.le_of_ble_eq_true rfl)
  rw [lg_entry_eq]
  generalize (lg_sl ([.ref b]) ++ List.replicate (7 - (lg_sl ([.ref b])).length) Slot.unset).toArray = ls at hl ⊢
  have hl : lv_has ls 7 [(0, .ref b)] := hl
  refine mk_new (fs := [.null, .null, .null, .null, .null, .null, .null, .null, .null]) E P kcX10 tyX10_ok (mv_t1 31 rfl rfl) (mv_t1 32 rfl rfl) (mv_t1 1 rfl rfl) st_d10 (Nat.le_of_ble_eq_true rfl) (Nat.le_of_ble_eq_true rfl) dL_law_0 (fun q0 H P => ?_)
  refine lv_dup hx hb dL_law_3 rfl ?_
  refine mk_call (w0 := []) (As := []) (rest := [.ref q0]) E P (kX10_init l cA q0) okX10_init (Or.inl (mv_t1 33 rfl rfl)) rfl rfl hl.1 (Nat.le_of_ble_eq_true rfl) dL_law_4 (Nat.le_of_ble_eq_true rfl) (Nat.le_of_ble_eq_true rfl) (Nat.le_of_ble_eq_true rfl) (Nat.le_of_ble_eq_true rfl) (fun u H locs P => ?_)
  refine lv_astore_n (lv' := [(1, .ref q0), (0, .ref b)]) hx hb dL_law_7 rfl hl (by decide) rfl (fun ls hl => ?_)
  have P : mk_at dC dI (fun q => s.heap.size ≤ q) (buX10_init cA q0 u) s H locs := P
  refine mk_new (fs := (.int 0 :: .null :: .int 0 :: .int 0 :: .int 0 :: .int 0 :: .int 0 :: .long 0 :: .int 0 :: .int 0 :: .int 0 :: .null :: .null :: .null :: .null :: .null :: .null :: .null :: .null :: .null :: .null :: .null :: .null :: .null :: .null :: .null :: .null :: .int 0 :: .int 0 :: .int 0 :: .int 0 :: .null :: .int 0 :: .int 0 :: .null :: .null :: .int 0 :: .null :: .int 0 :: .null :: .int 0 :: .int 0 :: .null :: .null :: .int 0 :: .int 0 :: .int 0 :: .int 0 :: .null :: .null :: .null :: .null :: .null :: .null :: .null :: .int 0 :: .null :: .null :: .null :: .null :: .null :: .null :: .null :: .null :: .null :: .null :: .null :: .int 0 :: .int 0 :: .int 0 :: .int 0 :: .int 0 :: .int 0 :: .int 0 :: .int 0 :: .int 0 :: .int 0 :: .int 0 :: .int 0 :: .int 0 :: .int 0 :: .null :: .int 0 :: [])) E P kcX11 tyX11_ok (mv_t7 14 rfl rfl) (mv_t7 15 rfl rfl) (mv_t1 11 rfl rfl) st_d11 (Nat.le_of_ble_eq_true rfl) (Nat.le_of_ble_eq_true rfl) dL_law_8 (fun q1 H P => ?_)
  refine lv_dup hx hb dL_law_11 rfl ?_
  refine mk_call (w0 := buX10_init cA q0 u) (As := []) (rest := [.ref q1]) E P (kX11_init l cA q1) okX11_init (Or.inl (mv_t7 16 rfl rfl)) rfl rfl hl.1 (Nat.le_of_ble_eq_true rfl) dL_law_12 (Nat.le_of_ble_eq_true rfl) (Nat.le_of_ble_eq_true rfl) (Nat.le_of_ble_eq_true rfl) (Nat.le_of_ble_eq_true rfl) (fun v H locs P => ?_)
  refine lv_astore_n (lv' := [(2, .ref q1), (1, .ref q0), (0, .ref b)]) hx hb dL_law_15 rfl hl (by decide) rfl (fun ls hl => ?_)
  refine lv_iconst (v := 1) hx hb dL_law_16 (by decide) ?_
  refine mk_newa (ty := .long) (N' := 1) (k := 1) (a0 := (1, .inr (.inl (fun _ => 0)))) E P ka_long rfl (fun _ => rfl) (fun C h => by cases h) (fun _ => rfl) (by decide) (by decide) (by decide) (Nat.le_of_ble_eq_true rfl) (Nat.le_of_ble_eq_true rfl) dL_law_17 (fun q2 H P => ?_)
  refine lv_astore_n (lv' := [(3, .ref q2), (2, .ref q1), (1, .ref q0), (0, .ref b)]) hx hb dL_law_19 rfl hl (by decide) rfl (fun ls hl => ?_)
  have P : mk_at dC dI (fun q => s.heap.size ≤ q) (st_ws cA q0 q1 q2 u v) s H locs := P
  obtain ⟨hP, hD, hS⟩ := P
  have hall := st_all (cA := cA) (b := b) (aW := aW) (aD := aD) (q0 := q0) (q1 := q1) (q2 := q2) (u := u) (v := v) (Ls := L) (xs := xs)
  generalize had : st_ad b aW aD q0 q1 q2 u v = ad at hall
  have had0 : ad 0 = q0 := by rw [← had]; rfl
  have had62 : ad 62 = q1 := by rw [← had]; rfl
  have had106 : ad 106 = q2 := by rw [← had]; rfl
  have had300 : ad 300 = aW := by rw [← had]; rfl
  have had301 : ad 301 = aD := by rw [← had]; rfl
  have had302 : ad 302 = b := by rw [← had]; rfl
  have hnew : ∀ i : Nat, i < mv_N → s.heap.size ≤ ad i := fun i hi => hD.2 _ _ (hall i hi)
  have hnA : ∀ a : Nat, a < s.heap.size → ¬ mv_A ad s.heap.size a := fun a ha z => by
    rcases z with ⟨i, hi, rfl⟩ | z
    · exact absurd (hnew i hi) (Nat.not_le.mpr ha)
    · omega
  have hfix : mv_fix ad cA dC dI s := by
    refine ⟨hK, fun i j hi hj hij => st_inj i hi j hj (hD.1 _ _ _ _ (hall i hi) (hall j hj) hij), hN, ⟨?_, ?_, st_T hts hgv hnA, fun own k tx hm => st_str (hts _ (List.mem_filter.mp hm).1), st_N hgv⟩, ?_, fun i hi => ?_⟩
    · rw [had300]
      exact hW _ hnA
    · rw [had301]
      exact hDm _ hnA
    · rw [had302]
      exact hbl
    · rw [had302]
      exact fun z => absurd (hnew i hi) (by rw [z]; exact Nat.not_le.mpr hbl)
  have hP2 : mv_P ad cA dC dI (mv_M0 L xs) s H := by
    refine ⟨fun i q hi => ?_, fun L2 hL2 => ?_⟩
    · have hlt : i < mv_N := by
        have h3 := (List.getElem?_eq_some_iff.mp hi).1
        unfold mv_ws at h3
        rwa [List.length_map, List.length_range] at h3
      rw [mv_ws_at hlt] at hi
      cases hi
      exact hP _ _ (hall i hlt)
    · rw [had302]
      cases hL2
      exact hX
  have hS2 : va_S (mv_A ad s.heap.size) s.heap H locs := ⟨hS.1, fun q h1 _ => hS.2.1 q h1 (Nat.not_le.mpr h1), fun q hq => Or.inr (hS.2.2 q hq)⟩
  have hl2 : lv_has ls 7 (mv_cl ad [(0, .ref 302), (1, .ref 0), (2, .ref 62), (3, .ref 106)]) := by
    show lv_has ls 7 [(0, .ref (ad 302)), (1, .ref (ad 0)), (2, .ref (ad 62)), (3, .ref (ad 106))]
    rw [had302, had0, had62, had106]
    exact lv_sub hl [3, 2, 1, 0] rfl
  have hz := zL_law (l := l) (d := 1000) (Q := fun r _ => r = 1) (by decide) hst (mv_M0 L xs) (PURE L xs hL)
  refine st_mono (hz p e room_1 s m #[Value.ref b] below meth c H locs _ _ ls ad cA dC dI 601024 7293033 hm hfix hP2 hS2 ⟨Nat.le_of_ble_eq_true rfl, Nat.le_of_ble_eq_true rfl, Nat.le_of_ble_eq_true rfl, Nat.le_of_ble_eq_true rfl, Nat.le_of_ble_eq_true rfl, Nat.le_of_ble_eq_true rfl⟩ hl2) (fun t ht => ?_)
  obtain ⟨o, h1, h2, h3⟩ := ht
  rcases h3 with ⟨⟨⟨w, M', ho, ⟨x, e1, rfl⟩, -⟩, -⟩, L9, ⟨f1, f2, f3⟩, hf⟩ | ⟨q, -, E9, ce, L9, ⟨⟨M', ⟨x, e1, -⟩, -⟩, -⟩, -⟩
  · cases e1
    refine ⟨o, h1, h2, ho, f1, f2, f3.weaken (fun x hx hlt => ?_) (Nat.le_refl _) (Nat.le_refl _)⟩
    exact absurd (hf x hx) (hnA _ hlt)
  · cases e1
