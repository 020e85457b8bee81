section MVK
variable {l : Launch} {Y : mv_Y} {d k pc : Nat} {lv : List (Nat × Value)} {st : List Value} {M : mv_M} {Q : mv_R → mv_M → Prop}
theorem mv_args (ad : Nat → Nat) : ∀ (As : List Value) (i : Nat), lv_args i (As.map (mv_cv ad)) = mv_cl ad (lv_args i As)
  | [], _ => rfl
  | v :: vs, i => by
    show (i, mv_cv ad v) :: lv_args (if (mv_cv ad v).category = 2 then i + 2 else i + 1) (vs.map (mv_cv ad)) = (i, mv_cv ad v) :: mv_cl ad (lv_args (if v.category = 2 then i + 2 else i + 1) vs)
    rw [mv_ctg, mv_args ad vs]
theorem mv_sllen (ad : Nat → Nat) : ∀ As : List Value, (lg_sl (As.map (mv_cv ad))).length = (lg_sl As).length
  | [] => rfl
  | v :: vs => by
    have h := mv_sllen ad vs
    unfold lg_sl at h ⊢
    rw [List.map_cons, List.flatMap_cons, List.flatMap_cons, List.length_append, List.length_append, h, mv_ctg]
    by_cases hc : v.category = 2
    · rw [if_pos hc, if_pos hc]; rfl
    · rw [if_neg hc, if_neg hc]; rfl
theorem mv_nw {w : Cond} (hw : w ∈ mv_NW) {s U : State} (hW : s.WarmedH U.vm) (h : va_Nw w s) : va_Nw w U := by
  have hn := (List.mem_filter.mp hw).2
  cases w <;> first | exact va_Nw.warmF hW h | exact va_Nw.warmM hW h | exact va_Nw.warmD hW h | exact va_Nw.warmC hW h | (exact absurd hn (by simp [mv_nest]))
theorem mv_A_sub {ad : Nat → Nat} {a b : Nat} (h : a ≤ b) : ∀ q, mv_A ad b q → mv_A ad a q := fun _ z => z.elim Or.inl (fun z => Or.inr (Nat.le_trans h z))
theorem mv_ro_at {ad : Nat → Nat} {s U : State} {locs : List Loc} (h : mv_ro ad (mv_A ad s.heap.size) s) (hW : s.WarmedH U.vm) (hS : va_S (mv_A ad s.heap.size) s.heap U.heap locs) : mv_ro ad (mv_A ad U.heap.size) U := by
  obtain ⟨⟨a1, a2⟩, ⟨b1, b2⟩, ⟨c1, c2⟩, d1, x1⟩ := h
  have hs := mv_A_sub (ad := ad) hS.1
  exact ⟨⟨((a1.kept hS.2.1).moved hW.alike).narrow hs, ((a2.kept hS.2.1).moved hW.alike).narrow hs⟩, ⟨((b1.kept hS.2.1).moved hW.alike).narrow hs, ((b2.kept hS.2.1).moved hW.alike).narrow hs⟩,
    ⟨((c1.kept hS.2.1).moved hW.alike).narrow hs, ((c2.kept hS.2.1).moved hW.alike).narrow hs⟩, fun own j tx hm => by
      obtain ⟨a, ha⟩ := d1 own j tx hm
      exact ⟨a, ha.warm hW⟩, fun q hq => va_Nc.moved hW.alike (x1 q hq)⟩
theorem mv_fix_at {ad : Nat → Nat} {cA dC : Nat → ClassId} {dI : Nat → Nat → Nat} {s U : State} {locs : List Loc} (h : mv_fix ad cA dC dI s) (hW : s.WarmedH U.vm) (hS : va_S (mv_A ad s.heap.size) s.heap U.heap locs) : mv_fix ad cA dC dI U :=
  ⟨va_K.moved hW.alike h.1, h.2.1, fun w hw => mv_nw hw hW (h.2.2.1 w hw), mv_ro_at h.2.2.2.1 hW hS, Nat.lt_of_lt_of_le h.2.2.2.2.1 hS.1, h.2.2.2.2.2⟩
theorem mv_notA {ad : Nat → Nat} {cA dC : Nat → ClassId} {dI : Nat → Nat → Nat} {s : State} (h : mv_fix ad cA dC dI s) : ¬ mv_A ad s.heap.size (ad 302) := fun q => by
  rcases q with ⟨c, hc, e⟩ | q
  · exact h.2.2.2.2.2 c hc e.symm
  · exact Nat.lt_irrefl _ (Nat.lt_of_lt_of_le h.2.2.2.2.1 q)
theorem mv_scr_to {ad : Nat → Nat} {M : mv_M} {s t : State} (h : mv_scr ad M s) (hvm : s.vm.Alike t.vm) (hh : t.heap[ad 302]? = s.heap[ad 302]?) : mv_scr ad M t := fun L hL => ((h L hL).kept hh).moved hvm
def mv_Pc (As : List Value) (M : mv_M) (ad : Nat → Nat) (cA dC : Nat → ClassId) (dI : Nat → Nat → Nat) (sz : Nat) : Array Value → State → Prop := fun a U => a = (As.map (mv_cv ad)).toArray ∧ U.heap.size = sz ∧ mv_P ad cA dC dI M U U.heap ∧ mv_fix ad cA dC dI U
theorem mv_blind {As : List Value} {ad : Nat → Nat} {cA dC : Nat → ClassId} {dI : Nat → Nat → Nat} {sz : Nat} : FrameBlind (mv_Pc As M ad cA dC dI sz) := by
  intro a U g mk ⟨q1, q2, q3, q4⟩
  exact ⟨q1, q2, ⟨q3.1, mv_scr_to (t := U.calling g mk a) q3.2 (Vm.Alike.refl U.vm) rfl⟩, mv_fix_at (U := U.calling g mk a) (locs := []) q4 (State.WarmedH.refl U) va_S.rf⟩
/-- the body gives the contract -/
theorem mv_met {As : List Value} (hh : Y.2.2.2.2 = []) (hy : plainName Y.1.cls = true) (hlen : (lg_sl As).length ≤ Y.2.2.1) (h : mv l Y d k 0 (lv_args 0 As) [] M Q) (ad : Nat → Nat) (cA dC : Nat → ClassId) (dI : Nat → Nat → Nat) (sz : Nat) :
    vx_Met l Y.1 (Cond.code Y.1 Y.2.1 Y.2.2.1 Y.2.2.2.1 :: mv_T) (mv_room d k) (mv_Pc As M ad cA dC dI sz) (mv_Qc Q ad cA dC dI sz) (mv_Xc Q ad cA dC dI sz) k (6 * k) (mv_A ad sz) := by
  refine vx_ofW (cc := Y.2.1) (maxL := Y.2.2.1) (ret := Y.2.2.2.1) hy rfl ?_
  intro p e s m args below meth c s₁ B hml htab hv
  obtain ⟨rfl, rfl, hP, hf⟩ := hv
  have hm : mv_mach Y p s m (As.map (mv_cv ad)).toArray meth c := ⟨B.exec, B.bytes, B.returns, hml, findClass_of_methodNamed B.named, B.notSynchronized, by rw [hh, List.eq_nil_iff_forall_not_mem.mpr htab]; rfl, fun w hw => atoms_spec (ws := Cond.code Y.1 Y.2.1 Y.2.2.1 Y.2.2.2.1 :: mv_T) B.pre w (List.mem_cons_of_mem _ hw)⟩
  have hl := lv_entry (As.map (mv_cv ad)) (n := Y.2.2.1) (by rw [mv_sllen]; exact hlen)
  rw [mv_args] at hl
  rw [lg_entry_eq]
  exact h p e _ s m _ below meth c s.heap [] 0 0 _ ad cA dC dI k (6 * k) hm hf hP va_S.rf ⟨by omega, by omega, Nat.le_refl _, Nat.le_refl _, Nat.le_refl _, Nat.le_refl _⟩ hl
theorem mv_good {L : List Cond} (h : ∀ w ∈ L, w ∈ mv_T) : GoodIn mv_T L := fun w hw => ⟨h w hw, good_of_word (List.mem_filter.mp (h w hw)).2⟩
/-- what is known of a method that is called: its code, how many arguments -/
def mv_Mk (Y' : mv_Y) (n : Nat) : Prop := Cond.code Y'.1 Y'.2.1 Y'.2.2.1 Y'.2.2.2.1 ∈ mv_T ∧ Cond.initialized Y'.1.cls ∈ mv_T ∧ plainName Y'.1.cls = true ∧ (Y'.1.cls ≠ "java/lang/invoke/MethodHandle" ∧ Y'.1.cls ≠ "java/lang/invoke/VarHandle" ∧ (parseMethodDescriptor Y'.1.desc).map (fun d => d.parameters.length) = some n) ∧ Y'.2.2.1 ≤ 21 ∧ Y'.2.2.2.2 = []
def mv_MV (Y' : mv_Y) (n : Nat) : Prop := mv_Mk Y' n ∧ Cond.instanceMethod Y'.1 ∈ mv_T ∧ Cond.selects Y'.1.cls Y'.1 Y'.1 ∈ mv_T
def mv_MS (Y' : mv_Y) (n : Nat) : Prop := mv_Mk Y' n ∧ Cond.static Y'.1 ∈ mv_T
theorem mv_out {p : Program} {e : Env} {s : State} {m : MethodId} {args : Array Value} {below : List Frame} {meth : Method} {c0 : Code} {locs : List Loc} {cells slots : Nat} {ls : Array Slot} {ad : Nat → Nat} {cA dC : Nat → ClassId} {dI : Nat → Nat → Nat} {kk ss : Nat} {rest : List Value} {E : String} {ce : Cell} {q : Addr} {H : Heap} {R : Room}
    (hm : mv_mach Y p s m args meth c0) (hf : mv_fix ad cA dC dI s) (hh : Y.2.2.2.2 = []) (hP : mv_P ad cA dC dI M s H) (hS : va_S (mv_A ad s.heap.size) s.heap H locs) (h1 : cells ≤ kk) (h2 : slots ≤ ss) (hQ : Q (.inr E) M) (hce : H[q]? = some ce) (hcv : ce.vm = .none) (hcl : s.vm.findClass E = some ce.cls) :
    vx_W p l e R s m args below meth c0 H locs cells slots (vx_MQ below (mv_Qc Q ad cA dC dI s.heap.size) (mv_Xc Q ad cA dC dI s.heap.size) args s kk ss (mv_A ad s.heap.size)) (F0 m pc ls rest) q :=
  vx_out (fun x hx => by rw [hm.2.2.2.2.2.2.1, hh] at hx; cases hx) hm.2.2.2.2.2.1 hce hcv hcl (fun t ht hvm => ⟨⟨M, hQ, by rw [ht]; exact hP.1, mv_scr_to hP.2 hvm (by rw [ht]; exact hS.2.1 _ hf.2.2.2.2.1 (mv_notA hf))⟩, hS.F ht⟩) hS.2.2 h1 h2
theorem mv_behind {p : Program} {e : Env} {s : State} {m : MethodId} {args : Array Value} {below : List Frame} {meth : Method} {c0 : Code} {H : Heap} {locs : List Loc} {cells slots : Nat} {ls : Array Slot} {ad : Nat → Nat} {cA dC : Nat → ClassId} {dI : Nat → Nat → Nat} {kk ss k' k2 : Nat} {R : Room} {st0 : List Value} {a : Array Value} {Qc : mv_R → mv_M → Prop}
    (hr : vx_Run p l e R s m args below meth c0 H locs cells slots k' (6 * k') (F0 m pc ls (st0.map (mv_cv ad))) (st.map (mv_cv ad)) (mv_Qc Qc ad cA dC dI H.size a) (mv_Xc Qc ad cA dC dI H.size) (mv_A ad H.size))
    (hm : mv_mach Y p s m args meth c0) (hf : mv_fix ad cA dC dI s) (hS : va_S (mv_A ad s.heap.size) s.heap H locs) (hP : mv_P ad cA dC dI M s H) (hR : mv_fit d k kk ss cells slots R) (hl : lv_has ls Y.2.2.1 (mv_cl ad lv)) (hk : k' + k2 ≤ k) (hh : Y.2.2.2.2 = [])
    (hx : ∀ E M', Qc (.inr E) M' → Q (.inr E) M') (h : ∀ v M', Qc (.inl v) M' → mv l Y d k2 (pc + 3) lv (v.toList ++ st) M' Q) :
    W p l e R s m args below meth c0 H locs cells slots (vx_MQ below (mv_Qc Q ad cA dC dI s.heap.size) (mv_Xc Q ad cA dC dI s.heap.size) args s kk ss (mv_A ad s.heap.size)) (F0 m pc ls (st0.map (mv_cv ad))) := by
  obtain ⟨r1, r2, r3, r4, r5, r6⟩ := hR
  intro T hT X
  have hsub := mv_A_sub (ad := ad) hS.1
  rcases hr T hT X with ⟨v, st₀, t, T', L, h0, X', hL, e1, e2, ⟨⟨v', M', ho, hQ, hP', hX'⟩, hF⟩, stp⟩ | ⟨q, st₀, t, T', L, E, ce, h0, X', hL, e1, e2, ⟨⟨M', hQ, hP', hX'⟩, hF⟩, hce, hcv, hclx, stp⟩
  · cases ho
    obtain ⟨k1, k22, k3⟩ := vx_keep h0 e1 hS (fun q _ z => hsub q z) hsub hL hF
    have hw := h v' M' hQ p e R s m args below meth c0 T'.heap (locs ++ L) (cells + k') (slots + 6 * k') ls ad cA dC dI kk ss hm hf ⟨by rw [e1]; exact hP', mv_scr_to hX' (by rw [← e2]; exact X'.warmed.alike.symm) (by rw [← e1]; exact (k3.2.1 _ hf.2.2.2.2.1 (mv_notA hf)).symm)⟩ k3 ⟨by omega, by omega, r3, r4, r5, r6⟩ hl
    obtain ⟨t2, a1, b1⟩ := hw T' rfl X'
    refine ⟨t2, stp t2 ?_, b1⟩
    have hs : (v'.toList ++ st).map (mv_cv ad) = (v'.map (mv_cv ad)).toList ++ st.map (mv_cv ad) := by cases v' <;> rfl
    rw [hs] at a1
    exact a1
  · obtain ⟨k1, k22, k3⟩ := vx_keep h0 e1 hS (fun q _ z => hsub q z) hsub hL hF
    have hw := mv_out (l := l) (e := e) (below := below) (pc := pc) (ls := ls) (rest := st.map (mv_cv ad)) (R := R) (H := T'.heap) (locs := locs ++ L) (cells := cells + k') (slots := slots + 6 * k') (kk := kk) (ss := ss) (M := M') (Q := Q) hm hf hh ⟨by rw [e1]; exact hP', mv_scr_to hX' (by rw [← e2]; exact X'.warmed.alike.symm) (by rw [← e1]; exact (k3.2.1 _ hf.2.2.2.2.1 (mv_notA hf)).symm)⟩ k3 (by omega) (by omega) (hx E M' hQ) (by rw [e1]; exact hce) hcv hclx
    obtain ⟨t2, a1, b1⟩ := hw T' rfl X'
    exact ⟨t2, stp.trans a1, b1⟩
theorem mv_callV {Y' : mv_Y} {d' k' k2 idx b n ci N : Nat} {F : u_T} {As st0 : List Value} {Qc : mv_R → mv_M → Prop} (hV : mv_MV Y' n) (hlk : Cond.methodLink Y.1.cls idx Y'.1 ∈ mv_T) (hb : b < mv_N) (hsh : mv_sh b = .inl ci) (hcl : vwCl[ci]? = some (Y'.1.cls, F, N)) (hn : As.length = n) (hlen : (lg_sl (.ref b :: As)).length ≤ Y'.2.2.1) (hst : st0 = As.reverse ++ .ref b :: st) (hroom : (st.map fun v => v.category).sum ≤ 8) (hd : decode Y.2.1 pc = .ok (.invokevirtual idx, 3)) (hdd : d' + 1 ≤ d) (hk : k' + k2 ≤ k) (hh : Y.2.2.2.2 = [])
    (hc : mv l Y' d' k' 0 (lv_args 0 (.ref b :: As)) [] M Qc) (hx : ∀ E M', Qc (.inr E) M' → Q (.inr E) M') (h : ∀ v M', Qc (.inl v) M' → mv l Y d k2 (pc + 3) lv (v.toList ++ st) M' Q) : mv l Y d k pc lv st0 M Q := by
  intro p e R s m args below meth c0 H locs cells slots ls ad cA dC dI kk ss hm hf hP hS hR hl
  obtain ⟨⟨w1, w2, hy, ⟨y1, y2, y3⟩, hmax, hno⟩, w3, w4⟩ := hV
  have r := hR
  obtain ⟨r1, r2, r3, r4, r5, r6⟩ := r
  have cw : CallW R s args Y.1.cls Y'.1.cls idx Y'.1 Y'.2.1 Y'.2.2.1 Y'.2.2.2.1 (Cond.code Y'.1 Y'.2.1 Y'.2.2.1 Y'.2.2.2.1 :: mv_T) (mv_room d' k') k' (6 * k') n :=
    cwV n hm.2.2.2.2.2.2.2 (mv_good (fun w hw => by
      rcases List.mem_append.mp hw with hw | hw
      · simp only [List.mem_cons, List.not_mem_nil, or_false] at hw
        rcases hw with rfl | rfl | rfl | rfl
        · exact hlk
        · exact w3
        · exact w4
        · exact w2
      · rcases List.mem_cons.mp hw with rfl | hw
        · exact w1
        · exact hw)) rfl rfl rfl ⟨rfl, y1, y2, y3⟩ ⟨by show d' + 1 ≤ _; omega, by show 8 + (Y'.2.2.1 + 11) + (40 * d' + 200) ≤ _; omega⟩
  have he : (mv_ws ad cA M)[b]? = some (ad b, .inr (ci, (List.range (mv_nf ci)).map (mv_fv ad M ci b))) := by rw [mv_ws_at hb, mv_obj hsh]
  have hp : PreV s H Y'.1.cls (ad b) (mv_Pc (.ref b :: As) M ad cA dC dI H.size) (As.map (mv_cv ad)) := ⟨mv_blind, va_recv hf.1 hP.1 (ci := ci) (q0 := b) hcl he, fun U hU hW => ⟨rfl, by rw [hU], ⟨by rw [hU]; exact hP.1, mv_scr_to hP.2 hW.alike (by rw [hU]; exact hS.2.1 _ hf.2.2.2.2.1 (mv_notA hf))⟩, mv_fix_at hf hW (by rw [hU]; exact hS)⟩⟩
  have hrm : ((st.map (mv_cv ad)).map fun v => v.category).sum ≤ 8 := by
    rw [List.map_map]
    exact (congrArg (fun f => (st.map f).sum) (funext fun v => mv_ctg ad v) : _ = (st.map fun v => v.category).sum) ▸ hroom
  refine mv_behind (k2 := k2) (Qc := Qc) (a := (Value.ref (ad b) :: As.map (mv_cv ad)).toArray) (vx_runV (As := As.map (mv_cv ad)) (rest := st.map (mv_cv ad)) (b := ad b) ⟨hm.1, hm.2.1, hm.2.2.2.1, hm.2.2.2.2.1, hm.2.2.2.2.2.2.2⟩ (mv_met hno hy hlen hc ad cA dC dI H.size) cw hp rfl (by rw [List.length_map]; exact hn) hl.1 (by rw [hst, List.map_append, List.map_reverse]; rfl) (lv_room hrm) hd ⟨by omega, by omega⟩) hm hf hS hP hR hl hk hh hx h
theorem mv_callS {Y' : mv_Y} {d' k' k2 idx n : Nat} {As st0 : List Value} {Qc : mv_R → mv_M → Prop} (hV : mv_MS Y' n) (hlk : Cond.methodLink Y.1.cls idx Y'.1 ∈ mv_T) (hn : As.length = n) (hlen : (lg_sl As).length ≤ Y'.2.2.1) (hst : st0 = As.reverse ++ st) (hroom : (st.map fun v => v.category).sum ≤ 8) (hd : decode Y.2.1 pc = .ok (.invokestatic idx, 3)) (hdd : d' + 1 ≤ d) (hk : k' + k2 ≤ k) (hh : Y.2.2.2.2 = [])
    (hc : mv l Y' d' k' 0 (lv_args 0 As) [] M Qc) (hx : ∀ E M', Qc (.inr E) M' → Q (.inr E) M') (h : ∀ v M', Qc (.inl v) M' → mv l Y d k2 (pc + 3) lv (v.toList ++ st) M' Q) : mv l Y d k pc lv st0 M Q := by
  intro p e R s m args below meth c0 H locs cells slots ls ad cA dC dI kk ss hm hf hP hS hR hl
  obtain ⟨⟨w1, w2, hy, ⟨y1, y2, y3⟩, hmax, hno⟩, w3⟩ := hV
  have r := hR
  obtain ⟨r1, r2, r3, r4, r5, r6⟩ := r
  have cw : CallB R s args Y.1.cls idx Y'.1 Y'.2.1 Y'.2.2.1 Y'.2.2.2.1 (Cond.code Y'.1 Y'.2.1 Y'.2.2.1 Y'.2.2.2.1 :: mv_T) (mv_room d' k') k' (6 * k') n ∧ (Cond.static Y'.1).before args s = true :=
    ⟨callB_of n hm.2.2.2.2.2.2.2 (mv_good (fun w hw => by
      rcases List.mem_cons.mp hw with rfl | hw
      · exact w1
      · exact hw)) rfl rfl rfl (hm.2.2.2.2.2.2.2 _ w2) (hm.2.2.2.2.2.2.2 _ hlk) ⟨y1, y2, y3⟩ ⟨by show d' + 1 ≤ _; omega, by show 8 + (Y'.2.2.1 + 11) + (40 * d' + 200) ≤ _; omega⟩, hm.2.2.2.2.2.2.2 _ w3⟩
  have hp : PreS s H (mv_Pc As M ad cA dC dI H.size) (As.map (mv_cv ad)) := ⟨mv_blind, fun U hU hW => ⟨rfl, by rw [hU], ⟨by rw [hU]; exact hP.1, mv_scr_to hP.2 hW.alike (by rw [hU]; exact hS.2.1 _ hf.2.2.2.2.1 (mv_notA hf))⟩, mv_fix_at hf hW (by rw [hU]; exact hS)⟩⟩
  have hrm : ((st.map (mv_cv ad)).map fun v => v.category).sum ≤ 8 := by
    rw [List.map_map]
    exact (congrArg (fun f => (st.map f).sum) (funext fun v => mv_ctg ad v) : _ = (st.map fun v => v.category).sum) ▸ hroom
  refine mv_behind (k2 := k2) (Qc := Qc) (a := (As.map (mv_cv ad)).toArray) (vx_runS (As := As.map (mv_cv ad)) (rest := st.map (mv_cv ad)) ⟨hm.1, hm.2.1, hm.2.2.2.1, hm.2.2.2.2.1, hm.2.2.2.2.2.2.2⟩ (mv_met hno hy hlen hc ad cA dC dI H.size) cw hp rfl (by rw [List.length_map]; exact hn) hl.1 (by rw [hst, List.map_append, List.map_reverse]) (lv_room hrm) hd ⟨by omega, by omega⟩) hm hf hS hP hR hl hk hh hx h
theorem mv_iret {x : Int32} (hr : Y.2.2.2.1 = some .int) (hd : decode Y.2.1 pc = .ok (.ireturn, 1)) (hq : Q (.inl (some (.int x))) M) : mv l Y d k pc lv [.int x] M Q := by
  intro p e R s m args below meth c0 H locs cells slots ls ad cA dC dI kk ss hm hf hP hS hR hl
  obtain ⟨r1, r2, r3, r4, r5, r6⟩ := hR
  exact W.widen (k := kk) (n := ss) (by omega) (by omega) (vx_ret (W.iret hm.1 hm.2.1 (hm.2.2.1.trans hr) (fun t ht hw => ⟨⟨some (.int x), M, rfl, hq, by rw [ht]; exact hP.1, mv_scr_to hP.2 hw.alike (by rw [ht]; exact hS.2.1 _ hf.2.2.2.2.1 (mv_notA hf))⟩, hS.F ht⟩) hS.2.2 hd hm.2.2.2.2.2.1))
theorem mv_zret {x : Int32} (hx : x = 0 ∨ x = 1) (hr : Y.2.2.2.1 = some .boolean) (hd : decode Y.2.1 pc = .ok (.ireturn, 1)) (hq : Q (.inl (some (.int x))) M) : mv l Y d k pc lv [.int x] M Q := by
  intro p e R s m args below meth c0 H locs cells slots ls ad cA dC dI kk ss hm hf hP hS hR hl
  obtain ⟨r1, r2, r3, r4, r5, r6⟩ := hR
  exact W.widen (k := kk) (n := ss) (by omega) (by omega) (vx_ret (W.zret hm.1 hm.2.1 (hm.2.2.1.trans hr) (mv_bit hx).1 (fun t ht hw => ⟨⟨some (.int x), M, rfl, hq, by rw [ht]; exact hP.1, mv_scr_to hP.2 hw.alike (by rw [ht]; exact hS.2.1 _ hf.2.2.2.2.1 (mv_notA hf))⟩, hS.F ht⟩) hS.2.2 hd hm.2.2.2.2.2.1))
theorem mv_lret {x : Int64} (hr : Y.2.2.2.1 = some .long) (hd : decode Y.2.1 pc = .ok (.lreturn, 1)) (hq : Q (.inl (some (.long x))) M) : mv l Y d k pc lv [.long x] M Q := by
  intro p e R s m args below meth c0 H locs cells slots ls ad cA dC dI kk ss hm hf hP hS hR hl
  obtain ⟨r1, r2, r3, r4, r5, r6⟩ := hR
  exact W.widen (k := kk) (n := ss) (by omega) (by omega) (vx_ret (W.lret hm.1 hm.2.1 (hm.2.2.1.trans hr) (fun t ht hw => ⟨⟨some (.long x), M, rfl, hq, by rw [ht]; exact hP.1, mv_scr_to hP.2 hw.alike (by rw [ht]; exact hS.2.1 _ hf.2.2.2.2.1 (mv_notA hf))⟩, hS.F ht⟩) hS.2.2 hd hm.2.2.2.2.2.1))
theorem mv_vret (hr : Y.2.2.2.1 = none) (hd : decode Y.2.1 pc = .ok (.return_, 1)) (hq : Q (.inl none) M) : mv l Y d k pc lv [] M Q := by
  intro p e R s m args below meth c0 H locs cells slots ls ad cA dC dI kk ss hm hf hP hS hR hl
  obtain ⟨r1, r2, r3, r4, r5, r6⟩ := hR
  exact W.widen (k := kk) (n := ss) (by omega) (by omega) (vx_ret (W.vret hm.1 hm.2.1 (hm.2.2.1.trans hr) (fun t ht hw => ⟨⟨none, M, rfl, hq, by rw [ht]; exact hP.1, mv_scr_to hP.2 hw.alike (by rw [ht]; exact hS.2.1 _ hf.2.2.2.2.1 (mv_notA hf))⟩, hS.F ht⟩) hS.2.2 hd hm.2.2.2.2.2.1))
/-- the two static rows -/
def mv_SL (own : String) (idx : Nat) (n dd : String) : Prop := Cond.fieldLink own idx "StrictProofs" n dd ∈ mv_T ∨ ∃ host : String, Cond.fieldLinkNest own idx "StrictProofs" n dd host ∈ mv_NW
theorem mv_getW {idx : Nat} (hk : mv_SL Y.1.cls idx "WORDS" "[J") (hd : decode Y.2.1 pc = .ok (.getstatic idx, 3)) (h : mv l Y d k (pc + 3) lv (.ref 300 :: st) M Q) : mv l Y d k pc lv st M Q := by
  intro p e R s m args below meth c0 H locs cells slots ls ad cA dC dI kk ss hm hf hP hS hR hl
  rcases hk with hk | ⟨host, hk⟩
  · exact va_gets (rest := st.map (mv_cv ad)) hm.1 hm.2.1 hf.2.2.2.1.1.1 hS hm.2.2.2.2.1 (hm.2.2.2.2.2.2.2 _ hk) (fun _ z => z) hd (h p e R s m args below meth c0 H locs cells slots ls ad cA dC dI kk ss hm hf hP hS hR hl)
  · exact va_getsN (rest := st.map (mv_cv ad)) hm.1 hm.2.1 hf.2.2.2.1.1.1 hS hm.2.2.2.2.1 (va_Nw.use rfl (hf.2.2.1 _ hk)) (fun _ z => z) hd (h p e R s m args below meth c0 H locs cells slots ls ad cA dC dI kk ss hm hf hP hS hR hl)
theorem mv_getD {idx : Nat} (hk : mv_SL Y.1.cls idx "DEMANDS" "[I") (hd : decode Y.2.1 pc = .ok (.getstatic idx, 3)) (h : mv l Y d k (pc + 3) lv (.ref 301 :: st) M Q) : mv l Y d k pc lv st M Q := by
  intro p e R s m args below meth c0 H locs cells slots ls ad cA dC dI kk ss hm hf hP hS hR hl
  rcases hk with hk | ⟨host, hk⟩
  · exact va_gets (rest := st.map (mv_cv ad)) hm.1 hm.2.1 hf.2.2.2.1.2.1.1 hS hm.2.2.2.2.1 (hm.2.2.2.2.2.2.2 _ hk) (fun _ z => z) hd (h p e R s m args below meth c0 H locs cells slots ls ad cA dC dI kk ss hm hf hP hS hR hl)
  · exact va_getsN (rest := st.map (mv_cv ad)) hm.1 hm.2.1 hf.2.2.2.1.2.1.1 hS hm.2.2.2.2.1 (va_Nw.use rfl (hf.2.2.1 _ hk)) (fun _ z => z) hd (h p e R s m args below meth c0 H locs cells slots ls ad cA dC dI kk ss hm hf hP hS hR hl)
theorem mv_ldW {i : Int32} (hi : vp_in i 9) (hd : decode Y.2.1 pc = .ok (.laload, 1)) (h : mv l Y d k (pc + 1) lv (.long (mv_words i.toNatClampNeg) :: st) M Q) : mv l Y d k pc lv (.int i :: .ref 300 :: st) M Q := by
  intro p e R s m args below meth c0 H locs cells slots ls ad cA dC dI kk ss hm hf hP hS hR hl
  exact va_tl (rest := st.map (mv_cv ad)) hm.1 hm.2.1 hf.2.2.2.1.1.2 hS hi rfl hd (h p e R s m args below meth c0 H locs cells slots ls ad cA dC dI kk ss hm hf hP hS hR hl)
theorem mv_ldD {i : Int32} (hi : vp_in i 5) (hd : decode Y.2.1 pc = .ok (.iaload, 1)) (h : mv l Y d k (pc + 1) lv (.int (mv_dem i.toNatClampNeg) :: st) M Q) : mv l Y d k pc lv (.int i :: .ref 301 :: st) M Q := by
  intro p e R s m args below meth c0 H locs cells slots ls ad cA dC dI kk ss hm hf hP hS hR hl
  exact va_ti (rest := st.map (mv_cv ad)) hm.1 hm.2.1 hf.2.2.2.1.2.1.2 hS hi rfl hd (h p e R s m args below meth c0 H locs cells slots ls ad cA dC dI kk ss hm hf hP hS hR hl)
theorem mv_lenW (hd : decode Y.2.1 pc = .ok (.arraylength, 1)) (h : mv l Y d k (pc + 1) lv (.int 9 :: st) M Q) : mv l Y d k pc lv (.ref 300 :: st) M Q := by
  intro p e R s m args below meth c0 H locs cells slots ls ad cA dC dI kk ss hm hf hP hS hR hl
  exact va_tlen (rest := st.map (mv_cv ad)) hm.1 hm.2.1 hf.2.2.2.1.1.2 hS rfl hd (h p e R s m args below meth c0 H locs cells slots ls ad cA dC dI kk ss hm hf hP hS hR hl)
theorem mv_lenD (hd : decode Y.2.1 pc = .ok (.arraylength, 1)) (h : mv l Y d k (pc + 1) lv (.int 5 :: st) M Q) : mv l Y d k pc lv (.ref 301 :: st) M Q := by
  intro p e R s m args below meth c0 H locs cells slots ls ad cA dC dI kk ss hm hf hP hS hR hl
  exact va_tlen (rest := st.map (mv_cv ad)) hm.1 hm.2.1 hf.2.2.2.1.2.1.2 hS rfl hd (h p e R s m args below meth c0 H locs cells slots ls ad cA dC dI kk ss hm hf hP hS hR hl)
theorem mv_len {c n : Nat} {v : Int32} (hc : c < mv_N) (hsh : mv_sh c = .inr (0, n)) (hv : Int32.ofNat n = v) (hd : decode Y.2.1 pc = .ok (.arraylength, 1)) (h : mv l Y d k (pc + 1) lv (.int v :: st) M Q) : mv l Y d k pc lv (.ref c :: st) M Q := by
  intro p e R s m args below meth c0 H locs cells slots ls ad cA dC dI kk ss hm hf hP hS hR hl
  exact va_alen (rest := st.map (mv_cv ad)) hm.1 hm.2.1 hf.1 hP.1 c 0 (mv_ai hc hsh) rfl hv hd (h p e R s m args below meth c0 H locs cells slots ls ad cA dC dI kk ss hm hf hP hS hR hl)
theorem mv_wk {k2 : Nat} (h : k2 ≤ k) (hc : mv l Y d k2 pc lv st M Q) : mv l Y d k pc lv st M Q := by
  intro p e R s m args below meth c0 H locs cells slots ls ad cA dC dI kk ss hm hf hP hS hR hl
  obtain ⟨r1, r2, r3, r4, r5, r6⟩ := hR
  exact hc p e R s m args below meth c0 H locs cells slots ls ad cA dC dI kk ss hm hf hP hS ⟨by omega, by omega, r3, r4, r5, r6⟩ hl
theorem mv_lds {L : Nat} {i : Int32} (hL : M.2.2 302 0 = some L) (hi : vp_in i L) (hd : decode Y.2.1 pc = .ok (.iaload, 1)) (h : mv l Y d k (pc + 1) lv (.int (M.1 302 i.toNatClampNeg) :: st) M Q) : mv l Y d k pc lv (.int i :: .ref 302 :: st) M Q := by
  intro p e R s m args below meth c0 H locs cells slots ls ad cA dC dI kk ss hm hf hP hS hR hl
  exact va_sld (rest := st.map (mv_cv ad)) hm.1 hm.2.1 (hP.2 L hL) hf.2.2.2.2.1 (mv_notA hf) hS hi hd (h p e R s m args below meth c0 H locs cells slots ls ad cA dC dI kk ss hm hf hP hS hR hl)
theorem mv_lens {L : Nat} (hL : M.2.2 302 0 = some L) (hd : decode Y.2.1 pc = .ok (.arraylength, 1)) (h : mv l Y d k (pc + 1) lv (.int (Int32.ofNat L) :: st) M Q) : mv l Y d k pc lv (.ref 302 :: st) M Q := by
  intro p e R s m args below meth c0 H locs cells slots ls ad cA dC dI kk ss hm hf hP hS hR hl
  exact va_slen (rest := st.map (mv_cv ad)) hm.1 hm.2.1 (hP.2 L hL) hf.2.2.2.2.1 (mv_notA hf) hS hd (h p e R s m args below meth c0 H locs cells slots ls ad cA dC dI kk ss hm hf hP hS hR hl)
end MVK
