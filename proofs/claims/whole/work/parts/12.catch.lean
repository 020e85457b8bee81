section MVX
variable {p : Program} {l : Launch} {e : Env} {R : Room} {s : State} {m : MethodId} {args : Array Value} {below : List Frame} {meth : Method} {c : Code} {H : Heap} {locs : List Loc} {cells slots : Nat} {Q : State → Prop}
variable {pc : Nat} {ls : Array Slot} {rest : List Value}
/-- caught by the row x of this method's table; the rows ahead don't take it -/
theorem vx_catch {own name : String} {E : String} {ce : Cell} {q : Addr} (hown : s.vm.findClass own = some m.cls) (pre : List ExceptionTableEntry) (x : ExceptionTableEntry) (suf : List ExceptionTableEntry) (hsplit : c.exceptionTable.toList = pre ++ x :: suf)
    (hpass : ∀ z ∈ pre, covers z pc = false ∨ (z.catchType ≠ 0 ∧ ∃ nm : String, (Cond.classLink own z.catchType nm).before args s = true ∧ va_Nc E nm s)) (hx : covers x pc = true) (h0 : x.catchType ≠ 0)
    (hlink : (Cond.classLink own x.catchType name).before args s = true) (hcast : (Cond.castable E name).before args s = true) (hcell : H[q]? = some ce) (hv : ce.vm = .none) (hcl : s.vm.findClass E = some ce.cls)
    (kk : W p l e R s m args below meth c H locs cells slots Q (F0 m x.handlerPc ls [.ref q])) : vx_W p l e R s m args below meth c H locs cells slots Q (F0 m pc ls rest) q := by
  intro T hT X
  have hpl : e.platform.magicAccessors = ({} : Platform).magicAccessors := by rw [X.admits.platform]
  obtain ⟨c3, c4, hc3, hc4, hasg⟩ := Cond.castable_spec hcast
  cases Option.some.inj (hc3.symm.trans hcl)
  obtain ⟨c5, hc5, hcl5⟩ := Cond.classLink_spec hown hlink e.platform hpl
  cases Option.some.inj (hc4.symm.trans hc5)
  obtain ⟨vm', X', st⟩ := Stand.thenCaughtThrough X q (g := F0 m pc ls rest) rfl (Steps.refl _) (by rw [hT]; exact hcell) (by rw [hv]; rfl) (by obtain ⟨k9, h9, -⟩ := Vm.findClass_spec hcl; exact ⟨k9, h9⟩) pre x suf hsplit
    (fun z hz => by
      rcases hpass z hz with h | ⟨hz0, nm, hl1, hn1⟩
      · exact Or.inl h
      · obtain ⟨c6, hc6, hcl6⟩ := Cond.classLink_spec hown hl1 e.platform hpl
        obtain ⟨a8, b8, h1, h2, h3⟩ := hn1
        cases Option.some.inj (h1.symm.trans hcl)
        cases Option.some.inj (h2.symm.trans hc6)
        exact Or.inr ⟨hz0, _, hcl6, h3⟩) hx (Or.inr ⟨h0, c4, hcl5, hasg⟩)
  obtain ⟨t, a1, b1⟩ := kk (T.setVm vm') hT X'
  exact ⟨t, st.trans a1, b1⟩
end MVX
section MVZ
variable {l : Launch} {Y : mv_Y} {d k pc : Nat} {lv : List (Nat × Value)} {st : List Value} {M : mv_M} {Q : mv_R → mv_M → Prop}
/-- E, thrown at pc, is caught by the table's row whose handler stands at pcH -/
def mv_cat (Y : mv_Y) (pc : Nat) (E : String) (pcH : Nat) : Prop := ∃ (pre : List ExceptionTableEntry) (x : ExceptionTableEntry) (suf : List ExceptionTableEntry), tableOf Y.2.2.2.2 = pre ++ x :: suf ∧
  (∀ z ∈ pre, covers z pc = false ∨ (z.catchType ≠ 0 ∧ ∃ nm : String, Cond.classLink Y.1.cls z.catchType nm ∈ mv_T ∧ (E, nm) ∈ mv_XP)) ∧ covers x pc = true ∧ x.catchType ≠ 0 ∧ (∃ nm : String, Cond.classLink Y.1.cls x.catchType nm ∈ mv_T ∧ Cond.castable E nm ∈ mv_NW) ∧ x.handlerPc = pcH
theorem mv_try {Y' : mv_Y} {d' k' k2 idx b n ci N : Nat} {F : u_T} {As st0 : List Value} {Qc : mv_R → mv_M → Prop} (hV : mv_MV Y' n) (hlk : Cond.methodLink Y.1.cls idx Y'.1 ∈ mv_T) (hb : b < mv_N) (hsh : mv_sh b = .inl ci) (hcl : vwCl[ci]? = some (Y'.1.cls, F, N)) (hn : As.length = n) (hlen : (lg_sl (.ref b :: As)).length ≤ Y'.2.2.1) (hst : st0 = As.reverse ++ .ref b :: st) (hroom : (st.map fun v => v.category).sum ≤ 8) (hd : decode Y.2.1 pc = .ok (.invokevirtual idx, 3)) (hdd : d' + 1 ≤ d) (hk : k' + k2 ≤ k)
    (hc : mv l Y' d' k' 0 (lv_args 0 (.ref b :: As)) [] M Qc)
    (hx : ∀ E M', Qc (.inr E) M' → ∃ pcH : Nat, mv_cat Y pc E pcH ∧ ((∃ i : Nat, decode Y.2.1 pcH = .ok (.astore i, 2) ∧ i < Y.2.2.1 ∧ mv l Y d k2 (pcH + 2) [] [] M' Q) ∨ ∃ i : Fin 4, decode Y.2.1 pcH = .ok (.astore_n i, 1) ∧ (i : Nat) < Y.2.2.1 ∧ mv l Y d k2 (pcH + 1) [] [] M' Q))
    (h : ∀ v M', Qc (.inl v) M' → mv l Y d k2 (pc + 3) lv (v.toList ++ st) M' Q) : mv l Y d k pc lv st0 M Q := by
  intro p e R s m args below meth c0 H locs cells slots ls ad cA dC dI kk ss hm hf hP hS hR hl
  obtain ⟨⟨w1, w2, hy, ⟨y1, y2, y3⟩, hmax, hno⟩, w3, w4⟩ := hV
  obtain ⟨r1, r2, r3, r4, r5, r6⟩ := hR
  have cw : CallW R s args Y.1.cls Y'.1.cls idx Y'.1 Y'.2.1 Y'.2.2.1 Y'.2.2.2.1 (Cond.code Y'.1 Y'.2.1 Y'.2.2.1 Y'.2.2.2.1 :: mv_T) (mv_room d' k') k' (6 * k') n :=
    cwV n hm.2.2.2.2.2.2.2 (mv_good (fun w hw => by
      rcases List.mem_append.mp hw with hw | hw
      · simp only [List.mem_cons, List.not_mem_nil, or_false] at hw
        rcases hw with rfl | rfl | rfl | rfl
        · exact hlk
        · exact w3
        · exact w4
        · exact w2
      · rcases List.mem_cons.mp hw with rfl | hw
        · exact w1
        · exact hw)) rfl rfl rfl ⟨rfl, y1, y2, y3⟩ ⟨by show d' + 1 ≤ _; omega, by show 8 + (Y'.2.2.1 + 11) + (40 * d' + 200) ≤ _; omega⟩
  have he : (mv_ws ad cA M)[b]? = some (ad b, .inr (ci, (List.range (mv_nf ci)).map (mv_fv ad M ci b))) := by rw [mv_ws_at hb, mv_obj hsh]
  have hp : PreV s H Y'.1.cls (ad b) (mv_Pc (.ref b :: As) M ad cA dC dI H.size) (As.map (mv_cv ad)) := ⟨mv_blind, va_recv hf.1 hP.1 (ci := ci) (q0 := b) hcl he, fun U hU hW => ⟨rfl, by rw [hU], ⟨by rw [hU]; exact hP.1, mv_scr_to hP.2 hW.alike (by rw [hU]; exact hS.2.1 _ hf.2.2.2.2.1 (mv_notA hf))⟩, mv_fix_at hf hW (by rw [hU]; exact hS)⟩⟩
  have hrm : ((st.map (mv_cv ad)).map fun v => v.category).sum ≤ 8 := by
    rw [List.map_map]
    exact (congrArg (fun f => (st.map f).sum) (funext fun v => mv_ctg ad v) : _ = (st.map fun v => v.category).sum) ▸ hroom
  have hr := vx_runV (g := F0 m pc ls (st0.map (mv_cv ad))) (locs := locs) (e := e) (below := below) (meth := meth) (As := As.map (mv_cv ad)) (rest := st.map (mv_cv ad)) (b := ad b) ⟨hm.1, hm.2.1, hm.2.2.2.1, hm.2.2.2.2.1, hm.2.2.2.2.2.2.2⟩ (mv_met hno hy hlen hc ad cA dC dI H.size) cw hp rfl (by rw [List.length_map]; exact hn) hl.1 (by show (st0.map (mv_cv ad)) = _; rw [hst, List.map_append, List.map_reverse]; rfl) (lv_room hrm) hd ⟨(by omega : cells + k' ≤ R.cells), (by omega : slots + 6 * k' ≤ R.slots)⟩
  intro T hT X
  have hsub := mv_A_sub (ad := ad) hS.1
  rcases hr T hT X with ⟨v, st₀, t, T', L, h0, X', hL, e1, e2, ⟨⟨v', M', ho, hQ, hP', hX'⟩, hF⟩, stp⟩ | ⟨q, st₀, t, T', L, E, ce, h0, X', hL, e1, e2, ⟨⟨M', hQ, hP', hX'⟩, hF⟩, hce, hcv, hclx, stp⟩
  · cases ho
    obtain ⟨k1, k22, k3⟩ := vx_keep h0 e1 hS (fun q _ z => hsub q z) hsub hL hF
    have hw := h v' M' hQ p e R s m args below meth c0 T'.heap (locs ++ L) (cells + k') (slots + 6 * k') ls ad cA dC dI kk ss hm hf ⟨by rw [e1]; exact hP', mv_scr_to hX' (by rw [← e2]; exact X'.warmed.alike.symm) (by rw [← e1]; exact (k3.2.1 _ hf.2.2.2.2.1 (mv_notA hf)).symm)⟩ k3 ⟨by omega, by omega, r3, r4, r5, r6⟩ hl
    obtain ⟨t2, a1, b1⟩ := hw T' rfl X'
    refine ⟨t2, stp t2 ?_, b1⟩
    have hs : (v'.toList ++ st).map (mv_cv ad) = (v'.map (mv_cv ad)).toList ++ st.map (mv_cv ad) := by cases v' <;> rfl
    rw [hs] at a1
    exact a1
  · obtain ⟨k1, k22, k3⟩ := vx_keep h0 e1 hS (fun q _ z => hsub q z) hsub hL hF
    obtain ⟨pcH, ⟨pre, x, suf, hsplit, hpass, hcov, h00, ⟨nm, hlnk, hcst⟩, rfl⟩, hand⟩ := hx E M' hQ
    have hw : vx_W p l e R s m args below meth c0 T'.heap (locs ++ L) (cells + k') (slots + 6 * k') (vx_MQ below (mv_Qc Q ad cA dC dI s.heap.size) (mv_Xc Q ad cA dC dI s.heap.size) args s kk ss (mv_A ad s.heap.size)) (F0 m pc ls (st.map (mv_cv ad))) q := by
      refine vx_catch (own := Y.1.cls) (name := nm) (E := E) (ce := ce) hm.2.2.2.2.1 pre x suf (hm.2.2.2.2.2.2.1.trans hsplit) (fun z hz => ?_) hcov h00 (hm.2.2.2.2.2.2.2 _ hlnk) (va_Nw.use rfl (hf.2.2.1 _ hcst)) (by rw [e1]; exact hce) hcv hclx ?_
      · rcases hpass z hz with g | ⟨g1, nm2, g2, g3⟩
        · exact Or.inl g
        · exact Or.inr ⟨g1, nm2, hm.2.2.2.2.2.2.2 _ g2, hf.2.2.2.1.2.2.2.2 _ g3⟩
      · rcases hand with ⟨i, hda, hia, hcont⟩ | ⟨i, hda, hia, hcont⟩
        · refine lv_astore (rest := []) (lv' := (i, .ref q) :: (mv_cl ad lv).filter (fun q => !(q.1 == i) && !(q.1 + 1 == i && q.2.category == 2))) hm.1 hm.2.1 hda hl hia rfl (fun ls2 hl2 => ?_)
          exact hcont p e R s m args below meth c0 T'.heap (locs ++ L) (cells + k') (slots + 6 * k') ls2 ad cA dC dI kk ss hm hf ⟨by rw [e1]; exact hP', mv_scr_to hX' (by rw [← e2]; exact X'.warmed.alike.symm) (by rw [← e1]; exact (k3.2.1 _ hf.2.2.2.2.1 (mv_notA hf)).symm)⟩ k3 ⟨by omega, by omega, r3, r4, r5, r6⟩ ⟨hl2.1, hl2.2.1, fun q hq => by cases hq⟩
        · refine lv_astore_n (rest := []) (lv' := ((i : Nat), .ref q) :: (mv_cl ad lv).filter (fun q => !(q.1 == (i : Nat)) && !(q.1 + 1 == (i : Nat) && q.2.category == 2))) hm.1 hm.2.1 hda rfl hl hia rfl (fun ls2 hl2 => ?_)
          exact hcont p e R s m args below meth c0 T'.heap (locs ++ L) (cells + k') (slots + 6 * k') ls2 ad cA dC dI kk ss hm hf ⟨by rw [e1]; exact hP', mv_scr_to hX' (by rw [← e2]; exact X'.warmed.alike.symm) (by rw [← e1]; exact (k3.2.1 _ hf.2.2.2.2.1 (mv_notA hf)).symm)⟩ k3 ⟨by omega, by omega, r3, r4, r5, r6⟩ ⟨hl2.1, hl2.2.1, fun q hq => by cases hq⟩
    obtain ⟨t2, a1, b1⟩ := hw T' rfl X'
    exact ⟨t2, stp.trans a1, b1⟩
theorem mv_metH {As : List Value} (hy : plainName Y.1.cls = true) (hlen : (lg_sl As).length ≤ Y.2.2.1) (h : mv l Y d k 0 (lv_args 0 As) [] M Q) (ad : Nat → Nat) (cA dC : Nat → ClassId) (dI : Nat → Nat → Nat) (sz : Nat) :
    vx_Met l Y.1 (Cond.codeWith Y.1 Y.2.1 Y.2.2.1 Y.2.2.2.1 Y.2.2.2.2 :: mv_T) (mv_room d k) (mv_Pc As M ad cA dC dI sz) (mv_Qc Q ad cA dC dI sz) (mv_Xc Q ad cA dC dI sz) k (6 * k) (mv_A ad sz) := by
  refine vx_ofWH (cc := Y.2.1) (maxL := Y.2.2.1) (ret := Y.2.2.2.1) (hh := Y.2.2.2.2) hy rfl ?_
  intro p e s m args below meth c s₁ B hml hv
  obtain ⟨rfl, rfl, hP, hf⟩ := hv
  have hws := atoms_spec (ws := Cond.codeWith Y.1 Y.2.1 Y.2.2.1 Y.2.2.2.1 Y.2.2.2.2 :: mv_T) B.pre
  have hm : mv_mach Y p s m (As.map (mv_cv ad)).toArray meth c := ⟨B.exec, B.bytes, B.returns, hml, findClass_of_methodNamed B.named, B.notSynchronized, vx_table (x := Y.1) B (hws _ List.mem_cons_self), fun w hw => hws w (List.mem_cons_of_mem _ hw)⟩
  have hl := lv_entry (As.map (mv_cv ad)) (n := Y.2.2.1) (by rw [mv_sllen]; exact hlen)
  rw [mv_args] at hl
  rw [lg_entry_eq]
  exact h p e _ s m _ below meth c s.heap [] 0 0 _ ad cA dC dI k (6 * k) hm hf hP va_S.rf ⟨by omega, by omega, Nat.le_refl _, Nat.le_refl _, Nat.le_refl _, Nat.le_refl _⟩ hl
def mv_tryx {α β : Type} (o : Option ((α ⊕ String) × mv_M)) (f : α → mv_M → Option (β × mv_M)) (g : String → mv_M → Option (β × mv_M)) : Option (β × mv_M) := match o with
  | some (.inl a, M) => f a M
  | some (.inr E, M) => g E M
  | none => none
theorem mv_tryxE {α β : Type} {o : Option ((α ⊕ String) × mv_M)} {f : α → mv_M → Option (β × mv_M)} {g : String → mv_M → Option (β × mv_M)} {Q : β → mv_M → Prop} (h : mv_ok (mv_tryx o f g) Q) : mv_ok o (fun r M => (∀ a, r = .inl a → mv_ok (f a M) Q) ∧ ∀ E, r = .inr E → mv_ok (g E M) Q) := by
  match o, h with
  | none, h => exact h
  | some (.inl a, M), h =>
    refine ⟨fun b e => ?_, fun E e => ?_⟩
    · cases e
      exact h
    · cases e
  | some (.inr E, M), h =>
    refine ⟨fun b e => ?_, fun E2 e => ?_⟩
    · cases e
    · cases e
      exact h
def mv_lenE {β : Type} (o : Option Nat) (f : Nat → Option β) : Option β := match o with
  | some n => f n
  | none => none
theorem mv_lenEE {β : Type} {o : Option Nat} {f : Nat → Option (β × mv_M)} {Q : β → mv_M → Prop} (h : mv_ok (mv_lenE o f) Q) : ∃ n, o = some n ∧ mv_ok (f n) Q := by
  cases o with
  | none => exact h.elim
  | some n => exact ⟨n, rfl, h⟩
def mv_MH (Y' : mv_Y) (n : Nat) : Prop := Cond.codeWith Y'.1 Y'.2.1 Y'.2.2.1 Y'.2.2.2.1 Y'.2.2.2.2 ∈ mv_T ∧ Cond.initialized Y'.1.cls ∈ mv_T ∧ plainName Y'.1.cls = true ∧ (Y'.1.cls ≠ "java/lang/invoke/MethodHandle" ∧ Y'.1.cls ≠ "java/lang/invoke/VarHandle" ∧ (parseMethodDescriptor Y'.1.desc).map (fun d => d.parameters.length) = some n) ∧ Y'.2.2.1 ≤ 21 ∧ Cond.static Y'.1 ∈ mv_T
theorem mv_csH {Y' : mv_Y} {d' k' k2 idx n : Nat} {As st0 : List Value} {Qc : Int32 → mv_M → Prop} (hV : mv_MH Y' n) (hlk : Cond.methodLink Y.1.cls idx Y'.1 ∈ mv_T) (hn : As.length = n) (hlen : (lg_sl As).length ≤ Y'.2.2.1) (hst : st0 = As.reverse ++ st) (hroom : (st.map fun v => v.category).sum ≤ 8) (hd : decode Y.2.1 pc = .ok (.invokestatic idx, 3)) (hdd : d' + 1 ≤ d) (hk : k' + k2 ≤ k) (hh : Y.2.2.2.2 = [])
    (hc : mv l Y' d' k' 0 (lv_args 0 As) [] M (mv_qI Qc)) (h : ∀ r M', Qc r M' → mv l Y d k2 (pc + 3) lv (.int r :: st) M' Q) : mv l Y d k pc lv st0 M Q := by
  intro p e R s m args below meth c0 H locs cells slots ls ad cA dC dI kk ss hm hf hP hS hR hl
  obtain ⟨w1, w2, hy, ⟨y1, y2, y3⟩, hmax, w3⟩ := hV
  obtain ⟨r1, r2, r3, r4, r5, r6⟩ := id hR
  have cw : vx_CSW R s args Y.1.cls idx Y'.1 Y'.2.1 Y'.2.2.1 Y'.2.2.2.1 Y'.2.2.2.2 (Cond.codeWith Y'.1 Y'.2.1 Y'.2.2.1 Y'.2.2.2.1 Y'.2.2.2.2 :: mv_T) (mv_room d' k') k' (6 * k') n :=
    vx_cwSW n hm.2.2.2.2.2.2.2 (mv_good (fun w hw => by
      rcases List.mem_append.mp hw with hw | hw
      · simp only [List.mem_cons, List.not_mem_nil, or_false] at hw
        rcases hw with rfl | rfl | rfl
        · exact hlk
        · exact w3
        · exact w2
      · rcases List.mem_cons.mp hw with rfl | hw
        · exact w1
        · exact hw)) rfl rfl rfl ⟨y1, y2, y3⟩ ⟨by show d' + 1 ≤ _; omega, by show 8 + (Y'.2.2.1 + 11) + (40 * d' + 200) ≤ _; omega⟩
  have hp : PreS s H (mv_Pc As M ad cA dC dI H.size) (As.map (mv_cv ad)) := ⟨mv_blind, fun U hU hW => ⟨rfl, by rw [hU], ⟨by rw [hU]; exact hP.1, mv_scr_to hP.2 hW.alike (by rw [hU]; exact hS.2.1 _ hf.2.2.2.2.1 (mv_notA hf))⟩, mv_fix_at hf hW (by rw [hU]; exact hS)⟩⟩
  have hrm : ((st.map (mv_cv ad)).map fun v => v.category).sum ≤ 8 := by
    rw [List.map_map]
    exact (congrArg (fun f => (st.map f).sum) (funext fun v => mv_ctg ad v) : _ = (st.map fun v => v.category).sum) ▸ hroom
  refine mv_behind (k2 := k2) (Qc := mv_qI Qc) (a := (As.map (mv_cv ad)).toArray) (vx_runSX (As := As.map (mv_cv ad)) (rest := st.map (mv_cv ad)) ⟨hm.1, hm.2.1, hm.2.2.2.1, hm.2.2.2.2.1, hm.2.2.2.2.2.2.2⟩ (mv_metH hy hlen hc ad cA dC dI H.size) cw hp rfl (by rw [List.length_map]; exact hn) hl.1 (by rw [hst, List.map_append, List.map_reverse]) (lv_room hrm) hd ⟨by omega, by omega⟩) hm hf hS hP hR hl hk hh (fun E M' hq => ?_) (fun v M' hq => ?_)
  · obtain ⟨x, e1, -⟩ := hq
    cases e1
  · obtain ⟨x, e1, hq⟩ := hq
    cases e1
    exact h x M' hq
end MVZ
