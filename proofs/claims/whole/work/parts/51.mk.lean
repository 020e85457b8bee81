/-! what makes objects: a world is a list of cells; a constructor has its own object alone, and gives it and what it made -/
section MK
def mk_env (Y : mv_Y) (p : Program) (s : State) (m : MethodId) (args : Array Value) (meth : Method) (c : Code) (cA dC : Nat → ClassId) (dI : Nat → Nat → Nat) (A : Nat → Prop) : Prop := mv_mach Y p s m args meth c ∧ va_K (dC, dI) vwCl (mv_tys cA) s ∧ (∀ w ∈ mv_NW, va_Nw w s) ∧ ∀ q : Nat, s.heap.size ≤ q → A q
def mk_at (dC : Nat → ClassId) (dI : Nat → Nat → Nat) (A : Nat → Prop) (ws : va_W) (s : State) (H : Heap) (locs : List Loc) : Prop := va_P (dC, dI) vwCl ws H ∧ va_D A ws ∧ va_S A s.heap H locs
def mk_room (d mc ms : Nat) : Room := { frames := d, cells := mc, slots := ms, locals := 40 * d + 200 }
def mk_Pc (b : Nat) (As : List Value) (e0 : va_E) (cA dC : Nat → ClassId) (dI : Nat → Nat → Nat) (sz : Nat) : Array Value → State → Prop := fun a U => a = (Value.ref b :: As).toArray ∧ U.heap.size = sz ∧ va_P (dC, dI) vwCl [(b, e0)] U.heap ∧ va_D (fun _ => True) [(b, e0)] ∧ va_K (dC, dI) vwCl (mv_tys cA) U ∧ ∀ w ∈ mv_NW, va_Nw w U
def mk_Qc (b : Nat) (e0 : va_E) (bu : (Nat → Nat) → va_W) (dC : Nat → ClassId) (dI : Nat → Nat → Nat) (sz : Nat) : Array Value → State → Outcome → State → Prop := fun _ st o t => (∃ u : Nat → Nat, o = .returned none ∧ va_P (dC, dI) vwCl (bu u) t.heap ∧ va_D (va_A [(b, e0)] sz) (bu u)) ∧ va_F (va_A [(b, e0)] sz) st t
def mk_Met (l : Launch) (Y : mv_Y) (d mc ms : Nat) (cA : Nat → ClassId) (b : Nat) (As : List Value) (e0 : va_E) (bu : (Nat → Nat) → va_W) : Prop := ∀ (dC : Nat → ClassId) (dI : Nat → Nat → Nat) (sz : Nat), Met l Y.1 (Cond.code Y.1 Y.2.1 Y.2.2.1 Y.2.2.2.1 :: mv_T) (mk_room d mc ms) (mk_Pc b As e0 cA dC dI sz) (mk_Qc b e0 bu dC dI sz) mc ms (va_A [(b, e0)] sz)
variable {p : Program} {l : Launch} {e : Env} {R : Room} {s : State} {m : MethodId} {args : Array Value} {below : List Frame} {meth : Method} {c : Code} {H : Heap} {locs : List Loc} {cells slots : Nat} {Q : State → Prop}
variable {Y : mv_Y} {cA dC : Nat → ClassId} {dI : Nat → Nat → Nat} {A : Nat → Prop} {ws : va_W} {pc : Nat} {ls : Array Slot} {rest : List Value}
theorem mk_new {ci N index : Nat} {C : String} {F : u_T} {ty : Nat → FieldType} {fs : List Value} (E : mk_env Y p s m args meth c cA dC dI A) (P : mk_at dC dI A ws s H locs) (hC : mv_C ci C F N) (hty : ∀ j, j < N → parseFieldDescriptor (F j).2.2.1 = some (ty j)) (hlk : Cond.classLink Y.1.cls index C ∈ mv_T) (hin : Cond.instantiable C N ∈ mv_T) (hini : Cond.initialized C ∈ mv_T) (hfs : ∀ j, j < N → defaultValue (ty j) = vp_V fs j) (hcells : cells + 1 ≤ R.cells) (hslots : slots + N ≤ R.slots) (hd : decode Y.2.1 pc = .ok (.new index, 3))
    (kk : ∀ (q : Nat) (H1 : Heap), mk_at dC dI A (ws ++ [(q, .inr (ci, fs))]) s H1 locs → W p l e R s m args below meth c H1 locs (cells + 1) (slots + N) Q (F0 m (pc + 3) ls (.ref q :: rest))) : W p l e R s m args below meth c H locs cells slots Q (F0 m pc ls rest) :=
  va_new E.1.1 E.1.2.1 E.1.2.2.2.2.2.2.2 hC.2.1 ty hty E.1.2.2.2.2.1 (E.1.2.2.2.2.2.2.2 _ hlk) (E.1.2.2.2.2.2.2.2 _ hin) (E.1.2.2.2.2.2.2.2 _ hini) E.2.1 P.1 P.2.1 P.2.2 E.2.2.2 hC.1 hfs hcells hslots hd (fun q H1 a b d => kk q H1 ⟨a, b, d⟩)
theorem mk_tyof {s : State} {cA dC : Nat → ClassId} {dI : Nat → Nat → Nat} {k : Nat} {ty : FieldType} {cB : ClassId} (hK : va_K (dC, dI) vwCl (mv_tys cA) s) (hK2 : va_K (dC, dI) vwCl (mv_tys cA ++ [(cB, ty)]) s) (hk : (mv_tys cA)[k]? = some (cA k, ty)) (hp : ∀ C, ty ≠ .object C) : cB = cA k := by
  have h1 := (hK.2 k _ hk).2
  have h2 := (hK2.2 4 (cB, ty) rfl).2
  cases ty with
  | object C => exact absurd rfl (hp C)
  | _ => exact Option.some.inj ((show s.vm.findClass _ = some cB from h2).symm.trans (show s.vm.findClass _ = some (cA k) from h1))
theorem mk_newa {atype : ArrayType} {ty : FieldType} {n : Int32} {N' k : Nat} {a0 : vp_A} (E : mk_env Y p s m args meth c cA dC dI A) (P : mk_at dC dI A ws s H locs) (harr : Cond.arrayClass (newarray.typeOf atype) ∈ mv_T) (hty : newarray.typeOf atype = ty) (hk : ∀ cA : Nat → ClassId, (mv_tys cA)[k]? = some (cA k, ty)) (hp : ∀ C, ty ≠ .object C) (ha : ∀ cB : ClassId, vp_cell cB a0 = arrV cB N' (fun _ => defaultValue ty)) (hn : ¬ n < 0) (hN : n.toNatClampNeg = N') (hbytes : N' * componentBytes ty ≤ 536870912) (hcells : cells + 1 ≤ R.cells) (hslots : slots + N' ≤ R.slots) (hd : decode Y.2.1 pc = .ok (.newarray atype, 2))
    (kk : ∀ (q : Nat) (H1 : Heap), mk_at dC dI A (ws ++ [(q, .inl (cA k, a0))]) s H1 locs → W p l e R s m args below meth c H1 locs (cells + 1) (slots + N') Q (F0 m (pc + 2) ls (.ref q :: rest))) : W p l e R s m args below meth c H locs cells slots Q (F0 m pc ls (.int n :: rest)) :=
  va_newa E.1.1 E.1.2.1 (E.1.2.2.2.2.2.2.2 _ harr) hty E.2.1 P.1 P.2.1 P.2.2 E.2.2.2 ha hn hN hbytes hcells hslots hd (fun q cB H1 hK2 a b d => by
    obtain rfl := mk_tyof E.2.1 hK2 (hk cA) hp
    exact kk q H1 ⟨a, b, d⟩)
/-- a field of an object of the world is written, final or not (in a constructor of its class) -/
theorem mk_put {q0 a j ci idx N : Nat} {C : String} {F : u_T} {fs : List Value} {v : Value} {ty : FieldType} (E : mk_env Y p s m args meth c cA dC dI A) (P : mk_at dC dI A ws s H locs) (hini : meth.name = "<init>") (hC : mv_C ci C F N) (hj : j < N) (ho : (F j).1 = Y.1.cls) (he : ws[q0]? = some (a, .inr (ci, fs))) (hd0 : parseFieldDescriptor (F j).2.2.1 = some ty) (hn : narrow ty v = v) (hfit : fits ty v = true) (hl : j < fs.length) (hlk : Cond.fieldLink Y.1.cls idx (F j).1 (F j).2.1 (F j).2.2.1 ∈ mv_T) (hd : decode Y.2.1 pc = .ok (.putfield idx, 3))
    (kk : ∀ (H1 : Heap) (locs1 : List Loc), mk_at dC dI A (ws.set q0 (a, .inr (ci, fs.set j v))) s H1 locs1 → W p l e R s m args below meth c H1 locs1 cells slots Q (F0 m (pc + 3) ls rest)) : W p l e R s m args below meth c H locs cells slots Q (F0 m pc ls (v :: .ref a :: rest)) := by
  obtain ⟨hcl, hin, ⟨ty0, hty⟩, hnm, hnf⟩ := hC
  cases hfin : (F j).2.2.2 with
  | true => exact va_putF E.1.1 E.1.2.1 E.1.2.2.2.2.2.2.2 hin ty0 hty hnm E.1.2.2.2.2.1 E.2.1 P.1 P.2.1 P.2.2 q0 he hcl j hj (E.1.2.2.2.2.2.2.2 _ hlk) (fun _ z => z) hfin hini ho hd0 hn hfit hl hd (fun H1 locs1 a b d => kk H1 locs1 ⟨a, b, d⟩)
  | false => exact va_put E.1.1 E.1.2.1 E.1.2.2.2.2.2.2.2 hin ty0 hty hnm E.1.2.2.2.2.1 E.2.1 P.1 P.2.1 P.2.2 q0 he hcl j hj (E.1.2.2.2.2.2.2.2 _ hlk) (fun _ z => z) hfin hd0 hn hfit hl hd (fun H1 locs1 a b d => kk H1 locs1 ⟨a, b, d⟩)
theorem mk_get {q0 a j ci idx : Nat} {dsc : String} {fin : Bool} {fs : List Value} {v : Value} (E : mk_env Y p s m args meth c cA dC dI A) (P : mk_at dC dI A ws s H locs) (hF : mv_F Y.1.cls idx ci j dsc fin) (he : ws[q0]? = some (a, .inr (ci, fs))) (hv : fs[j]? = some v) (hd : decode Y.2.1 pc = .ok (.getfield idx, 3))
    (kk : W p l e R s m args below meth c H locs cells slots Q (F0 m (pc + 3) ls (v :: rest))) : W p l e R s m args below meth c H locs cells slots Q (F0 m pc ls (.ref a :: rest)) := by
  obtain ⟨C, F, N, ⟨hcl, hin, hty, hnm, hnf⟩, hj, -, -, hlk⟩ := hF
  rcases hlk with hlk | ⟨host, hlk⟩
  · exact va_get E.1.1 E.1.2.1 E.1.2.2.2.2.2.2.2 hin E.1.2.2.2.2.1 E.2.1 P.1 q0 he hcl j hj (E.1.2.2.2.2.2.2.2 _ hlk) (fun _ z => z) hv hd kk
  · exact va_getN E.1.1 E.1.2.1 E.1.2.2.2.2.2.2.2 hin E.1.2.2.2.2.1 E.2.1 P.1 q0 he hcl j hj (va_Nw.use rfl (E.2.2.1 _ hlk)) (fun _ z => z) hv hd kk
theorem mk_wo1 : Cond.instanceMethod Lib.objectInit ∈ mv_T := mv_t1 37 rfl rfl
theorem mk_wo2 : Cond.code Lib.objectInit ⟨#[0xb1]⟩ 1 none ∈ mv_T := mv_t1 38 rfl rfl
theorem mk_obj {a idx : Nat} (E : mk_env Y p s m args meth c cA dC dI A) (hlk : Cond.methodLink Y.1.cls idx Lib.objectInit ∈ mv_T) (hsz : ls.size = Y.2.2.1) (hd : decode Y.2.1 pc = .ok (.invokespecial idx, 3)) (hf : 1 ≤ R.frames) (hloc : (rest.map fun v => v.category).sum + 12 ≤ R.locals)
    (kk : W p l e R s m args below meth c H locs cells slots Q (F0 m (pc + 3) ls rest)) : W p l e R s m args below meth c H locs cells slots Q (F0 m pc ls (.ref a :: rest)) :=
  W.objInit E.1.1 E.1.2.1 E.1.2.2.2.2.1 (E.1.2.2.2.2.2.2.2 _ hlk) (E.1.2.2.2.2.2.2.2 _ mk_wo1) (E.1.2.2.2.2.2.2.2 _ mk_wo2) rfl (hsz.trans E.1.2.2.2.1.symm) rfl hd hf (by show 2 * 0 + _ + 12 ≤ _; omega) kk
theorem mk_join {A0 : Nat → Prop} {D : va_G} {cl : List vw_C} {w0 w1 : va_W} {b : Nat} {e0 : va_E} {H H1 : Heap} (hP : va_P D cl (w0 ++ [(b, e0)]) H) (hD : va_D A0 (w0 ++ [(b, e0)])) (hk : ∀ q : Nat, q < H.size → ¬ va_A [(b, e0)] H.size q → H1[q]? = H[q]?) (hF : ∀ q, va_A [(b, e0)] H.size q → A0 q) (hP1 : va_P D cl w1 H1) (hD1 : va_D (va_A [(b, e0)] H.size) w1) : va_P D cl (w0 ++ w1) H1 ∧ va_D A0 (w0 ++ w1) := by
  have at0 : ∀ (k : Nat) (q : Nat × va_E), w0[k]? = some q → (w0 ++ [(b, e0)])[k]? = some q := fun k q h => by
    rw [List.getElem?_append_left (List.getElem?_eq_some_iff.mp h).1]
    exact h
  have ap : ∀ (k : Nat) (q : Nat × va_E), w0[k]? = some q → q.1 < H.size ∧ ¬ va_A [(b, e0)] H.size q.1 := by
    intro k q h
    have hl := (hP k q (at0 k q h)).lt
    refine ⟨hl, fun z => ?_⟩
    rcases z with ⟨i, e9, z⟩ | z
    · cases i with
      | zero =>
        cases z
        have h1 : (w0 ++ [(q.1, e0)])[w0.length]? = some (q.1, e0) := by rw [List.getElem?_append_right (Nat.le_refl _), Nat.sub_self]; rfl
        have h2 := hD.1 k w0.length q (q.1, e0) (at0 k q h) h1 rfl
        have h3 := (List.getElem?_eq_some_iff.mp h).1
        omega
      | succ i => cases z
    · omega
  refine ⟨va_P.app (fun k q h => ?_) hP1, va_D.app ⟨fun i j p q h1 h2 h3 => hD.1 i j p q (at0 i p h1) (at0 j q h2) h3, fun k q h => hD.2 k q (at0 k q h)⟩ (hD1.weaken (fun k q _ h => hF q.1 h)) (fun i j x y hx hy hxy => ?_)⟩
  · obtain ⟨g1, g2⟩ := ap k q h
    exact (hP k q (at0 k q h)).kept (hk q.1 g1 g2)
  · exact (ap i x hx).2 (by rw [hxy]; exact hD1.2 j y hy)
theorem mk_blind {b : Nat} {As : List Value} {e0 : va_E} {sz : Nat} : FrameBlind (mk_Pc b As e0 cA dC dI sz) := by
  intro a U g mk ⟨q1, q2, q3, q4, q5, q6⟩
  exact ⟨q1, q2, q3, q4, va_K.moved (u := U) (U := U.calling g mk a) (Vm.Alike.refl U.vm) q5, fun w hw => mv_nw (U := U.calling g mk a) hw (State.WarmedH.refl U) (q6 w hw)⟩
def mk_MI (Y' : mv_Y) (n : Nat) : Prop := mv_Mk Y' n ∧ Cond.instanceMethod Y'.1 ∈ mv_T ∧ Y'.1.name = "<init>" ∧ Y'.2.2.2.1 = none
/-- a constructor is called: its object is the world's last cell -/
theorem mk_call {Y' : mv_Y} {d' mc ms n idx b : Nat} {As st0 : List Value} {e0 : va_E} {w0 : va_W} {bu : (Nat → Nat) → va_W} (E : mk_env Y p s m args meth c cA dC dI A) (P : mk_at dC dI A (w0 ++ [(b, e0)]) s H locs) (hM : mk_Met l Y' d' mc ms cA b As e0 bu) (hI : mk_MI Y' n) (hlk : Cond.methodLink Y.1.cls idx Y'.1 ∈ mv_T ∨ ∃ host : String, Cond.methodLinkNest Y.1.cls idx Y'.1 host ∈ mv_NW) (hn : As.length = n) (hst : st0 = As.reverse ++ .ref b :: rest) (hsz : ls.size = Y.2.2.1) (hroom : (rest.map fun v => v.category).sum ≤ 8) (hd : decode Y.2.1 pc = .ok (.invokespecial idx, 3)) (hfr : d' + 1 ≤ R.frames) (hlo : 8 + (Y'.2.2.1 + 11) + (40 * d' + 200) ≤ R.locals) (hcells : cells + mc ≤ R.cells) (hslots : slots + ms ≤ R.slots)
    (kk : ∀ (u : Nat → Nat) (H1 : Heap) (locs1 : List Loc), mk_at dC dI A (w0 ++ bu u) s H1 locs1 → W p l e R s m args below meth c H1 locs1 (cells + mc) (slots + ms) Q (F0 m (pc + 3) ls rest)) : W p l e R s m args below meth c H locs cells slots Q (F0 m pc ls st0) := by
  obtain ⟨⟨w1, w2, hy, ⟨y1, y2, y3⟩, hmax, hno⟩, w3, w4, w5⟩ := hI
  have hlast : (w0 ++ [(b, e0)])[w0.length]? = some (b, e0) := by rw [List.getElem?_append_right (Nat.le_refl _), Nat.sub_self]; rfl
  have hp1 : va_P (dC, dI) vwCl [(b, e0)] H := by
    intro k q h
    cases k with
    | zero =>
      cases h
      exact P.1 _ _ hlast
    | succ k => cases h
  have hd1 : va_D (fun _ => True) [(b, e0)] := by
    refine ⟨fun i j x y h1 h2 _ => ?_, fun _ _ _ => trivial⟩
    cases i with
    | zero => cases j with
      | zero => rfl
      | succ j => cases h2
    | succ i => cases h1
  have hp : PreS s H (mk_Pc b As e0 cA dC dI H.size) (.ref b :: As) := ⟨mk_blind, fun U hU hW => ⟨rfl, by rw [hU], by rw [hU]; exact hp1, hd1, va_K.moved hW.alike E.2.1, fun w hw => mv_nw hw hW (E.2.2.1 w hw)⟩⟩
  have hgood : GoodIn mv_T (Cond.code Y'.1 Y'.2.1 Y'.2.2.1 none :: mv_T) := mv_good (fun w hw => by
    rcases List.mem_cons.mp hw with rfl | hw
    · rw [← w5]; exact w1
    · exact hw)
  have hM2 := hM dC dI H.size
  rw [w5] at hM2
  have hF : ∀ q, va_A [(b, e0)] H.size q → A q := fun q z => by
    rcases z with ⟨i, e9, z⟩ | z
    · cases i with
      | zero => cases z; exact P.2.1.2 _ _ hlast
      | succ i => cases z
    · exact E.2.2.2 q (Nat.le_trans P.2.2.1 z)
  have hr : va_Run p l e R s m args below meth c H locs cells slots mc ms (F0 m pc ls st0) rest (mk_Qc b e0 bu dC dI H.size (Value.ref b :: As).toArray) (va_A [(b, e0)] H.size) := by
    rcases hlk with hlk | ⟨host, hlk⟩
    · exact va_runI ⟨E.1.1, E.1.2.1, E.1.2.2.2.1, E.1.2.2.2.2.1, E.1.2.2.2.2.2.2.2⟩ hM2 (cwI n E.1.2.2.2.2.2.2.2 hgood rfl rfl rfl (E.1.2.2.2.2.2.2.2 _ w2) (E.1.2.2.2.2.2.2.2 _ hlk) (E.1.2.2.2.2.2.2.2 _ w3) w4 ⟨y1, y2, y3⟩ ⟨hfr, hlo⟩) hp rfl hn hsz hst (lv_room hroom) hd ⟨hcells, hslots⟩
    · exact va_runIN ⟨E.1.1, E.1.2.1, E.1.2.2.2.1, E.1.2.2.2.2.1, E.1.2.2.2.2.2.2.2⟩ hM2 ⟨va_cnB n E.1.2.2.2.2.2.2.2 hgood rfl rfl rfl (E.2.2.1 _ hlk) (E.1.2.2.2.2.2.2.2 _ w2) ⟨y1, y2, y3⟩ ⟨hfr, hlo⟩, w4, E.1.2.2.2.2.2.2.2 _ w3⟩ hp rfl hn hsz hst (lv_room hroom) hd ⟨hcells, hslots⟩
  intro T hT X
  obtain ⟨v, st₀, t, T', L, h0, X', hL, e1, e2, ⟨⟨u, hv, hP1, hD1⟩, hz, hk⟩, stp⟩ := hr T hT X
  cases hv
  rw [h0] at hz hk
  obtain ⟨j1, j2⟩ := mk_join (H1 := T'.heap) P.1 P.2.1 (fun q g1 g2 => by rw [e1]; exact hk q g1 g2) hF (by rw [e1]; exact hP1) hD1
  have hS1 : va_S A s.heap T'.heap (locs ++ L) := ⟨Nat.le_trans P.2.2.1 (by rw [e1]; exact hz), fun q g1 g2 => by rw [e1, hk q (Nat.lt_of_lt_of_le g1 P.2.2.1) (fun z => g2 (hF q z))]; exact P.2.2.2.1 q g1 g2, fun q hq => by
    rcases List.mem_append.mp hq with h | h
    · exact P.2.2.2.2 q h
    · exact hF _ (hL q h)⟩
  obtain ⟨t2, a1, b1⟩ := kk u T'.heap (locs ++ L) ⟨j1, j2, hS1⟩ T' rfl X'
  exact ⟨t2, stp t2 a1, b1⟩
theorem mk_vret {b mc ms : Nat} {e0 : va_E} {bu : (Nat → Nat) → va_W} {u : Nat → Nat} (E : mk_env Y p s m args meth c cA dC dI (va_A [(b, e0)] s.heap.size)) (P : mk_at dC dI (va_A [(b, e0)] s.heap.size) (bu u) s H locs) (hr : Y.2.2.2.1 = none) (hc : cells ≤ mc) (hs : slots ≤ ms) (hd : decode Y.2.1 pc = .ok (.return_, 1)) : W p l e R s m args below meth c H locs cells slots (MQ below (mk_Qc b e0 bu dC dI s.heap.size) args s mc ms (va_A [(b, e0)] s.heap.size)) (F0 m pc ls []) :=
  W.widen hc hs (W.vret E.1.1 E.1.2.1 (E.1.2.2.1.trans hr) (fun t ht _ => ⟨⟨u, rfl, by rw [ht]; exact P.1, P.2.1⟩, P.2.2.F ht⟩) P.2.2.2.2 hd E.1.2.2.2.2.2.1)
/-- a constructor's contract out of its walk -/
theorem mk_ofW {d mc ms b : Nat} {As : List Value} {e0 : va_E} {bu : (Nat → Nat) → va_W} (hh : Y.2.2.2.2 = []) (hy : plainName Y.1.cls = true) (hi : Y.1.name = "<init>") (hlen : (lg_sl (.ref b :: As)).length ≤ Y.2.2.1)
    (body : ∀ (p : Program) (e : Env) (s : State) (m : MethodId) (args : Array Value) (below : List Frame) (meth : Method) (c : Code) (ls : Array Slot) (dC : Nat → ClassId) (dI : Nat → Nat → Nat) (H : Heap) (locs : List Loc), mk_env Y p s m args meth c cA dC dI (va_A [(b, e0)] s.heap.size) → meth.name = "<init>" → mk_at dC dI (va_A [(b, e0)] s.heap.size) [(b, e0)] s H locs → lv_has ls Y.2.2.1 (lv_args 0 (.ref b :: As)) →
      W p l e (mk_room d mc ms) s m args below meth c H locs 0 0 (MQ below (mk_Qc b e0 bu dC dI s.heap.size) args s mc ms (va_A [(b, e0)] s.heap.size)) (F0 m 0 ls [])) : mk_Met l Y d mc ms cA b As e0 bu := by
  intro dC dI sz
  refine Met.ofW (cc := Y.2.1) (maxL := Y.2.2.1) (ret := Y.2.2.2.1) hy rfl ?_
  intro p e s m args below meth c s₁ B hml hv
  obtain ⟨rfl, rfl, hP, hD, hK, hN⟩ := hv
  have hws := atoms_spec (ws := Cond.code Y.1 Y.2.1 Y.2.2.1 Y.2.2.2.1 :: mv_T) B.pre
  have htab : c.exceptionTable.toList = tableOf Y.2.2.2.2 := by
    rw [hh]
    obtain ⟨meth9, c9, h1, h2, -, -, -, -, h7, -⟩ := Cond.code_spec B.named (hws _ List.mem_cons_self)
    cases Option.some.inj (h1.symm.trans B.method)
    cases Option.some.inj (h2.symm.trans (Stand.of_body B).code)
    rw [Array.isEmpty_iff.mp h7]
    rfl
  have hm : mv_mach Y p s m (Value.ref b :: As).toArray meth c := ⟨B.exec, B.bytes, B.returns, hml, findClass_of_methodNamed B.named, B.notSynchronized, htab, fun w hw => hws w (List.mem_cons_of_mem _ hw)⟩
  have hl := lv_entry (Value.ref b :: As) (n := Y.2.2.1) hlen
  rw [lg_entry_eq]
  exact body p e s m _ below meth c _ dC dI s.heap [] ⟨hm, hK, hN, fun q h => Or.inr h⟩ ((name_of_methodNamed B.named B.method).1.trans hi) ⟨hP, hD.self, va_S.rf⟩ hl
end MK
