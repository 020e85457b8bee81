/-! mv: a logic of ONE fixed world over the kit's rows. A goal 'mv l Y d k pc lv st M Q': from every state of the machine in method Y at pc, with locals lv, stack st (references are numbers of cells), the world's memory M,
at most d frames more and k cells more: the method comes to its end, with Q of its answer (or of the class of what it throws) and of the memory. -/
abbrev mv_M : Type := (Nat → Nat → Int32) × (Nat → Nat → Int64) × (Nat → Nat → Option Nat)
abbrev mv_R : Type := Option Value ⊕ String
abbrev mv_Y : Type := MethodName × ByteArray × Nat × Option FieldType × List (Nat × Nat × Nat × Nat)
def mv_up {α : Type} (f : Nat → Nat → α) (c k : Nat) (v : α) : Nat → Nat → α := fun c' k' => if c' = c ∧ k' = k then v else f c' k'
def mv_si (M : mv_M) (c k : Nat) (v : Int32) : mv_M := (mv_up M.1 c k v, M.2)
def mv_sl (M : mv_M) (c k : Nat) (v : Int64) : mv_M := (M.1, mv_up M.2.1 c k v, M.2.2)
def mv_sr (M : mv_M) (c k : Nat) (v : Option Nat) : mv_M := (M.1, M.2.1, mv_up M.2.2 c k v)
def mv_cv (ad : Nat → Nat) : Value → Value
  | .ref a => .ref (ad a)
  | v => v
def mv_rv (ad : Nat → Nat) : Option Nat → Value
  | some q => .ref (ad q)
  | none => .null
def mv_fv (ad : Nat → Nat) (M : mv_M) (ci c k : Nat) : Value := match mv_fk ci k with
  | 0 => .int (M.1 c k)
  | 1 => .long (M.2.1 c k)
  | 2 => mv_rv ad (mv_rt c k)
  | _ => mv_rv ad (M.2.2 c k)
def mv_E (ad : Nat → Nat) (cA : Nat → ClassId) (M : mv_M) (c : Nat) : va_E := match mv_sh c with
  | .inl ci => .inr (ci, (List.range (mv_nf ci)).map (mv_fv ad M ci c))
  | .inr q => .inl (cA q.1, q.2, if q.1 = 1 then .inr (.inl (M.2.1 c)) else .inl (M.1 c))
def mv_ws (ad : Nat → Nat) (cA : Nat → ClassId) (M : mv_M) : va_W := (List.range mv_N).map (fun c => (ad c, mv_E ad cA M c))
def mv_tys (cA : Nat → ClassId) : List (ClassId × FieldType) := [(cA 0, .int), (cA 1, .long), (cA 2, .byte), (cA 3, .boolean)]
def mv_A (ad : Nat → Nat) (sz : Nat) : Nat → Prop := fun q => (∃ c, c < mv_N ∧ q = ad c) ∨ sz ≤ q
def mv_T : List Cond := lw_tbl.filter goodWord
def mv_nest : Cond → Bool
  | .fieldLinkNest _ _ _ _ _ _ => true
  | .methodLinkNest _ _ _ _ => true
  | .declares _ => true
  | .castable _ _ => true
  | _ => false
def mv_NW : List Cond := lw_tbl.filter mv_nest
def mv_str : Cond → Bool
  | .stringRef _ _ _ => true
  | _ => false
def mv_ST : List Cond := lw_tbl.filter mv_str
def mv_e1 : String := "java/lang/IllegalStateException"
def mv_e2 : String := "java/lang/IllegalArgumentException"
def mv_e3 : String := "java/lang/IndexOutOfBoundsException"
/-- pairs of the three exceptions: none is of the other's class -/
def mv_XP : List (String × String) := [(mv_e1, mv_e2), (mv_e1, mv_e3), (mv_e2, mv_e1), (mv_e2, mv_e3), (mv_e3, mv_e1), (mv_e3, mv_e2)]
/-- what stands outside the world and is only read: two static rows; what a throw needs -/
def mv_ro (ad : Nat → Nat) (A : Nat → Prop) (s : State) : Prop :=
  (va_Z "StrictProofs" "WORDS" "[J" (.ref (ad 300)) A s s.heap ∧ va_T .long (ad 300) 9 (fun k => .long (mv_words k)) A s s.heap) ∧
  (va_Z "StrictProofs" "DEMANDS" "[I" (.ref (ad 301)) A s s.heap ∧ va_T .int (ad 301) 5 (fun k => .int (mv_dem k)) A s s.heap) ∧
  (vx_Zq Bundle.tN "UNASSIGNED_STACK" Bundle.steD A s s.heap ∧ vx_Zq Bundle.tN "SUPPRESSED_SENTINEL" Bundle.listD A s s.heap) ∧
  (∀ (own : String) (k : Nat) (tx : String), Cond.stringRef own k tx ∈ mv_ST → ∃ a : Nat, vk_R own k tx a s) ∧ ∀ q ∈ mv_XP, va_Nc q.1 q.2 s
def mv_fix (ad : Nat → Nat) (cA dC : Nat → ClassId) (dI : Nat → Nat → Nat) (s : State) : Prop :=
  va_K (dC, dI) vwCl (mv_tys cA) s ∧ (∀ i j : Nat, i < mv_N → j < mv_N → ad i = ad j → i = j) ∧ (∀ w ∈ mv_NW, va_Nw w s) ∧ mv_ro ad (mv_A ad s.heap.size) s ∧ (ad 302 < s.heap.size ∧ ∀ c : Nat, c < mv_N → ad c ≠ ad 302)
/-- the script: cell 302, which is only read; how long it is stands in the memory, in place 302 0 of the third part -/
def mv_scr (ad : Nat → Nat) (M : mv_M) (s : State) : Prop := ∀ L : Nat, M.2.2 302 0 = some L → va_X (ad 302) L (fun j => M.1 302 j) s s.heap
def mv_P (ad : Nat → Nat) (cA dC : Nat → ClassId) (dI : Nat → Nat → Nat) (M : mv_M) (s : State) (H : Heap) : Prop := va_P (dC, dI) vwCl (mv_ws ad cA M) H ∧ mv_scr ad M s
def mv_room (d k : Nat) : Room := { frames := d, cells := k, slots := 6 * k, locals := 40 * d + 200 }
def mv_mach (Y : mv_Y) (p : Program) (s : State) (m : MethodId) (args : Array Value) (meth : Method) (c : Code) : Prop :=
  p.tables.exec = Jvm.exec ∧ c.code = Y.2.1 ∧ meth.sig.returnType = Y.2.2.2.1 ∧ c.maxLocals = Y.2.2.1 ∧ s.vm.findClass Y.1.cls = some m.cls ∧ meth.locks = false ∧ c.exceptionTable.toList = tableOf Y.2.2.2.2 ∧ ∀ w ∈ mv_T, w.before args s = true
def mv_Qc (Q : mv_R → mv_M → Prop) (ad : Nat → Nat) (cA dC : Nat → ClassId) (dI : Nat → Nat → Nat) (sz : Nat) : Array Value → State → Outcome → State → Prop := fun _ st o t =>
  (∃ (v : Option Value) (M' : mv_M), o = .returned (v.map (mv_cv ad)) ∧ Q (.inl v) M' ∧ va_P (dC, dI) vwCl (mv_ws ad cA M') t.heap ∧ mv_scr ad M' t) ∧ va_F (mv_A ad sz) st t
def mv_Xc (Q : mv_R → mv_M → Prop) (ad : Nat → Nat) (cA dC : Nat → ClassId) (dI : Nat → Nat → Nat) (sz : Nat) : String → State → State → Prop := fun E st t =>
  (∃ M' : mv_M, Q (.inr E) M' ∧ va_P (dC, dI) vwCl (mv_ws ad cA M') t.heap ∧ mv_scr ad M' t) ∧ va_F (mv_A ad sz) st t
def mv_cl (ad : Nat → Nat) (lv : List (Nat × Value)) : List (Nat × Value) := lv.map (fun q => (q.1, mv_cv ad q.2))
def mv_fit (d k kk ss cells slots : Nat) (R : Room) : Prop := cells + k ≤ kk ∧ slots + 6 * k ≤ ss ∧ d ≤ R.frames ∧ 40 * d + 200 ≤ R.locals ∧ kk ≤ R.cells ∧ ss ≤ R.slots
def mv (l : Launch) (Y : mv_Y) (d k pc : Nat) (lv : List (Nat × Value)) (st : List Value) (M : mv_M) (Q : mv_R → mv_M → Prop) : Prop :=
  ∀ (p : Program) (e : Env) (R : Room) (s : State) (m : MethodId) (args : Array Value) (below : List Frame) (meth : Method) (c : Code) (H : Heap) (locs : List Loc) (cells slots : Nat) (ls : Array Slot) (ad : Nat → Nat) (cA dC : Nat → ClassId) (dI : Nat → Nat → Nat) (kk ss : Nat),
  mv_mach Y p s m args meth c → mv_fix ad cA dC dI s → mv_P ad cA dC dI M s H → va_S (mv_A ad s.heap.size) s.heap H locs → mv_fit d k kk ss cells slots R → lv_has ls Y.2.2.1 (mv_cl ad lv) →
  W p l e R s m args below meth c H locs cells slots (vx_MQ below (mv_Qc Q ad cA dC dI s.heap.size) (mv_Xc Q ad cA dC dI s.heap.size) args s kk ss (mv_A ad s.heap.size)) (F0 m pc ls (st.map (mv_cv ad)))
theorem mv_ctg (ad : Nat → Nat) (v : Value) : (mv_cv ad v).category = v.category := by cases v <;> rfl
theorem mv_ws_at {ad : Nat → Nat} {cA : Nat → ClassId} {M : mv_M} {c : Nat} (h : c < mv_N) : (mv_ws ad cA M)[c]? = some (ad c, mv_E ad cA M c) := by
  unfold mv_ws
  rw [List.getElem?_map, List.getElem?_range h]
  rfl
theorem mv_ws_set {ad : Nat → Nat} {cA : Nat → ClassId} {M M' : mv_M} {c : Nat} {E : va_E} (hE : mv_E ad cA M' c = E) (ho : ∀ c' : Nat, c' ≠ c → mv_E ad cA M' c' = mv_E ad cA M c') : (mv_ws ad cA M).set c (ad c, E) = mv_ws ad cA M' := by
  refine List.ext_getElem? fun i => ?_
  rw [List.getElem?_set]
  by_cases hi : c = i
  · subst hi
    rw [if_pos rfl]
    by_cases hl : c < mv_N
    · rw [if_pos (by unfold mv_ws; rw [List.length_map, List.length_range]; exact hl), mv_ws_at hl, hE]
    · rw [if_neg (by unfold mv_ws; rw [List.length_map, List.length_range]; exact hl)]
      exact (List.getElem?_eq_none (by unfold mv_ws; rw [List.length_map, List.length_range]; exact Nat.le_of_not_lt hl)).symm
  · rw [if_neg hi]
    unfold mv_ws
    rw [List.getElem?_map, List.getElem?_map]
    cases hr : (List.range mv_N)[i]? with
    | none => rfl
    | some j =>
      have hj : j = i := by
        have h2 := List.getElem?_eq_some_iff.mp hr
        obtain ⟨h3, h4⟩ := h2
        rw [List.getElem_range] at h4
        exact h4.symm
      subst hj
      exact congrArg (fun z => some (ad j, z)) (ho j (fun q => hi q.symm)).symm
theorem mv_up_ne {α : Type} {f : Nat → Nat → α} {c k c' : Nat} {v : α} (h : c' ≠ c) : mv_up f c k v c' = f c' := by
  funext k'
  unfold mv_up
  rw [if_neg (fun q => h q.1)]
theorem mv_E_si {ad : Nat → Nat} {cA : Nat → ClassId} {M : mv_M} {c k : Nat} {v : Int32} : ∀ c' : Nat, c' ≠ c → mv_E ad cA (mv_si M c k v) c' = mv_E ad cA M c' := by
  intro c' h
  have h1 : (mv_si M c k v).1 c' = M.1 c' := mv_up_ne h
  have h2 : ∀ ci j, mv_fv ad (mv_si M c k v) ci c' j = mv_fv ad M ci c' j := fun ci j => by
    unfold mv_fv
    rw [h1]
    rfl
  unfold mv_E
  cases mv_sh c' with
  | inl ci => exact congrArg (fun f => (Sum.inr (ci, (List.range (mv_nf ci)).map f) : va_E)) (funext fun j => h2 ci j)
  | inr q => show (Sum.inl (cA q.1, q.2, _) : va_E) = _; rw [h1]; rfl
theorem mv_E_sl {ad : Nat → Nat} {cA : Nat → ClassId} {M : mv_M} {c k : Nat} {v : Int64} : ∀ c' : Nat, c' ≠ c → mv_E ad cA (mv_sl M c k v) c' = mv_E ad cA M c' := by
  intro c' h
  have h1 : (mv_sl M c k v).2.1 c' = M.2.1 c' := mv_up_ne h
  have h2 : ∀ ci j, mv_fv ad (mv_sl M c k v) ci c' j = mv_fv ad M ci c' j := fun ci j => by
    unfold mv_fv
    rw [h1]
    rfl
  unfold mv_E
  cases mv_sh c' with
  | inl ci => exact congrArg (fun f => (Sum.inr (ci, (List.range (mv_nf ci)).map f) : va_E)) (funext fun j => h2 ci j)
  | inr q => show (Sum.inl (cA q.1, q.2, _) : va_E) = _; rw [h1]; rfl
theorem mv_E_sr {ad : Nat → Nat} {cA : Nat → ClassId} {M : mv_M} {c k : Nat} {v : Option Nat} : ∀ c' : Nat, c' ≠ c → mv_E ad cA (mv_sr M c k v) c' = mv_E ad cA M c' := by
  intro c' h
  have h1 : (mv_sr M c k v).2.2 c' = M.2.2 c' := mv_up_ne h
  have h2 : ∀ ci j, mv_fv ad (mv_sr M c k v) ci c' j = mv_fv ad M ci c' j := fun ci j => by
    unfold mv_fv
    rw [h1]
    rfl
  unfold mv_E
  cases mv_sh c' with
  | inl ci => exact congrArg (fun f => (Sum.inr (ci, (List.range (mv_nf ci)).map f) : va_E)) (funext fun j => h2 ci j)
  | inr q => rfl
theorem mv_scr_si {ad : Nat → Nat} {M : mv_M} {s : State} {c k : Nat} {v : Int32} (hc : c < mv_N) (h : mv_scr ad M s) : mv_scr ad (mv_si M c k v) s := by
  have h1 : (mv_si M c k v).1 302 = M.1 302 := mv_up_ne (fun q => by unfold mv_N at hc; omega)
  intro L hL
  rw [show (fun j => (mv_si M c k v).1 302 j) = fun j => M.1 302 j from funext fun j => congrFun h1 j]
  exact h L hL
theorem mv_scr_sl {ad : Nat → Nat} {M : mv_M} {s : State} {c k : Nat} {v : Int64} (h : mv_scr ad M s) : mv_scr ad (mv_sl M c k v) s := h
theorem mv_scr_sr {ad : Nat → Nat} {M : mv_M} {s : State} {c k : Nat} {v : Option Nat} (hc : c < mv_N) (h : mv_scr ad M s) : mv_scr ad (mv_sr M c k v) s := by
  intro L hL
  refine h L ?_
  rw [← hL]
  show M.2.2 302 0 = mv_up M.2.2 c k v 302 0
  rw [mv_up_ne (fun q => by unfold mv_N at hc; omega)]
theorem mv_D {ad : Nat → Nat} {cA : Nat → ClassId} {sz : Nat} (hj : ∀ i j : Nat, i < mv_N → j < mv_N → ad i = ad j → i = j) (M : mv_M) : va_D (mv_A ad sz) (mv_ws ad cA M) := by
  have hat : ∀ (i : Nat) (p : Nat × va_E), (mv_ws ad cA M)[i]? = some p → i < mv_N ∧ p.1 = ad i := by
    intro i p h
    have hl : i < mv_N := by
      have h3 := (List.getElem?_eq_some_iff.mp h).1
      unfold mv_ws at h3
      rwa [List.length_map, List.length_range] at h3
    rw [mv_ws_at hl] at h
    cases h
    exact ⟨hl, rfl⟩
  refine ⟨fun i j p q h1 h2 h3 => ?_, fun k q h => ?_⟩
  · obtain ⟨a1, a2⟩ := hat i p h1
    obtain ⟨b1, b2⟩ := hat j q h2
    exact hj i j a1 b1 (by rw [← a2, ← b2, h3])
  · obtain ⟨a1, a2⟩ := hat k q h
    exact Or.inl ⟨k, a1, a2⟩
theorem mv_cl_filter (ad : Nat → Nat) (lv : List (Nat × Value)) (f : Nat → Nat → Bool) : (mv_cl ad lv).filter (fun q => f q.1 q.2.category) = mv_cl ad (lv.filter (fun q => f q.1 q.2.category)) := by
  unfold mv_cl
  rw [List.filter_map]
  congr 1
  refine List.filter_congr fun q _ => ?_
  show f q.1 (mv_cv ad q.2).category = f q.1 q.2.category
  rw [mv_ctg]
theorem mv_cl_at {ad : Nat → Nat} {lv : List (Nat × Value)} {k i : Nat} {v : Value} (h : lv[k]? = some (i, v)) : (mv_cl ad lv)[k]? = some (i, mv_cv ad v) := by
  unfold mv_cl
  rw [List.getElem?_map, h]
  rfl
def mv_st1 (lv : List (Nat × Value)) (i : Nat) (v : Value) : List (Nat × Value) := (i, v) :: lv.filter (fun q => !(q.1 == i) && !(q.1 + 1 == i && q.2.category == 2))
def mv_st2 (lv : List (Nat × Value)) (i : Nat) (v : Value) : List (Nat × Value) := (i, v) :: lv.filter (fun q => !(q.1 == i) && (!(q.1 == i + 1) && !(q.1 + 1 == i && q.2.category == 2)))
theorem mv_cl_st1 (ad : Nat → Nat) (lv : List (Nat × Value)) (i : Nat) (v : Value) : (i, mv_cv ad v) :: (mv_cl ad lv).filter (fun q => !(q.1 == i) && !(q.1 + 1 == i && q.2.category == 2)) = mv_cl ad (mv_st1 lv i v) := by
  rw [mv_cl_filter ad lv (fun a b => !(a == i) && !(a + 1 == i && b == 2))]
  rfl
theorem mv_cl_st2 (ad : Nat → Nat) (lv : List (Nat × Value)) (i : Nat) (v : Value) : (i, mv_cv ad v) :: (mv_cl ad lv).filter (fun q => !(q.1 == i) && (!(q.1 == i + 1) && !(q.1 + 1 == i && q.2.category == 2))) = mv_cl ad (mv_st2 lv i v) := by
  rw [mv_cl_filter ad lv (fun a b => !(a == i) && (!(a == i + 1) && !(a + 1 == i && b == 2)))]
  rfl
