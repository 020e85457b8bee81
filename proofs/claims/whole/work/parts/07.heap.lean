section MVH
variable {l : Launch} {Y : mv_Y} {d k pc : Nat} {lv : List (Nat × Value)} {st : List Value} {M : mv_M} {Q : mv_R → mv_M → Prop}
/-- a class of the world's objects: its number, its words, its types -/
def mv_C (ci : Nat) (C : String) (F : u_T) (N : Nat) : Prop := vwCl[ci]? = some (C, F, N) ∧ (∀ w ∈ u_ws C F N, w ∈ mv_T) ∧ (∃ ty0 : Nat → FieldType, ∀ j, j < N → parseFieldDescriptor (F j).2.2.1 = some (ty0 j)) ∧ (∀ a, a < N → ∀ b, b < N → a ≠ b → (F a).2.1 ≠ (F b).2.1) ∧ mv_nf ci = N
/-- a pool entry of a class that is field j of the objects of class ci -/
def mv_F (own : String) (idx ci j : Nat) (dsc : String) (fin : Bool) : Prop := ∃ (C : String) (F : u_T) (N : Nat), mv_C ci C F N ∧ j < N ∧ (F j).2.2.1 = dsc ∧ (F j).2.2.2 = fin ∧
  (Cond.fieldLink own idx (F j).1 (F j).2.1 (F j).2.2.1 ∈ mv_T ∨ ∃ host : String, Cond.fieldLinkNest own idx (F j).1 (F j).2.1 (F j).2.2.1 host ∈ mv_NW)
theorem mv_obj {ad : Nat → Nat} {cA : Nat → ClassId} {c ci : Nat} (hsh : mv_sh c = .inl ci) : mv_E ad cA M c = .inr (ci, (List.range (mv_nf ci)).map (mv_fv ad M ci c)) := by
  unfold mv_E
  rw [hsh]
theorem mv_fs {ad : Nat → Nat} {ci c j : Nat} (h : j < mv_nf ci) : ((List.range (mv_nf ci)).map (mv_fv ad M ci c))[j]? = some (mv_fv ad M ci c j) := by
  rw [List.getElem?_map, List.getElem?_range h]
  rfl
/-- a field is read: its value by the memory -/
theorem mv_getV {c j ci idx : Nat} {dsc : String} {fin : Bool} {v : Value} (hF : mv_F Y.1.cls idx ci j dsc fin) (hc : c < mv_N) (hsh : mv_sh c = .inl ci) (hv : ∀ ad : Nat → Nat, mv_fv ad M ci c j = mv_cv ad v) (hd : decode Y.2.1 pc = .ok (.getfield idx, 3)) (h : mv l Y d k (pc + 3) lv (v :: st) M Q) : mv l Y d k pc lv (.ref c :: st) M Q := by
  intro p e R s m args below meth c0 H locs cells slots ls ad cA dC dI kk ss hm hf hP hS hR hl
  obtain ⟨C, F, N, ⟨hcl, hin, hty, hnm, hnf⟩, hj, -, -, hlk⟩ := hF
  have he : (mv_ws ad cA M)[c]? = some (ad c, .inr (ci, (List.range (mv_nf ci)).map (mv_fv ad M ci c))) := by rw [mv_ws_at hc, mv_obj hsh]
  have hfs := mv_fs (M := M) (ad := ad) (ci := ci) (c := c) (j := j) (by rw [hnf]; exact hj)
  rw [hv ad] at hfs
  rcases hlk with hlk | ⟨host, hlk⟩
  · exact va_get (rest := st.map (mv_cv ad)) hm.1 hm.2.1 hm.2.2.2.2.2.2.2 hin hm.2.2.2.2.1 hf.1 hP.1 c he hcl j hj (hm.2.2.2.2.2.2.2 _ hlk) (fun _ z => z) hfs hd (h p e R s m args below meth c0 H locs cells slots ls ad cA dC dI kk ss hm hf hP hS hR hl)
  · exact va_getN (rest := st.map (mv_cv ad)) hm.1 hm.2.1 hm.2.2.2.2.2.2.2 hin hm.2.2.2.2.1 hf.1 hP.1 c he hcl j hj (va_Nw.use rfl (hf.2.2.1 _ hlk)) (fun _ z => z) hfs hd (h p e R s m args below meth c0 H locs cells slots ls ad cA dC dI kk ss hm hf hP hS hR hl)
theorem mv_getI {c j ci idx : Nat} {dsc : String} {fin : Bool} (hF : mv_F Y.1.cls idx ci j dsc fin) (hc : c < mv_N) (hsh : mv_sh c = .inl ci) (hk : mv_fk ci j = 0) (hd : decode Y.2.1 pc = .ok (.getfield idx, 3)) (h : mv l Y d k (pc + 3) lv (.int (M.1 c j) :: st) M Q) : mv l Y d k pc lv (.ref c :: st) M Q :=
  mv_getV hF hc hsh (fun ad => by unfold mv_fv; rw [hk]; rfl) hd h
theorem mv_getL {c j ci idx : Nat} {dsc : String} {fin : Bool} (hF : mv_F Y.1.cls idx ci j dsc fin) (hc : c < mv_N) (hsh : mv_sh c = .inl ci) (hk : mv_fk ci j = 1) (hd : decode Y.2.1 pc = .ok (.getfield idx, 3)) (h : mv l Y d k (pc + 3) lv (.long (M.2.1 c j) :: st) M Q) : mv l Y d k pc lv (.ref c :: st) M Q :=
  mv_getV hF hc hsh (fun ad => by unfold mv_fv; rw [hk]; rfl) hd h
theorem mv_getR {c j ci idx : Nat} {dsc : String} {fin : Bool} (q : Nat) (hF : mv_F Y.1.cls idx ci j dsc fin) (hc : c < mv_N) (hsh : mv_sh c = .inl ci) (hk : mv_fk ci j = 2) (hq : mv_rt c j = some q) (hd : decode Y.2.1 pc = .ok (.getfield idx, 3)) (h : mv l Y d k (pc + 3) lv (.ref q :: st) M Q) : mv l Y d k pc lv (.ref c :: st) M Q :=
  mv_getV hF hc hsh (fun ad => by unfold mv_fv; rw [hk, hq]; rfl) hd h
theorem mv_getP {c j ci idx : Nat} {dsc : String} {fin : Bool} (q : Nat) (hF : mv_F Y.1.cls idx ci j dsc fin) (hc : c < mv_N) (hsh : mv_sh c = .inl ci) (hk : mv_fk ci j = 3) (hq : M.2.2 c j = some q) (hd : decode Y.2.1 pc = .ok (.getfield idx, 3)) (h : mv l Y d k (pc + 3) lv (.ref q :: st) M Q) : mv l Y d k pc lv (.ref c :: st) M Q :=
  mv_getV hF hc hsh (fun ad => by unfold mv_fv; rw [hk, hq]; rfl) hd h
theorem mv_fset {ad : Nat → Nat} {M' : mv_M} {ci c j : Nat} {v : Value} (hj : mv_fv ad M' ci c j = v) (ho : ∀ i : Nat, i ≠ j → mv_fv ad M' ci c i = mv_fv ad M ci c i) : ((List.range (mv_nf ci)).map (mv_fv ad M ci c)).set j v = (List.range (mv_nf ci)).map (mv_fv ad M' ci c) := by
  refine List.ext_getElem? fun i => ?_
  rw [List.getElem?_set]
  by_cases hi : j = i
  · subst hi
    rw [if_pos rfl]
    by_cases hl : j < mv_nf ci
    · rw [if_pos (by rw [List.length_map, List.length_range]; exact hl), mv_fs hl, hj]
    · rw [if_neg (by rw [List.length_map, List.length_range]; exact hl)]
      exact (List.getElem?_eq_none (by rw [List.length_map, List.length_range]; exact Nat.le_of_not_lt hl)).symm
  · rw [if_neg hi]
    by_cases hl : i < mv_nf ci
    · rw [mv_fs hl, mv_fs hl, ho i (fun q => hi q.symm)]
    · rw [List.getElem?_eq_none (by rw [List.length_map, List.length_range]; exact Nat.le_of_not_lt hl), List.getElem?_eq_none (by rw [List.length_map, List.length_range]; exact Nat.le_of_not_lt hl)]
/-- a field is written -/
theorem mv_putV {M' : mv_M} {c j ci idx : Nat} {dsc : String} {v : Value} {ty : FieldType} (hF : mv_F Y.1.cls idx ci j dsc false) (hc : c < mv_N) (hsh : mv_sh c = .inl ci) (hd0 : parseFieldDescriptor dsc = some ty) (hn : ∀ ad : Nat → Nat, narrow ty (mv_cv ad v) = mv_cv ad v) (hfit : ∀ ad : Nat → Nat, fits ty (mv_cv ad v) = true)
    (hj0 : ∀ ad : Nat → Nat, mv_fv ad M' ci c j = mv_cv ad v) (ho0 : ∀ (ad : Nat → Nat) (i : Nat), i ≠ j → mv_fv ad M' ci c i = mv_fv ad M ci c i) (ho : ∀ (ad : Nat → Nat) (cA : Nat → ClassId) (c' : Nat), c' ≠ c → mv_E ad cA M' c' = mv_E ad cA M c')
    (hsc : ∀ (ad : Nat → Nat) (s : State), mv_scr ad M s → mv_scr ad M' s) (hd : decode Y.2.1 pc = .ok (.putfield idx, 3)) (h : mv l Y d k (pc + 3) lv st M' Q) : mv l Y d k pc lv (v :: .ref c :: st) M Q := by
  intro p e R s m args below meth c0 H locs cells slots ls ad cA dC dI kk ss hm hf hP hS hR hl
  obtain ⟨C, F, N, ⟨hcl, hin, ⟨ty0, hty⟩, hnm, hnf⟩, hj, rfl, hfin, hlk⟩ := hF
  have he : (mv_ws ad cA M)[c]? = some (ad c, .inr (ci, (List.range (mv_nf ci)).map (mv_fv ad M ci c))) := by rw [mv_ws_at hc, mv_obj hsh]
  have hlen : j < ((List.range (mv_nf ci)).map (mv_fv ad M ci c)).length := by rw [List.length_map, List.length_range, hnf]; exact hj
  have hset : (mv_ws ad cA M).set c (ad c, .inr (ci, ((List.range (mv_nf ci)).map (mv_fv ad M ci c)).set j (mv_cv ad v))) = mv_ws ad cA M' := by
    refine mv_ws_set ?_ (ho ad cA)
    rw [mv_obj hsh, mv_fset (M := M) (M' := M') (hj0 ad) (ho0 ad)]
  rcases hlk with hlk | ⟨host, hlk⟩
  · refine va_put (rest := st.map (mv_cv ad)) hm.1 hm.2.1 hm.2.2.2.2.2.2.2 hin ty0 hty hnm hm.2.2.2.2.1 hf.1 hP.1 (mv_D hf.2.1 M) hS c he hcl j hj (hm.2.2.2.2.2.2.2 _ hlk) (fun _ z => z) hfin hd0 (hn ad) (hfit ad) hlen hd (fun H1 locs1 hP1 _ hS1 => ?_)
    rw [hset] at hP1
    exact h p e R s m args below meth c0 H1 locs1 cells slots ls ad cA dC dI kk ss hm hf ⟨hP1, hsc ad s hP.2⟩ hS1 hR hl
  · refine va_putN (rest := st.map (mv_cv ad)) hm.1 hm.2.1 hm.2.2.2.2.2.2.2 hin ty0 hty hnm hm.2.2.2.2.1 hf.1 hP.1 (mv_D hf.2.1 M) hS c he hcl j hj (va_Nw.use rfl (hf.2.2.1 _ hlk)) (fun _ z => z) hfin hd0 (hn ad) (hfit ad) hlen hd (fun H1 locs1 hP1 _ hS1 => ?_)
    rw [hset] at hP1
    exact h p e R s m args below meth c0 H1 locs1 cells slots ls ad cA dC dI kk ss hm hf ⟨hP1, hsc ad s hP.2⟩ hS1 hR hl
theorem mv_up_at {α : Type} {f : Nat → Nat → α} {c k : Nat} {v : α} : mv_up f c k v c k = v := by
  unfold mv_up
  rw [if_pos ⟨rfl, rfl⟩]
theorem mv_up_nk {α : Type} {f : Nat → Nat → α} {c k k' c' : Nat} {v : α} (h : k' ≠ k) : mv_up f c k v c' k' = f c' k' := by
  unfold mv_up
  rw [if_neg (fun q => h q.2)]
theorem mv_fv_si {ad : Nat → Nat} {ci c j i : Nat} {x : Int32} (h : i ≠ j) : mv_fv ad (mv_si M c j x) ci c i = mv_fv ad M ci c i := by
  unfold mv_fv mv_si
  dsimp only
  rw [mv_up_nk h]
theorem mv_fv_sl {ad : Nat → Nat} {ci c j i : Nat} {x : Int64} (h : i ≠ j) : mv_fv ad (mv_sl M c j x) ci c i = mv_fv ad M ci c i := by
  unfold mv_fv mv_sl
  dsimp only
  rw [mv_up_nk h]
theorem mv_fv_sr {ad : Nat → Nat} {ci c j i : Nat} {x : Option Nat} (h : i ≠ j) : mv_fv ad (mv_sr M c j x) ci c i = mv_fv ad M ci c i := by
  unfold mv_fv mv_sr
  dsimp only
  rw [mv_up_nk h]
theorem mv_putI {c j ci idx : Nat} {x : Int32} (hF : mv_F Y.1.cls idx ci j "I" false) (hc : c < mv_N) (hsh : mv_sh c = .inl ci) (hk : mv_fk ci j = 0) (hd : decode Y.2.1 pc = .ok (.putfield idx, 3)) (h : ∀ M' : mv_M, M' = mv_si M c j x → mv l Y d k (pc + 3) lv st M' Q) : mv l Y d k pc lv (.int x :: .ref c :: st) M Q :=
  mv_putV (M' := mv_si M c j x) (ty := .int) hF hc hsh (by decide) (fun _ => rfl) (fun _ => rfl) (fun ad => by unfold mv_fv mv_si; rw [hk]; exact congrArg Value.int mv_up_at) (fun ad i hi => mv_fv_si hi) (fun ad cA => mv_E_si) (fun _ _ z => mv_scr_si hc z) hd (h _ rfl)
theorem mv_bit {x : Int32} (hx : x = 0 ∨ x = 1) : narrow .boolean (.int x) = .int x ∧ fits .boolean (.int x) = true := by
  rcases hx with rfl | rfl
  · exact ⟨by decide, by decide⟩
  · exact ⟨by decide, by decide⟩
theorem mv_putZ {c j ci idx : Nat} {x : Int32} (hF : mv_F Y.1.cls idx ci j "Z" false) (hx : x = 0 ∨ x = 1) (hc : c < mv_N) (hsh : mv_sh c = .inl ci) (hk : mv_fk ci j = 0) (hd : decode Y.2.1 pc = .ok (.putfield idx, 3)) (h : ∀ M' : mv_M, M' = mv_si M c j x → mv l Y d k (pc + 3) lv st M' Q) : mv l Y d k pc lv (.int x :: .ref c :: st) M Q :=
  mv_putV (M' := mv_si M c j x) (ty := .boolean) hF hc hsh (by decide) (fun _ => (mv_bit hx).1) (fun _ => (mv_bit hx).2) (fun ad => by unfold mv_fv mv_si; rw [hk]; exact congrArg Value.int mv_up_at) (fun ad i hi => mv_fv_si hi) (fun ad cA => mv_E_si) (fun _ _ z => mv_scr_si hc z) hd (h _ rfl)
theorem mv_putL {c j ci idx : Nat} {x : Int64} (hF : mv_F Y.1.cls idx ci j "J" false) (hc : c < mv_N) (hsh : mv_sh c = .inl ci) (hk : mv_fk ci j = 1) (hd : decode Y.2.1 pc = .ok (.putfield idx, 3)) (h : ∀ M' : mv_M, M' = mv_sl M c j x → mv l Y d k (pc + 3) lv st M' Q) : mv l Y d k pc lv (.long x :: .ref c :: st) M Q :=
  mv_putV (M' := mv_sl M c j x) (ty := .long) hF hc hsh (by decide) (fun _ => rfl) (fun _ => rfl) (fun ad => by unfold mv_fv mv_sl; rw [hk]; exact congrArg Value.long mv_up_at) (fun ad i hi => mv_fv_sl hi) (fun ad cA => mv_E_sl) (fun _ _ z => z) hd (h _ rfl)
theorem mv_putR {c j ci idx q : Nat} (hF : mv_F Y.1.cls idx ci j "LStrictProofs$Program;" false) (hc : c < mv_N) (hsh : mv_sh c = .inl ci) (hk : mv_fk ci j = 3) (hd : decode Y.2.1 pc = .ok (.putfield idx, 3)) (h : ∀ M' : mv_M, M' = mv_sr M c j (some q) → mv l Y d k (pc + 3) lv st M' Q) : mv l Y d k pc lv (.ref q :: .ref c :: st) M Q :=
  mv_putV (M' := mv_sr M c j (some q)) (ty := .object "StrictProofs$Program") hF hc hsh (by decide +kernel) (fun _ => rfl) (fun _ => rfl) (fun ad => by unfold mv_fv mv_sr; rw [hk]; exact congrArg (mv_rv ad) mv_up_at) (fun ad i hi => mv_fv_sr hi) (fun ad cA => mv_E_sr) (fun _ _ z => mv_scr_sr hc z) hd (h _ rfl)

theorem mv_ai {ad : Nat → Nat} {cA : Nat → ClassId} {c n : Nat} (hc : c < mv_N) (hsh : mv_sh c = .inr (0, n)) : (mv_ws ad cA M)[c]? = some (ad c, .inl (cA 0, n, .inl (M.1 c))) := by
  rw [mv_ws_at hc]
  unfold mv_E
  rw [hsh]
  rfl
theorem mv_ild {c n : Nat} {i : Int32} (hc : c < mv_N) (hsh : mv_sh c = .inr (0, n)) (hi : vp_in i n) (hd : decode Y.2.1 pc = .ok (.iaload, 1)) (h : mv l Y d k (pc + 1) lv (.int (M.1 c i.toNatClampNeg) :: st) M Q) : mv l Y d k pc lv (.int i :: .ref c :: st) M Q := by
  intro p e R s m args below meth c0 H locs cells slots ls ad cA dC dI kk ss hm hf hP hS hR hl
  exact va_iald (rest := st.map (mv_cv ad)) hm.1 hm.2.1 hf.1 hP.1 c 0 (mv_ai hc hsh) rfl hi hd (h p e R s m args below meth c0 H locs cells slots ls ad cA dC dI kk ss hm hf hP hS hR hl)
theorem mv_ist {c n : Nat} {i : Int32} {x : Int32} (hc : c < mv_N) (hsh : mv_sh c = .inr (0, n)) (hi : vp_in i n) (hd : decode Y.2.1 pc = .ok (.iastore, 1)) (h : ∀ M' : mv_M, M' = mv_si M c i.toNatClampNeg (x) → mv l Y d k (pc + 1) lv st M' Q) : mv l Y d k pc lv (.int x :: .int i :: .ref c :: st) M Q := by
  intro p e R s m args below meth c0 H locs cells slots ls ad cA dC dI kk ss hm hf hP hS hR hl
  refine va_iast (rest := st.map (mv_cv ad)) hm.1 hm.2.1 hf.1 hP.1 (mv_D hf.2.1 M) hS c 0 (mv_ai hc hsh) rfl hi hd (fun H1 locs1 hP1 _ hS1 => ?_)
  have hset : (mv_ws ad cA M).set c (ad c, .inl (cA 0, n, .inl (upd (M.1 c) i.toNatClampNeg (x)))) = mv_ws ad cA (mv_si M c i.toNatClampNeg (x)) := by
    refine mv_ws_set ?_ (mv_E_si)
    have e1 := mv_ai (M := mv_si M c i.toNatClampNeg (x)) (ad := ad) (cA := cA) hc hsh
    rw [mv_ws_at hc] at e1
    have e2 := congrArg Prod.snd (Option.some.inj e1)
    refine e2.trans ?_
    refine congrArg (fun f => (Sum.inl (cA 0, n, Sum.inl f) : va_E)) (funext fun j => ?_)
    show mv_up _ c _ _ c j = upd _ _ _ j
    unfold mv_up upd
    by_cases hj : j = i.toNatClampNeg
    · rw [if_pos ⟨rfl, hj⟩, if_pos hj]
    · rw [if_neg (fun z => hj z.2), if_neg hj]
  rw [hset] at hP1
  exact h _ rfl p e R s m args below meth c0 H1 locs1 cells slots ls ad cA dC dI kk ss hm hf ⟨hP1, mv_scr_si hc hP.2⟩ hS1 hR hl
theorem mv_al {ad : Nat → Nat} {cA : Nat → ClassId} {c n : Nat} (hc : c < mv_N) (hsh : mv_sh c = .inr (1, n)) : (mv_ws ad cA M)[c]? = some (ad c, .inl (cA 1, n, .inr (.inl (M.2.1 c)))) := by
  rw [mv_ws_at hc]
  unfold mv_E
  rw [hsh]
  rfl
theorem mv_lld {c n : Nat} {i : Int32} (hc : c < mv_N) (hsh : mv_sh c = .inr (1, n)) (hi : vp_in i n) (hd : decode Y.2.1 pc = .ok (.laload, 1)) (h : mv l Y d k (pc + 1) lv (.long (M.2.1 c i.toNatClampNeg) :: st) M Q) : mv l Y d k pc lv (.int i :: .ref c :: st) M Q := by
  intro p e R s m args below meth c0 H locs cells slots ls ad cA dC dI kk ss hm hf hP hS hR hl
  exact va_lald (rest := st.map (mv_cv ad)) hm.1 hm.2.1 hf.1 hP.1 c 1 (mv_al hc hsh) rfl hi hd (h p e R s m args below meth c0 H locs cells slots ls ad cA dC dI kk ss hm hf hP hS hR hl)
theorem mv_lst {c n : Nat} {i : Int32} {x : Int64} (hc : c < mv_N) (hsh : mv_sh c = .inr (1, n)) (hi : vp_in i n) (hd : decode Y.2.1 pc = .ok (.lastore, 1)) (h : ∀ M' : mv_M, M' = mv_sl M c i.toNatClampNeg (x) → mv l Y d k (pc + 1) lv st M' Q) : mv l Y d k pc lv (.long x :: .int i :: .ref c :: st) M Q := by
  intro p e R s m args below meth c0 H locs cells slots ls ad cA dC dI kk ss hm hf hP hS hR hl
  refine va_last (rest := st.map (mv_cv ad)) hm.1 hm.2.1 hf.1 hP.1 (mv_D hf.2.1 M) hS c 1 (mv_al hc hsh) rfl hi hd (fun H1 locs1 hP1 _ hS1 => ?_)
  have hset : (mv_ws ad cA M).set c (ad c, .inl (cA 1, n, .inr (.inl (vp_updL (M.2.1 c) i.toNatClampNeg (x))))) = mv_ws ad cA (mv_sl M c i.toNatClampNeg (x)) := by
    refine mv_ws_set ?_ (mv_E_sl)
    have e1 := mv_al (M := mv_sl M c i.toNatClampNeg (x)) (ad := ad) (cA := cA) hc hsh
    rw [mv_ws_at hc] at e1
    have e2 := congrArg Prod.snd (Option.some.inj e1)
    refine e2.trans ?_
    refine congrArg (fun f => (Sum.inl (cA 1, n, Sum.inr (Sum.inl f)) : va_E)) (funext fun j => ?_)
    show mv_up _ c _ _ c j = vp_updL _ _ _ j
    unfold mv_up vp_updL
    by_cases hj : j = i.toNatClampNeg
    · rw [if_pos ⟨rfl, hj⟩, if_pos hj]
    · rw [if_neg (fun z => hj z.2), if_neg hj]
  rw [hset] at hP1
  exact h _ rfl p e R s m args below meth c0 H1 locs1 cells slots ls ad cA dC dI kk ss hm hf ⟨hP1, mv_scr_sl hP.2⟩ hS1 hR hl
theorem mv_ab {ad : Nat → Nat} {cA : Nat → ClassId} {c n : Nat} (hc : c < mv_N) (hsh : mv_sh c = .inr (2, n)) : (mv_ws ad cA M)[c]? = some (ad c, .inl (cA 2, n, .inl (M.1 c))) := by
  rw [mv_ws_at hc]
  unfold mv_E
  rw [hsh]
  rfl
theorem mv_bld {c n : Nat} {i : Int32} (hc : c < mv_N) (hsh : mv_sh c = .inr (2, n)) (hi : vp_in i n) (hd : decode Y.2.1 pc = .ok (.baload, 1)) (h : mv l Y d k (pc + 1) lv (.int (M.1 c i.toNatClampNeg) :: st) M Q) : mv l Y d k pc lv (.int i :: .ref c :: st) M Q := by
  intro p e R s m args below meth c0 H locs cells slots ls ad cA dC dI kk ss hm hf hP hS hR hl
  exact va_bald (rest := st.map (mv_cv ad)) hm.1 hm.2.1 hf.1 hP.1 c 2 (mv_ab hc hsh) rfl hi hd (h p e R s m args below meth c0 H locs cells slots ls ad cA dC dI kk ss hm hf hP hS hR hl)
theorem mv_bst {c n : Nat} {i : Int32} {x : Int32} (hc : c < mv_N) (hsh : mv_sh c = .inr (2, n)) (hi : vp_in i n) (hd : decode Y.2.1 pc = .ok (.bastore, 1)) (h : ∀ M' : mv_M, M' = mv_si M c i.toNatClampNeg (vp_nar .byte x) → mv l Y d k (pc + 1) lv st M' Q) : mv l Y d k pc lv (.int x :: .int i :: .ref c :: st) M Q := by
  intro p e R s m args below meth c0 H locs cells slots ls ad cA dC dI kk ss hm hf hP hS hR hl
  refine va_bast (rest := st.map (mv_cv ad)) hm.1 hm.2.1 hf.1 hP.1 (mv_D hf.2.1 M) hS c 2 (mv_ab hc hsh) rfl hi hd (fun H1 locs1 hP1 _ hS1 => ?_)
  have hset : (mv_ws ad cA M).set c (ad c, .inl (cA 2, n, .inl (upd (M.1 c) i.toNatClampNeg (vp_nar .byte x)))) = mv_ws ad cA (mv_si M c i.toNatClampNeg (vp_nar .byte x)) := by
    refine mv_ws_set ?_ (mv_E_si)
    have e1 := mv_ab (M := mv_si M c i.toNatClampNeg (vp_nar .byte x)) (ad := ad) (cA := cA) hc hsh
    rw [mv_ws_at hc] at e1
    have e2 := congrArg Prod.snd (Option.some.inj e1)
    refine e2.trans ?_
    refine congrArg (fun f => (Sum.inl (cA 2, n, Sum.inl f) : va_E)) (funext fun j => ?_)
    show mv_up _ c _ _ c j = upd _ _ _ j
    unfold mv_up upd
    by_cases hj : j = i.toNatClampNeg
    · rw [if_pos ⟨rfl, hj⟩, if_pos hj]
    · rw [if_neg (fun z => hj z.2), if_neg hj]
  rw [hset] at hP1
  exact h _ rfl p e R s m args below meth c0 H1 locs1 cells slots ls ad cA dC dI kk ss hm hf ⟨hP1, mv_scr_si hc hP.2⟩ hS1 hR hl
theorem mv_az {ad : Nat → Nat} {cA : Nat → ClassId} {c n : Nat} (hc : c < mv_N) (hsh : mv_sh c = .inr (3, n)) : (mv_ws ad cA M)[c]? = some (ad c, .inl (cA 3, n, .inl (M.1 c))) := by
  rw [mv_ws_at hc]
  unfold mv_E
  rw [hsh]
  rfl
theorem mv_zld {c n : Nat} {i : Int32} (hc : c < mv_N) (hsh : mv_sh c = .inr (3, n)) (hi : vp_in i n) (hd : decode Y.2.1 pc = .ok (.baload, 1)) (h : mv l Y d k (pc + 1) lv (.int (M.1 c i.toNatClampNeg) :: st) M Q) : mv l Y d k pc lv (.int i :: .ref c :: st) M Q := by
  intro p e R s m args below meth c0 H locs cells slots ls ad cA dC dI kk ss hm hf hP hS hR hl
  exact va_zald (rest := st.map (mv_cv ad)) hm.1 hm.2.1 hf.1 hP.1 c 3 (mv_az hc hsh) rfl hi hd (h p e R s m args below meth c0 H locs cells slots ls ad cA dC dI kk ss hm hf hP hS hR hl)
theorem mv_zst {c n : Nat} {i : Int32} {x : Int32} (hc : c < mv_N) (hsh : mv_sh c = .inr (3, n)) (hi : vp_in i n) (hd : decode Y.2.1 pc = .ok (.bastore, 1)) (h : ∀ M' : mv_M, M' = mv_si M c i.toNatClampNeg (vp_nar .boolean x) → mv l Y d k (pc + 1) lv st M' Q) : mv l Y d k pc lv (.int x :: .int i :: .ref c :: st) M Q := by
  intro p e R s m args below meth c0 H locs cells slots ls ad cA dC dI kk ss hm hf hP hS hR hl
  refine va_zast (rest := st.map (mv_cv ad)) hm.1 hm.2.1 hf.1 hP.1 (mv_D hf.2.1 M) hS c 3 (mv_az hc hsh) rfl hi hd (fun H1 locs1 hP1 _ hS1 => ?_)
  have hset : (mv_ws ad cA M).set c (ad c, .inl (cA 3, n, .inl (upd (M.1 c) i.toNatClampNeg (vp_nar .boolean x)))) = mv_ws ad cA (mv_si M c i.toNatClampNeg (vp_nar .boolean x)) := by
    refine mv_ws_set ?_ (mv_E_si)
    have e1 := mv_az (M := mv_si M c i.toNatClampNeg (vp_nar .boolean x)) (ad := ad) (cA := cA) hc hsh
    rw [mv_ws_at hc] at e1
    have e2 := congrArg Prod.snd (Option.some.inj e1)
    refine e2.trans ?_
    refine congrArg (fun f => (Sum.inl (cA 3, n, Sum.inl f) : va_E)) (funext fun j => ?_)
    show mv_up _ c _ _ c j = upd _ _ _ j
    unfold mv_up upd
    by_cases hj : j = i.toNatClampNeg
    · rw [if_pos ⟨rfl, hj⟩, if_pos hj]
    · rw [if_neg (fun z => hj z.2), if_neg hj]
  rw [hset] at hP1
  exact h _ rfl p e R s m args below meth c0 H1 locs1 cells slots ls ad cA dC dI kk ss hm hf ⟨hP1, mv_scr_si hc hP.2⟩ hS1 hR hl
end MVH
