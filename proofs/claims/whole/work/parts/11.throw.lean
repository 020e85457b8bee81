section MVT
variable {l : Launch} {Y : mv_Y} {d k pc : Nat} {lv : List (Nat × Value)} {st : List Value} {M : mv_M} {Q : mv_R → mv_M → Prop}
/-- an exception that a class of the world throws: its words -/
def mv_Th (own : String) (ik ic : Nat) (cls : String) (names : List String) : Prop := (Bundle.fit cls = true ∧ ∀ n ∈ names, Bundle.fit n = true) ∧ Cond.classLink own ik cls ∈ mv_T ∧ Cond.initialized cls ∈ mv_T ∧ ∀ w ∈ vx_atS own ic cls names, w ∈ mv_T ∨ w ∈ mv_NW
theorem mv_nwT {w : Cond} (h : w ∈ mv_NW) : w.onTables = true := by
  have hn := (List.mem_filter.mp h).2
  cases w <;> first | rfl | (exact absurd hn (by simp [mv_nest]))
theorem mv_ot {w : Cond} (h : w ∈ mv_T) : vx_ot w = true := by
  unfold vx_ot
  rw [(List.mem_filter.mp h).2, Bool.or_true]
theorem mv_throw {cls text : String} {names : List String} {ik is ic : Nat} (hl : l.stackTraces = false) (hT : mv_Th Y.1.cls ik ic cls names) (hstr : Cond.stringRef Y.1.cls is text ∈ mv_ST)
    (d0 : decode Y.2.1 pc = .ok (.new ik, 3)) (d3 : decode Y.2.1 (pc + 3) = .ok (.dup, 1)) (d4 : decode Y.2.1 (pc + 4) = .ok (.ldc is, 2)) (d6 : decode Y.2.1 (pc + 6) = .ok (.invokespecial ic, 3)) (d9 : decode Y.2.1 (pc + 9) = .ok (.athrow, 1))
    (hh : Y.2.2.2.2 = []) (hn : names.length ≤ 3) (hd : 7 ≤ d) (hk : 1 ≤ k) (hroom : (st.map fun v => v.category).sum ≤ 8) (hQ : Q (.inr cls) M) : mv l Y d k pc lv st M Q := by
  intro p e R s m args below meth c0 H locs cells slots ls ad cA dC dI kk ss hm hf hP hS hR hlv
  obtain ⟨r1, r2, r3, r4, r5, r6⟩ := hR
  obtain ⟨⟨t1, t2⟩, t3, t4, t5⟩ := hT
  obtain ⟨sa, hsa⟩ := hf.2.2.2.1.2.2.2.1 _ _ _ hstr
  have hrm : ((st.map (mv_cv ad)).map fun v => v.category).sum ≤ 8 := by
    rw [List.map_map]
    exact (congrArg (fun f => (st.map f).sum) (funext fun v => mv_ctg ad v) : _ = (st.map fun v => v.category).sum) ▸ hroom
  exact vx_throwS (A := mv_A ad s.heap.size) hm.1 hm.2.1 hl hm.2.2.2.2.1 t1 t2 (hm.2.2.2.2.2.2.2 _ t3) (hm.2.2.2.2.2.2.2 _ t4) hsa (fun w hw => (t5 w hw).elim (fun z => hm.2.2.2.2.2.2.2 _ z) (fun z => va_Nw.use (mv_nwT z) (hf.2.2.1 w z)))
    (fun w hw => by
      rcases List.mem_cons.mp hw with rfl | hw
      · exact mv_ot t3
      · rcases List.mem_cons.mp hw with rfl | hw
        · exact mv_ot t4
        · rcases t5 w hw with z | z
          · exact mv_ot z
          · unfold vx_ot
            rw [mv_nwT z, Bool.true_or])
    hf.2.2.2.1.2.2.1.1 hf.2.2.2.1.2.2.1.2 hS (hlv.1.trans hm.2.2.2.1.symm) d0 d3 d4 d6 d9 (fun x hx => by rw [hm.2.2.2.2.2.2.1, hh] at hx; cases hx)
    (by omega) (by omega) (by omega) (by omega) hm.2.2.2.2.2.1
    (fun t hvm hz hk2 => ⟨⟨M, hQ, fun i q hi => (hP.1 i q hi).kept (hk2 q.1 (hP.1 i q hi).lt), mv_scr_to hP.2 hvm ((hk2 _ (Nat.lt_of_lt_of_le hf.2.2.2.2.1 hS.1)).trans (hS.2.1 _ hf.2.2.2.2.1 (mv_notA hf)))⟩, Nat.le_trans hS.1 hz, fun q hq hnA => (hk2 q (Nat.lt_of_lt_of_le hq hS.1)).trans (hS.2.1 q hq hnA)⟩)
    hS.2.2 (by omega) (by omega)
theorem mv_throwW {cls text : String} {names : List String} {ik is ic : Nat} (hl : l.stackTraces = false) (hT : mv_Th Y.1.cls ik ic cls names) (hstr : Cond.stringRef Y.1.cls is text ∈ mv_ST)
    (d0 : decode Y.2.1 pc = .ok (.new ik, 3)) (d3 : decode Y.2.1 (pc + 3) = .ok (.dup, 1)) (d4 : decode Y.2.1 (pc + 4) = .ok (.ldc_w is, 3)) (d6 : decode Y.2.1 (pc + 7) = .ok (.invokespecial ic, 3)) (d9 : decode Y.2.1 (pc + 10) = .ok (.athrow, 1))
    (hh : Y.2.2.2.2 = []) (hn : names.length ≤ 3) (hd : 7 ≤ d) (hk : 1 ≤ k) (hroom : (st.map fun v => v.category).sum ≤ 8) (hQ : Q (.inr cls) M) : mv l Y d k pc lv st M Q := by
  intro p e R s m args below meth c0 H locs cells slots ls ad cA dC dI kk ss hm hf hP hS hR hlv
  obtain ⟨r1, r2, r3, r4, r5, r6⟩ := hR
  obtain ⟨⟨t1, t2⟩, t3, t4, t5⟩ := hT
  obtain ⟨sa, hsa⟩ := hf.2.2.2.1.2.2.2.1 _ _ _ hstr
  have hrm : ((st.map (mv_cv ad)).map fun v => v.category).sum ≤ 8 := by
    rw [List.map_map]
    exact (congrArg (fun f => (st.map f).sum) (funext fun v => mv_ctg ad v) : _ = (st.map fun v => v.category).sum) ▸ hroom
  exact vx_throwSW (A := mv_A ad s.heap.size) hm.1 hm.2.1 hl hm.2.2.2.2.1 t1 t2 (hm.2.2.2.2.2.2.2 _ t3) (hm.2.2.2.2.2.2.2 _ t4) hsa (fun w hw => (t5 w hw).elim (fun z => hm.2.2.2.2.2.2.2 _ z) (fun z => va_Nw.use (mv_nwT z) (hf.2.2.1 w z)))
    (fun w hw => by
      rcases List.mem_cons.mp hw with rfl | hw
      · exact mv_ot t3
      · rcases List.mem_cons.mp hw with rfl | hw
        · exact mv_ot t4
        · rcases t5 w hw with z | z
          · exact mv_ot z
          · unfold vx_ot
            rw [mv_nwT z, Bool.true_or])
    hf.2.2.2.1.2.2.1.1 hf.2.2.2.1.2.2.1.2 hS (hlv.1.trans hm.2.2.2.1.symm) d0 d3 d4 d6 d9 (fun x hx => by rw [hm.2.2.2.2.2.2.1, hh] at hx; cases hx)
    (by omega) (by omega) (by omega) (by omega) hm.2.2.2.2.2.1
    (fun t hvm hz hk2 => ⟨⟨M, hQ, fun i q hi => (hP.1 i q hi).kept (hk2 q.1 (hP.1 i q hi).lt), mv_scr_to hP.2 hvm ((hk2 _ (Nat.lt_of_lt_of_le hf.2.2.2.2.1 hS.1)).trans (hS.2.1 _ hf.2.2.2.2.1 (mv_notA hf)))⟩, Nat.le_trans hS.1 hz, fun q hq hnA => (hk2 q (Nat.lt_of_lt_of_le hq hS.1)).trans (hS.2.1 q hq hnA)⟩)
    hS.2.2 (by omega) (by omega)
def mv_xI (Q : Int32 ⊕ String → mv_M → Prop) : mv_R → mv_M → Prop := fun r M => (∃ x : Int32, r = .inl (some (.int x)) ∧ Q (.inl x) M) ∨ ∃ E : String, r = .inr E ∧ Q (.inr E) M
def mv_xV (Q : Unit ⊕ String → mv_M → Prop) : mv_R → mv_M → Prop := fun r M => (r = .inl none ∧ Q (.inl ()) M) ∨ ∃ E : String, r = .inr E ∧ Q (.inr E) M
def mv_bindx {α β : Type} (o : Option ((α ⊕ String) × mv_M)) (f : α → mv_M → Option ((β ⊕ String) × mv_M)) : Option ((β ⊕ String) × mv_M) := match o with
  | some (.inl a, M) => f a M
  | some (.inr E, M) => some (.inr E, M)
  | none => none
theorem mv_bindxE {α β : Type} {o : Option ((α ⊕ String) × mv_M)} {f : α → mv_M → Option ((β ⊕ String) × mv_M)} {Q : β ⊕ String → mv_M → Prop} (h : mv_ok (mv_bindx o f) Q) : mv_ok o (fun r M => (∀ a, r = .inl a → mv_ok (f a M) Q) ∧ ∀ E, r = .inr E → Q (.inr E) M) := by
  match o, h with
  | none, h => exact h
  | some (.inl a, M), h =>
    refine ⟨fun b e => ?_, fun E e => ?_⟩
    · cases e
      exact h
    · cases e
  | some (.inr E, M), h =>
    refine ⟨fun b e => ?_, fun E2 e => ?_⟩
    · cases e
    · cases e
      exact h
theorem mv_cvx {Y' : mv_Y} {d' idx b n ci N : Nat} {F : u_T} {As st0 : List Value} {Qc : Unit ⊕ String → mv_M → Prop} (hV : mv_MV Y' n) (hlk : Cond.methodLink Y.1.cls idx Y'.1 ∈ mv_T) (hb : b < mv_N) (hsh : mv_sh b = .inl ci) (hcl : vwCl[ci]? = some (Y'.1.cls, F, N)) (hn : As.length = n) (hlen : (lg_sl (.ref b :: As)).length ≤ Y'.2.2.1) (hst : st0 = As.reverse ++ .ref b :: st) (hroom : (st.map fun v => v.category).sum ≤ 8) (hd : decode Y.2.1 pc = .ok (.invokevirtual idx, 3)) (hdd : d' + 1 ≤ d) (hh : Y.2.2.2.2 = [])
    (hc : mv l Y' d' 1 0 (lv_args 0 (.ref b :: As)) [] M (mv_xV Qc)) (hx : ∀ E M', Qc (.inr E) M' → Q (.inr E) M') (h : ∀ M', Qc (.inl ()) M' → mv l Y d k (pc + 3) lv st M' Q) : mv l Y d (k + 1) pc lv st0 M Q :=
  mv_callV (k' := 1) (k2 := k) hV hlk hb hsh hcl hn hlen hst hroom hd hdd (by omega) hh hc (fun E M' hq => by
    rcases hq with ⟨e1, -⟩ | ⟨E2, e1, hq⟩
    · cases e1
    · cases e1
      exact hx E M' hq) (fun v M' hq => by
    rcases hq with ⟨e1, hq⟩ | ⟨E2, e1, hq⟩
    · cases e1
      exact h M' hq
    · cases e1)
end MVT
theorem sX10_76 : Cond.stringRef RX10 76 "no room on the tape" ∈ mv_ST := mv_s4 7 rfl rfl
set_option maxRecDepth 100000 in
theorem hX10_74_at : (vx_atS RX10 78 "java/lang/IllegalStateException" ["java/lang/RuntimeException", "java/lang/Exception"]).all (fun w => decide (w ∈ lw_tbl) && (goodWord w || mv_nest w)) = true := by decide +kernel
theorem hX10_74 : mv_Th RX10 74 78 "java/lang/IllegalStateException" ["java/lang/RuntimeException", "java/lang/Exception"] := ⟨⟨by decide +kernel, by decide +kernel⟩, mv_t3 205 rfl rfl, mv_t1 15 rfl rfl, fun w hw => by
  have h1 := List.all_eq_true.mp hX10_74_at w hw
  simp only [Bool.and_eq_true, Bool.or_eq_true, decide_eq_true_eq] at h1
  exact h1.2.elim (fun z => Or.inl (List.mem_filter.mpr ⟨h1.1, z⟩)) (fun z => Or.inr (List.mem_filter.mpr ⟨h1.1, z⟩))⟩
theorem sX10_87 : Cond.stringRef RX10 87 "the tape has not so many bytes" ∈ mv_ST := mv_s4 54 rfl rfl
set_option maxRecDepth 100000 in
theorem hX10_85_at : (vx_atS RX10 89 "java/lang/IllegalArgumentException" ["java/lang/RuntimeException", "java/lang/Exception"]).all (fun w => decide (w ∈ lw_tbl) && (goodWord w || mv_nest w)) = true := by decide +kernel
theorem hX10_85 : mv_Th RX10 85 89 "java/lang/IllegalArgumentException" ["java/lang/RuntimeException", "java/lang/Exception"] := ⟨⟨by decide +kernel, by decide +kernel⟩, mv_t4 45 rfl rfl, mv_t1 16 rfl rfl, fun w hw => by
  have h1 := List.all_eq_true.mp hX10_85_at w hw
  simp only [Bool.and_eq_true, Bool.or_eq_true, decide_eq_true_eq] at h1
  exact h1.2.elim (fun z => Or.inl (List.mem_filter.mpr ⟨h1.1, z⟩)) (fun z => Or.inr (List.mem_filter.mpr ⟨h1.1, z⟩))⟩
theorem sX10_126 : Cond.stringRef RX10 126 "nothing is told there" ∈ mv_ST := mv_s4 83 rfl rfl
set_option maxRecDepth 100000 in
theorem hX10_124_at : (vx_atS RX10 128 "java/lang/IndexOutOfBoundsException" ["java/lang/RuntimeException", "java/lang/Exception"]).all (fun w => decide (w ∈ lw_tbl) && (goodWord w || mv_nest w)) = true := by decide +kernel
theorem hX10_124 : mv_Th RX10 124 128 "java/lang/IndexOutOfBoundsException" ["java/lang/RuntimeException", "java/lang/Exception"] := ⟨⟨by decide +kernel, by decide +kernel⟩, mv_t4 74 rfl rfl, mv_t1 18 rfl rfl, fun w hw => by
  have h1 := List.all_eq_true.mp hX10_124_at w hw
  simp only [Bool.and_eq_true, Bool.or_eq_true, decide_eq_true_eq] at h1
  exact h1.2.elim (fun z => Or.inl (List.mem_filter.mpr ⟨h1.1, z⟩)) (fun z => Or.inr (List.mem_filter.mpr ⟨h1.1, z⟩))⟩
theorem sX10_149 : Cond.stringRef RX10 149 "no program" ∈ mv_ST := mv_s4 103 rfl rfl
theorem sX10_172 : Cond.stringRef RX10 172 "no such demand" ∈ mv_ST := mv_s6 31 rfl rfl
theorem sX10_182 : Cond.stringRef RX10 182 "no such kind of input" ∈ mv_ST := mv_s6 58 rfl rfl
theorem sX10_187 : Cond.stringRef RX10 187 "no room for an input" ∈ mv_ST := mv_s6 59 rfl rfl
theorem sX10_192 : Cond.stringRef RX10 192 "not so many steps" ∈ mv_ST := mv_s6 71 rfl rfl
theorem sX10_198 : Cond.stringRef RX10 198 "not the inputs that the parameters want" ∈ mv_ST := mv_s6 83 rfl rfl
theorem sX10_237 : Cond.stringRef RX10 237 "no number there" ∈ mv_ST := mv_s6 237 rfl rfl
theorem sX10_245 : Cond.stringRef RX10 245 "no such parameter was run" ∈ mv_ST := mv_s7 9 rfl rfl
theorem sX10_254 : Cond.stringRef RX10 254 "no rounds yet" ∈ mv_ST := mv_s5 237 rfl rfl
theorem sX10_256 : Cond.stringRef RX10 256 "no such row" ∈ mv_ST := mv_s6 2 rfl rfl
theorem sX10_258 : Cond.stringRef RX10 258 "no such parameter" ∈ mv_ST := mv_s6 15 rfl rfl
