/-! THE PURE FUNCTIONS. A method is a function of its arguments and the memory: none where the machine would throw by itself. 'mv_ok o Q': o is there, and Q holds of it. -/
def mv_let {α β : Type} (v : α) (f : α → β) : β := f v
def mv_ok {α : Type} (o : Option (α × mv_M)) (Q : α → mv_M → Prop) : Prop := match o with
  | some r => Q r.1 r.2
  | none => False
def mv_bind {α β : Type} (o : Option (α × mv_M)) (f : α → mv_M → Option (β × mv_M)) : Option (β × mv_M) := match o with
  | some r => f r.1 r.2
  | none => none
def mv_chk {β : Type} (b : Bool) (o : Option β) : Option β := match b with
  | true => o
  | false => none
def mv_inb (i : Int32) (n : Nat) : Bool := !(decide (i < 0)) && decide (i.toNatClampNeg < n)
def mv_nz (i : Int32) : Bool := !(decide (i = 0))
def mv_bt (i : Int32) : Bool := decide (i = 0) || decide (i = 1)
def mv_getp {β : Type} (o : Option Nat) (f : Nat → Option β) : Option β := match o with
  | some b => mv_chk (decide (b = 9) || decide (b = 24)) (f b)
  | none => none
theorem mv_letE {α β : Type} {v : α} {f : α → Option (β × mv_M)} {Q : β → mv_M → Prop} (h : mv_ok (mv_let v f) Q) : ∀ x, x = v → mv_ok (f x) Q := fun x e => by
  subst e
  exact h
theorem mv_ifT {β : Type} {c : Prop} [Decidable c] {a b : Option (β × mv_M)} {Q : β → mv_M → Prop} (z : c) (h : mv_ok (if c then a else b) Q) : mv_ok a Q := by
  rw [if_pos z] at h
  exact h
theorem mv_ifF {β : Type} {c : Prop} [Decidable c] {a b : Option (β × mv_M)} {Q : β → mv_M → Prop} (z : ¬ c) (h : mv_ok (if c then a else b) Q) : mv_ok b Q := by
  rw [if_neg z] at h
  exact h
theorem mv_bindE {α β : Type} {o : Option (α × mv_M)} {f : α → mv_M → Option (β × mv_M)} {Q : β → mv_M → Prop} (h : mv_ok (mv_bind o f) Q) : mv_ok o (fun r M => mv_ok (f r M) Q) := by
  cases o with
  | none => exact h
  | some r => exact h
theorem mv_chkE {β : Type} {b : Bool} {o : Option (β × mv_M)} {Q : β → mv_M → Prop} (h : mv_ok (mv_chk b o) Q) : b = true ∧ mv_ok o Q := by
  cases b with
  | true => exact ⟨rfl, h⟩
  | false => exact h.elim
theorem mv_inE {i : Int32} {n : Nat} (h : mv_inb i n = true) : vp_in i n := by
  unfold mv_inb at h
  unfold vp_in
  simp only [Bool.and_eq_true, Bool.not_eq_true', decide_eq_false_iff_not, decide_eq_true_eq] at h
  intro q
  rcases q with q | q
  · exact h.1 q
  · omega
theorem mv_nzE {i : Int32} (h : mv_nz i = true) : ¬ i = 0 := by
  unfold mv_nz at h
  simpa using h
theorem mv_btE {i : Int32} (h : mv_bt i = true) : i = 0 ∨ i = 1 := by
  unfold mv_bt at h
  simpa using h
theorem mv_getpE {β : Type} {o : Option Nat} {f : Nat → Option (β × mv_M)} {Q : β → mv_M → Prop} (h : mv_ok (mv_getp o f) Q) : ∃ b, o = some b ∧ (b = 9 ∨ b = 24) ∧ mv_ok (f b) Q := by
  cases o with
  | none => exact h.elim
  | some b =>
    obtain ⟨h1, h2⟩ := mv_chkE h
    exact ⟨b, rfl, by simpa using h1, h2⟩
def mv_qI (Q : Int32 → mv_M → Prop) : mv_R → mv_M → Prop := fun r M => ∃ x : Int32, r = .inl (some (.int x)) ∧ Q x M
def mv_qL (Q : Int64 → mv_M → Prop) : mv_R → mv_M → Prop := fun r M => ∃ x : Int64, r = .inl (some (.long x)) ∧ Q x M
def mv_qV (Q : Unit → mv_M → Prop) : mv_R → mv_M → Prop := fun r M => r = .inl none ∧ Q () M
/-- a loop: its body again and again, until it leaves it (.inr) -/
def mv_it {σ τ : Type} (g : σ → mv_M → Option ((σ ⊕ τ) × mv_M)) : Nat → σ → mv_M → Option (τ × mv_M)
  | 0, _, _ => none
  | n + 1, s, M => match g s M with
    | some (.inl s', M') => mv_it g n s' M'
    | some (.inr t, M') => some (t, M')
    | none => none
noncomputable def mv_loop {σ τ : Type} (g : σ → mv_M → Option ((σ ⊕ τ) × mv_M)) (s : σ) (M : mv_M) : Option (τ × mv_M) := mv_it g (Classical.epsilon (fun n => (mv_it g n s M).isSome = true)) s M
def mv_pq {σ τ : Type} (A : σ → mv_M → Prop) (B : τ → mv_M → Prop) : σ ⊕ τ → mv_M → Prop := fun t M => match t with
  | .inl s => A s M
  | .inr t => B t M
def mv_inr {σ τ : Type} (o : Option (τ × mv_M)) : Option ((σ ⊕ τ) × mv_M) := match o with
  | some r => some (.inr r.1, r.2)
  | none => none
theorem mv_inrE {σ τ : Type} {o : Option (τ × mv_M)} {A : σ → mv_M → Prop} {B : τ → mv_M → Prop} (h : mv_ok (mv_inr (σ := σ) o) (mv_pq A B)) : mv_ok o B := by
  cases o with
  | none => exact h
  | some r => exact h
theorem mv_itE {σ τ : Type} {g : σ → mv_M → Option ((σ ⊕ τ) × mv_M)} {A : σ → mv_M → Prop} {B : τ → mv_M → Prop} (step : ∀ s M, mv_ok (g s M) (mv_pq A B) → A s M) : ∀ n s M, mv_ok (mv_it g n s M) B → A s M := by
  intro n
  induction n with
  | zero =>
    intro s M h
    exact False.elim h
  | succ n ih =>
    intro s M h
    refine step s M ?_
    rw [mv_it] at h
    match hg : g s M with
    | none => rw [hg] at h; exact False.elim h
    | some (.inl s', M') => rw [hg] at h; exact ih s' M' h
    | some (.inr t, M') => rw [hg] at h; exact h
theorem mv_loopE {σ τ : Type} {g : σ → mv_M → Option ((σ ⊕ τ) × mv_M)} {A : σ → mv_M → Prop} {B : τ → mv_M → Prop} (step : ∀ s M, mv_ok (g s M) (mv_pq A B) → A s M) (s : σ) (M : mv_M) (h : mv_ok (mv_loop g s M) B) : A s M := mv_itE step _ s M h
theorem mv_it_mono {σ τ : Type} {g : σ → mv_M → Option ((σ ⊕ τ) × mv_M)} : ∀ (n : Nat) (s : σ) (M : mv_M) (r : τ × mv_M), mv_it g n s M = some r → ∀ k, mv_it g (n + k) s M = some r := by
  intro n
  induction n with
  | zero =>
    intro s M r h
    cases h
  | succ n ih =>
    intro s M r h k
    rw [show n + 1 + k = (n + k) + 1 by omega]
    rw [mv_it] at h ⊢
    match hg : g s M with
    | none => rw [hg] at h; cases h
    | some (.inl s', M') => rw [hg] at h; exact ih s' M' r h k
    | some (.inr t, M') => rw [hg] at h; exact h
theorem mv_loop_of {σ τ : Type} {g : σ → mv_M → Option ((σ ⊕ τ) × mv_M)} {n : Nat} {s : σ} {M : mv_M} {r : τ × mv_M} (h : mv_it g n s M = some r) : mv_loop g s M = some r := by
  have h1 : (mv_it g (Classical.epsilon (fun n => (mv_it g n s M).isSome = true)) s M).isSome = true := Classical.epsilon_spec (p := fun n => (mv_it g n s M).isSome = true) ⟨n, by rw [h]; rfl⟩
  unfold mv_loop
  generalize Classical.epsilon (fun n => (mv_it g n s M).isSome = true) = m at h1 ⊢
  cases h2 : mv_it g m s M with
  | none => rw [h2] at h1; cases h1
  | some r2 =>
    have h3 := mv_it_mono n s M r h m
    have h4 := mv_it_mono m s M r2 h2 n
    rw [Nat.add_comm] at h4
    exact h4.symm.trans h3
theorem mv_loop_none {σ τ : Type} {g : σ → mv_M → Option ((σ ⊕ τ) × mv_M)} {s : σ} {M : mv_M} (h : ∀ n, mv_it g n s M = none) : mv_loop g s M = none := h _
/-- one turn of a loop -/
theorem mv_loop_eq {σ τ : Type} (g : σ → mv_M → Option ((σ ⊕ τ) × mv_M)) (s : σ) (M : mv_M) : mv_loop g s M = match g s M with
    | some (.inl s', M') => mv_loop g s' M'
    | some (.inr t, M') => some (t, M')
    | none => none := by
  match hg : g s M with
  | none => exact mv_loop_none fun n => by cases n with
    | zero => rfl
    | succ n => rw [mv_it, hg]
  | some (.inr t, M') => exact mv_loop_of (n := 1) (by rw [mv_it, hg])
  | some (.inl s', M') =>
    show mv_loop g s M = mv_loop g s' M'
    cases h2 : mv_loop g s' M' with
    | some r => exact mv_loop_of (n := _ + 1) (by rw [mv_it, hg]; exact h2)
    | none =>
      refine mv_loop_none fun n => ?_
      cases n with
      | zero => rfl
      | succ n =>
        rw [mv_it, hg]
        show mv_it g n s' M' = none
        cases h3 : mv_it g n s' M' with
        | none => rfl
        | some r => rw [mv_loop_of h3] at h2; cases h2
/-- a loop by an invariant and a measure -/
theorem mv_loop_inv {σ τ : Type} {g : σ → mv_M → Option ((σ ⊕ τ) × mv_M)} {Q : τ → mv_M → Prop} (I : σ → mv_M → Prop) (μ : σ → mv_M → Nat) (hs : ∀ s M, I s M → mv_ok (g s M) (fun t M' => match t with
    | .inl s' => I s' M' ∧ μ s' M' < μ s M
    | .inr t => Q t M')) : ∀ s M, I s M → mv_ok (mv_loop g s M) Q := by
  have key : ∀ (k : Nat) (s : σ) (M : mv_M), μ s M < k → I s M → mv_ok (mv_loop g s M) Q := by
    intro k
    induction k with
    | zero =>
      intro s M h
      exact absurd h (Nat.not_lt_zero _)
    | succ k ih =>
      intro s M hk hI
      have h1 := hs s M hI
      rw [mv_loop_eq]
      match hg : g s M with
      | none => rw [hg] at h1; exact h1
      | some (.inl s', M') =>
        rw [hg] at h1
        exact ih s' M' (Nat.lt_of_lt_of_le h1.2 (Nat.le_of_lt_succ hk)) h1.1
      | some (.inr t, M') => rw [hg] at h1; exact h1
  exact fun s M hI => key _ s M (Nat.lt_succ_self _) hI
section MVF
variable {l : Launch} {Y : mv_Y} {d k pc : Nat} {lv : List (Nat × Value)} {st : List Value} {M : mv_M} {Q : mv_R → mv_M → Prop}
theorem mv_sub (ks : List Nat) {lv' : List (Nat × Value)} (hk : lv_pick lv ks = lv') (h : mv l Y d k pc lv' st M Q) : mv l Y d k pc lv st M Q := by
  intro p e R s m args below meth c0 H locs cells slots ls ad cA dC dI kk ss hm hf hP hS hR hl
  refine h p e R s m args below meth c0 H locs cells slots ls ad cA dC dI kk ss hm hf hP hS hR ?_
  subst hk
  refine lv_sub hl ks ?_
  unfold lv_pick mv_cl
  rw [List.map_filterMap]
  congr 1
  funext j
  rw [List.getElem?_map]

theorem mv_cvI {Y' : mv_Y} {d' idx b n ci N : Nat} {F : u_T} {As st0 : List Value} {Qc : Int32 → mv_M → Prop} (hV : mv_MV Y' n) (hlk : Cond.methodLink Y.1.cls idx Y'.1 ∈ mv_T) (hb : b < mv_N) (hsh : mv_sh b = .inl ci) (hcl : vwCl[ci]? = some (Y'.1.cls, F, N)) (hn : As.length = n) (hlen : (lg_sl (.ref b :: As)).length ≤ Y'.2.2.1) (hst : st0 = As.reverse ++ .ref b :: st) (hroom : (st.map fun v => v.category).sum ≤ 8) (hd : decode Y.2.1 pc = .ok (.invokevirtual idx, 3)) (hdd : d' + 1 ≤ d) (hh : Y.2.2.2.2 = [])
    (hc : mv l Y' d' 0 0 (lv_args 0 (.ref b :: As)) [] M (mv_qI Qc)) (h : ∀ r M', Qc r M' → mv l Y d k (pc + 3) lv (.int r :: st) M' Q) : mv l Y d k pc lv st0 M Q :=
  mv_callV (k2 := k) hV hlk hb hsh hcl hn hlen hst hroom hd hdd (by omega) hh hc (fun E M' hq => by
    obtain ⟨x, e1, -⟩ := hq
    cases e1) (fun v M' hq => by
    obtain ⟨x, e1, hq⟩ := hq
    cases e1
    exact h x M' hq)
theorem mv_csI {Y' : mv_Y} {d' idx n : Nat} {As st0 : List Value} {Qc : Int32 → mv_M → Prop} (hV : mv_MS Y' n) (hlk : Cond.methodLink Y.1.cls idx Y'.1 ∈ mv_T) (hn : As.length = n) (hlen : (lg_sl As).length ≤ Y'.2.2.1) (hst : st0 = As.reverse ++ st) (hroom : (st.map fun v => v.category).sum ≤ 8) (hd : decode Y.2.1 pc = .ok (.invokestatic idx, 3)) (hdd : d' + 1 ≤ d) (hh : Y.2.2.2.2 = [])
    (hc : mv l Y' d' 0 0 (lv_args 0 As) [] M (mv_qI Qc)) (h : ∀ r M', Qc r M' → mv l Y d k (pc + 3) lv (.int r :: st) M' Q) : mv l Y d k pc lv st0 M Q :=
  mv_callS (k2 := k) hV hlk hn hlen hst hroom hd hdd (by omega) hh hc (fun E M' hq => by
    obtain ⟨x, e1, -⟩ := hq
    cases e1) (fun v M' hq => by
    obtain ⟨x, e1, hq⟩ := hq
    cases e1
    exact h x M' hq)
theorem mv_cvL {Y' : mv_Y} {d' idx b n ci N : Nat} {F : u_T} {As st0 : List Value} {Qc : Int64 → mv_M → Prop} (hV : mv_MV Y' n) (hlk : Cond.methodLink Y.1.cls idx Y'.1 ∈ mv_T) (hb : b < mv_N) (hsh : mv_sh b = .inl ci) (hcl : vwCl[ci]? = some (Y'.1.cls, F, N)) (hn : As.length = n) (hlen : (lg_sl (.ref b :: As)).length ≤ Y'.2.2.1) (hst : st0 = As.reverse ++ .ref b :: st) (hroom : (st.map fun v => v.category).sum ≤ 8) (hd : decode Y.2.1 pc = .ok (.invokevirtual idx, 3)) (hdd : d' + 1 ≤ d) (hh : Y.2.2.2.2 = [])
    (hc : mv l Y' d' 0 0 (lv_args 0 (.ref b :: As)) [] M (mv_qL Qc)) (h : ∀ r M', Qc r M' → mv l Y d k (pc + 3) lv (.long r :: st) M' Q) : mv l Y d k pc lv st0 M Q :=
  mv_callV (k2 := k) hV hlk hb hsh hcl hn hlen hst hroom hd hdd (by omega) hh hc (fun E M' hq => by
    obtain ⟨x, e1, -⟩ := hq
    cases e1) (fun v M' hq => by
    obtain ⟨x, e1, hq⟩ := hq
    cases e1
    exact h x M' hq)
theorem mv_csL {Y' : mv_Y} {d' idx n : Nat} {As st0 : List Value} {Qc : Int64 → mv_M → Prop} (hV : mv_MS Y' n) (hlk : Cond.methodLink Y.1.cls idx Y'.1 ∈ mv_T) (hn : As.length = n) (hlen : (lg_sl As).length ≤ Y'.2.2.1) (hst : st0 = As.reverse ++ st) (hroom : (st.map fun v => v.category).sum ≤ 8) (hd : decode Y.2.1 pc = .ok (.invokestatic idx, 3)) (hdd : d' + 1 ≤ d) (hh : Y.2.2.2.2 = [])
    (hc : mv l Y' d' 0 0 (lv_args 0 As) [] M (mv_qL Qc)) (h : ∀ r M', Qc r M' → mv l Y d k (pc + 3) lv (.long r :: st) M' Q) : mv l Y d k pc lv st0 M Q :=
  mv_callS (k2 := k) hV hlk hn hlen hst hroom hd hdd (by omega) hh hc (fun E M' hq => by
    obtain ⟨x, e1, -⟩ := hq
    cases e1) (fun v M' hq => by
    obtain ⟨x, e1, hq⟩ := hq
    cases e1
    exact h x M' hq)
theorem mv_cvV {Y' : mv_Y} {d' idx b n ci N : Nat} {F : u_T} {As st0 : List Value} {Qc : Unit → mv_M → Prop} (hV : mv_MV Y' n) (hlk : Cond.methodLink Y.1.cls idx Y'.1 ∈ mv_T) (hb : b < mv_N) (hsh : mv_sh b = .inl ci) (hcl : vwCl[ci]? = some (Y'.1.cls, F, N)) (hn : As.length = n) (hlen : (lg_sl (.ref b :: As)).length ≤ Y'.2.2.1) (hst : st0 = As.reverse ++ .ref b :: st) (hroom : (st.map fun v => v.category).sum ≤ 8) (hd : decode Y.2.1 pc = .ok (.invokevirtual idx, 3)) (hdd : d' + 1 ≤ d) (hh : Y.2.2.2.2 = [])
    (hc : mv l Y' d' 0 0 (lv_args 0 (.ref b :: As)) [] M (mv_qV Qc)) (h : ∀ r M', Qc r M' → mv l Y d k (pc + 3) lv (st) M' Q) : mv l Y d k pc lv st0 M Q :=
  mv_callV (k2 := k) hV hlk hb hsh hcl hn hlen hst hroom hd hdd (by omega) hh hc (fun E M' hq => by
    obtain ⟨e1, -⟩ := hq
    cases e1) (fun v M' hq => by
    obtain ⟨e1, hq⟩ := hq
    cases e1
    exact h () M' hq)
theorem mv_csV {Y' : mv_Y} {d' idx n : Nat} {As st0 : List Value} {Qc : Unit → mv_M → Prop} (hV : mv_MS Y' n) (hlk : Cond.methodLink Y.1.cls idx Y'.1 ∈ mv_T) (hn : As.length = n) (hlen : (lg_sl As).length ≤ Y'.2.2.1) (hst : st0 = As.reverse ++ st) (hroom : (st.map fun v => v.category).sum ≤ 8) (hd : decode Y.2.1 pc = .ok (.invokestatic idx, 3)) (hdd : d' + 1 ≤ d) (hh : Y.2.2.2.2 = [])
    (hc : mv l Y' d' 0 0 (lv_args 0 As) [] M (mv_qV Qc)) (h : ∀ r M', Qc r M' → mv l Y d k (pc + 3) lv (st) M' Q) : mv l Y d k pc lv st0 M Q :=
  mv_callS (k2 := k) hV hlk hn hlen hst hroom hd hdd (by omega) hh hc (fun E M' hq => by
    obtain ⟨e1, -⟩ := hq
    cases e1) (fun v M' hq => by
    obtain ⟨e1, hq⟩ := hq
    cases e1
    exact h () M' hq)
theorem mv_mx1 : Cond.static Lib.Math.max.name ∈ mv_T := mv_t4 198 rfl rfl
theorem mv_mx2 : Cond.initialized "java/lang/Math" ∈ mv_T := mv_t1 25 rfl rfl
theorem mv_mx3 : Cond.code Lib.Math.max.name Lib.Math.max.code 2 (some .int) ∈ mv_T := mv_t4 199 rfl rfl
theorem mv_mmax {idx : Nat} {x y : Int32} (hlk : Cond.methodLink Y.1.cls idx Lib.Math.max.name ∈ mv_T) (hd1 : 1 ≤ d) (hroom : (st.map fun v => v.category).sum ≤ 8) (hd : decode Y.2.1 pc = .ok (.invokestatic idx, 3)) (h : mv l Y d k (pc + 3) lv (.int (if x < y then y else x) :: st) M Q) : mv l Y d k pc lv (.int y :: .int x :: st) M Q := by
  intro p e R s m args below meth c0 H locs cells slots ls ad cA dC dI kk ss hm hf hP hS hR hl
  obtain ⟨r1, r2, r3, r4, r5, r6⟩ := id hR
  have hrm : ((st.map (mv_cv ad)).map fun v => v.category).sum ≤ 8 := by
    rw [List.map_map]
    exact (congrArg (fun f => (st.map f).sum) (funext fun v => mv_ctg ad v) : _ = (st.map fun v => v.category).sum) ▸ hroom
  exact va_mmax (rest := st.map (mv_cv ad)) hm.1 hm.2.1 (hm.2.2.2.1.trans hl.1.symm) hm.2.2.2.2.1 (hm.2.2.2.2.2.2.2 _ hlk) (hm.2.2.2.2.2.2.2 _ mv_mx1) (hm.2.2.2.2.2.2.2 _ mv_mx2) (hm.2.2.2.2.2.2.2 _ mv_mx3) (by omega) (by omega) (by omega) (by omega) hd (h p e R s m args below meth c0 H locs cells slots ls ad cA dC dI kk ss hm hf hP hS hR hl)
end MVF
theorem mv_swc {a o v : Int} {r : List (Int × Int)} {dd : Int} (h : v = a) : Op.lookupswitch.offset ((a, o) :: r) dd v = o := by
  rw [Op.lookupswitch.offset_cons, if_pos h.symm]
theorem mv_swn {a o v : Int} {r : List (Int × Int)} {dd w : Int} (h : ¬ v = a) (h2 : Op.lookupswitch.offset r dd v = w) : Op.lookupswitch.offset ((a, o) :: r) dd v = w := by
  rw [Op.lookupswitch.offset_cons, if_neg (fun q => h q.symm)]
  exact h2
theorem mv_ne {x : Int32} (a : Int32) {v : Int} (hv : a.toInt = v) (h : ¬ x = a) : ¬ x.toInt = v := fun q => h (Int32.toInt_inj.mp (q.trans hv.symm))
theorem mv_eqv {x a : Int32} {v : Int} (h : x = a) (hv : a.toInt = v) : x.toInt = v := by
  rw [h]
  exact hv
theorem mv_dec {x v : Int32} (c : Int32) {n : Int} (hn : Int32.ofInt n = -c) (hv : v = x - c) : x + Int32.ofInt n = v := by
  rw [hv, hn, Int32.sub_eq_add_neg]
theorem mv_pN {b t : Nat} (hb : b = 9 ∨ b = 24) (ht : t < 15) : b + t < mv_N := by
  unfold mv_N
  omega
