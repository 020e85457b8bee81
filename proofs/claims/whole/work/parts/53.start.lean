theorem lyJ0_0 : u_lay RJ0 TJ0 0 ∈ mv_T := mv_t5 135 rfl rfl
theorem lyJ0_1 : u_lay RJ0 TJ0 1 ∈ mv_T := mv_t5 137 rfl rfl
theorem lyJ0_2 : u_lay RJ0 TJ0 2 ∈ mv_T := mv_t5 139 rfl rfl
theorem lyJ0_3 : u_lay RJ0 TJ0 3 ∈ mv_T := mv_t5 141 rfl rfl
theorem lwJ0 : ∀ w ∈ u_ws RJ0 TJ0 4, w ∈ mv_T := by
  show ∀ w ∈ [u_lay RJ0 TJ0 0, u_lay RJ0 TJ0 1, u_lay RJ0 TJ0 2, u_lay RJ0 TJ0 3], w ∈ mv_T
  exact List.forall_mem_cons.mpr ⟨lyJ0_0, List.forall_mem_cons.mpr ⟨lyJ0_1, List.forall_mem_cons.mpr ⟨lyJ0_2, List.forall_mem_cons.mpr ⟨lyJ0_3, fun _ h => absurd h List.not_mem_nil⟩⟩⟩⟩
theorem lyJ4_0 : u_lay RJ4 TJ4 0 ∈ mv_T := mv_t4 165 rfl rfl
theorem lyJ4_1 : u_lay RJ4 TJ4 1 ∈ mv_T := mv_t4 167 rfl rfl
theorem lyJ4_2 : u_lay RJ4 TJ4 2 ∈ mv_T := mv_t4 169 rfl rfl
theorem lyJ4_3 : u_lay RJ4 TJ4 3 ∈ mv_T := mv_t4 171 rfl rfl
theorem lwJ4 : ∀ w ∈ u_ws RJ4 TJ4 4, w ∈ mv_T := by
  show ∀ w ∈ [u_lay RJ4 TJ4 0, u_lay RJ4 TJ4 1, u_lay RJ4 TJ4 2, u_lay RJ4 TJ4 3], w ∈ mv_T
  exact List.forall_mem_cons.mpr ⟨lyJ4_0, List.forall_mem_cons.mpr ⟨lyJ4_1, List.forall_mem_cons.mpr ⟨lyJ4_2, List.forall_mem_cons.mpr ⟨lyJ4_3, fun _ h => absurd h List.not_mem_nil⟩⟩⟩⟩
theorem lyJx00060_0 : u_lay RJx00060 TJx00060 0 ∈ mv_T := mv_t5 150 rfl rfl
theorem lyJx00060_1 : u_lay RJx00060 TJx00060 1 ∈ mv_T := mv_t5 151 rfl rfl
theorem lyJx00060_2 : u_lay RJx00060 TJx00060 2 ∈ mv_T := mv_t5 152 rfl rfl
theorem lyJx00060_3 : u_lay RJx00060 TJx00060 3 ∈ mv_T := mv_t5 153 rfl rfl
theorem lyJx00060_4 : u_lay RJx00060 TJx00060 4 ∈ mv_T := mv_t5 154 rfl rfl
theorem lyJx00060_5 : u_lay RJx00060 TJx00060 5 ∈ mv_T := mv_t5 165 rfl rfl
theorem lwJx00060 : ∀ w ∈ u_ws RJx00060 TJx00060 6, w ∈ mv_T := by
  show ∀ w ∈ [u_lay RJx00060 TJx00060 0, u_lay RJx00060 TJx00060 1, u_lay RJx00060 TJx00060 2, u_lay RJx00060 TJx00060 3, u_lay RJx00060 TJx00060 4, u_lay RJx00060 TJx00060 5], w ∈ mv_T
  exact List.forall_mem_cons.mpr ⟨lyJx00060_0, List.forall_mem_cons.mpr ⟨lyJx00060_1, List.forall_mem_cons.mpr ⟨lyJx00060_2, List.forall_mem_cons.mpr ⟨lyJx00060_3, List.forall_mem_cons.mpr ⟨lyJx00060_4, List.forall_mem_cons.mpr ⟨lyJx00060_5, fun _ h => absurd h List.not_mem_nil⟩⟩⟩⟩⟩⟩
theorem st_arr {s : State} {args : Array Value} {ty : FieldType} (h : (Cond.arrayClass ty).before args s = true) : ∃ cB : ClassId, s.vm.findClass ("[" ++ ty.toString) = some cB ∧ ArrOfT s cB ty := by
  obtain ⟨cB, kA, comp, h1, h2, h3⟩ := Cond.arrayClass_spec h
  exact ⟨cB, h1, fun n z => ⟨fun k h => (by cases h), kA, h2, comp, h3⟩⟩
theorem st_cA {s : State} {args : Array Value} (hts : ∀ w ∈ mv_T, w.before args s = true) : ∃ cA : Nat → ClassId, ∀ (k : Nat) (q : ClassId × FieldType), (mv_tys cA)[k]? = some q → ArrOfT s q.1 q.2 ∧ va_RA s q.1 q.2 := by
  obtain ⟨c0, a0, b0⟩ := st_arr (hts _ ka_int)
  obtain ⟨c1, a1, b1⟩ := st_arr (hts _ ka_long)
  obtain ⟨c2, a2, b2⟩ := st_arr (hts _ ka_byte)
  obtain ⟨c3, a3, b3⟩ := st_arr (hts _ ka_boolean)
  refine ⟨fun k => if k = 0 then c0 else if k = 1 then c1 else if k = 2 then c2 else c3, ?_⟩
  intro k q hq
  match k, hq with
  | 0, hq => cases hq; exact ⟨b0, a0⟩
  | 1, hq => cases hq; exact ⟨b1, a1⟩
  | 2, hq => cases hq; exact ⟨b2, a2⟩
  | 3, hq => cases hq; exact ⟨b3, a3⟩
  | k + 4, hq => cases hq
theorem st_K {s : State} {args : Array Value} (hts : ∀ w ∈ mv_T, w.before args s = true) : ∃ (dC : Nat → ClassId) (dI : Nat → Nat → Nat), ∀ (k : Nat) (q : vw_C), vwCl[k]? = some q → u_Kn s q.1 q.2.1 q.2.2 (dC k) (dI k) := by
  obtain ⟨c0, i0, k0⟩ := u_known (C := RJ0) (T := TJ0) (N := 4) (n := 4) hts lwJ0 (hts (.instantiable RJ0 4) (mv_t5 87 rfl rfl))
  obtain ⟨c1, i1, k1⟩ := u_known (C := RJ4) (T := TJ4) (N := 4) (n := 4) hts lwJ4 (hts (.instantiable RJ4 4) (mv_t4 144 rfl rfl))
  obtain ⟨c2, i2, k2⟩ := u_known (C := RJx00060) (T := TJx00060) (N := 6) (n := 6) hts lwJx00060 (hts (.instantiable RJx00060 6) (mv_t5 145 rfl rfl))
  obtain ⟨c3, i3, k3⟩ := u_known (C := RX0) (T := TX0) (N := 2) (n := 2) hts lwX0 (hts (.instantiable RX0 2) (mv_t1 40 rfl rfl))
  obtain ⟨c4, i4, k4⟩ := u_known (C := RX1) (T := TX1) (N := 3) (n := 3) hts lwX1 (hts (.instantiable RX1 3) (mv_t1 164 rfl rfl))
  obtain ⟨c5, i5, k5⟩ := u_known (C := RX2) (T := TX2) (N := 16) (n := 16) hts lwX2 (hts (.instantiable RX2 16) (mv_t1 184 rfl rfl))
  obtain ⟨c6, i6, k6⟩ := u_known (C := RX3) (T := TX3) (N := 5) (n := 5) hts lwX3 (hts (.instantiable RX3 5) (mv_t1 87 rfl rfl))
  obtain ⟨c7, i7, k7⟩ := u_known (C := RX4) (T := TX4) (N := 16) (n := 16) hts lwX4 (hts (.instantiable RX4 16) (mv_t2 48 rfl rfl))
  obtain ⟨c8, i8, k8⟩ := u_known (C := RX5) (T := TX5) (N := 7) (n := 7) hts lwX5 (hts (.instantiable RX5 7) (mv_t1 134 rfl rfl))
  obtain ⟨c9, i9, k9⟩ := u_known (C := RX7) (T := TX7) (N := 9) (n := 9) hts lwX7 (hts (.instantiable RX7 9) (mv_t1 190 rfl rfl))
  obtain ⟨c10, i10, k10⟩ := u_known (C := RX8) (T := TX8) (N := 6) (n := 6) hts lwX8 (hts (.instantiable RX8 6) (mv_t1 57 rfl rfl))
  obtain ⟨c11, i11, k11⟩ := u_known (C := RX9) (T := TX9) (N := 6) (n := 6) hts lwX9 (hts (.instantiable RX9 6) (mv_t1 109 rfl rfl))
  obtain ⟨c12, i12, k12⟩ := u_known (C := RX10) (T := TX10) (N := 9) (n := 9) hts lwX10 (hts (.instantiable RX10 9) (mv_t1 32 rfl rfl))
  obtain ⟨c13, i13, k13⟩ := u_known (C := RX11) (T := TX11) (N := 83) (n := 83) hts lwX11 (hts (.instantiable RX11 83) (mv_t7 15 rfl rfl))
  refine ⟨fun k => if k = 0 then c0 else if k = 1 then c1 else if k = 2 then c2 else if k = 3 then c3 else if k = 4 then c4 else if k = 5 then c5 else if k = 6 then c6 else if k = 7 then c7 else if k = 8 then c8 else if k = 9 then c9 else if k = 10 then c10 else if k = 11 then c11 else if k = 12 then c12 else c13, fun k => if k = 0 then i0 else if k = 1 then i1 else if k = 2 then i2 else if k = 3 then i3 else if k = 4 then i4 else if k = 5 then i5 else if k = 6 then i6 else if k = 7 then i7 else if k = 8 then i8 else if k = 9 then i9 else if k = 10 then i10 else if k = 11 then i11 else if k = 12 then i12 else i13, ?_⟩
  intro k q hq
  match k, hq with
  | 0, hq => cases hq; exact k0
  | 1, hq => cases hq; exact k1
  | 2, hq => cases hq; exact k2
  | 3, hq => cases hq; exact k3
  | 4, hq => cases hq; exact k4
  | 5, hq => cases hq; exact k5
  | 6, hq => cases hq; exact k6
  | 7, hq => cases hq; exact k7
  | 8, hq => cases hq; exact k8
  | 9, hq => cases hq; exact k9
  | 10, hq => cases hq; exact k10
  | 11, hq => cases hq; exact k11
  | 12, hq => cases hq; exact k12
  | 13, hq => cases hq; exact k13
  | k + 14, hq => simp [vwCl] at hq
theorem st_str {s : State} {args : Array Value} {own tx : String} {k : Nat} (h : (Cond.stringRef own k tx).before args s = true) : ∃ a : Nat, vk_R own k tx a s := by
  cases hc : s.vm.findClass own with
  | none => simp [Cond.before, Cond.holds, Cond.value, hc] at h
  | some cur =>
    obtain ⟨_, _, _, a, -, -, -, -, -, he⟩ := Cond.stringRef_spec hc h
    exact ⟨a, vk_R.of h he⟩
set_option maxRecDepth 100000 in
theorem st_W {s : State} {args : Array Value} (hts : ∀ w ∈ lw_tbl, w.before args s = true) (hgv : (Jvm.Cond.and given_1 narrow_1).before args s = true) : ∃ t : Nat, ∀ A : Nat → Prop, (∀ a : Nat, a < s.heap.size → ¬ A a) → va_Z "StrictProofs" "WORDS" "[J" (.ref t) A s s.heap ∧ va_T .long t 9 (fun k => .long (mv_words k)) A s s.heap := by
  have h := flat_of_before _ hgv
  have hel : ∀ j : Nat, j < 9 → (Term.elem (Term.static "StrictProofs" "WORDS" "[J") (.int (Int32.ofNat j))).eval args s none [] s = some (.long (mv_words j)) := (lt_s (lt_s (lt_s (lt_s (lt_s (lt_s (lt_s (lt_s (lt_s lt_0 (va_eqtl (h (Cond.eq (.elem (Term.static "StrictProofs" "WORDS" "[J") (.int 0)) (.long 7239021)) (by decide +kernel)))) (va_eqtl (h (Cond.eq (.elem (Term.static "StrictProofs" "WORDS" "[J") (.int 1)) (.long 26982)) (by decide +kernel)))) (va_eqtl (h (Cond.eq (.elem (Term.static "StrictProofs" "WORDS" "[J") (.int 2)) (.long 1952998766)) (by decide +kernel)))) (va_eqtl (h (Cond.eq (.elem (Term.static "StrictProofs" "WORDS" "[J") (.int 3)) (.long 1701606245)) (by decide +kernel)))) (va_eqtl (h (Cond.eq (.elem (Term.static "StrictProofs" "WORDS" "[J") (.int 4)) (.long 7103860)) (by decide +kernel)))) (va_eqtl (h (Cond.eq (.elem (Term.static "StrictProofs" "WORDS" "[J") (.int 5)) (.long 26990)) (by decide +kernel)))) (va_eqtl (h (Cond.eq (.elem (Term.static "StrictProofs" "WORDS" "[J") (.int 6)) (.long 1667330917)) (by decide +kernel)))) (va_eqtl (h (Cond.eq (.elem (Term.static "StrictProofs" "WORDS" "[J") (.int 7)) (.long 28518)) (by decide +kernel)))) (va_eqtl (h (Cond.eq (.elem (Term.static "StrictProofs" "WORDS" "[J") (.int 8)) (.long 1717660012)) (by decide +kernel))))
  have ho := fun (A : Nat → Prop) (hA : ∀ a : Nat, a < s.heap.size → ¬ A a) => va_Tof (args := args) (s := s) (tm := (Term.static "StrictProofs" "WORDS" "[J")) (ty := .long) (N := 9) (f := fun k => .long (mv_words k)) (A := A) (by decide) (h _ (by decide +kernel)) (va_eqt (h (Cond.eq (.length (Term.static "StrictProofs" "WORDS" "[J")) (.int 9)) (by decide +kernel))) hel hA
  obtain ⟨t, ht, -⟩ := ho (fun _ => False) (fun _ _ z => z)
  refine ⟨t, fun A hA => ?_⟩
  obtain ⟨t2, ht2, hT⟩ := ho A hA
  cases Option.some.inj (ht.symm.trans ht2)
  exact ⟨va_Zof (hts (.laysStatic "StrictProofs" "WORDS" "[J") (List.mem_append_right _ (mv_q2 (List.mem_of_getElem? (i := 207) rfl)))) (hts (.initialized "StrictProofs") (List.mem_filter.mp (mv_t1 1 rfl rfl)).1) ht hA, hT⟩
set_option maxRecDepth 100000 in
theorem st_D {s : State} {args : Array Value} (hts : ∀ w ∈ lw_tbl, w.before args s = true) (hgv : (Jvm.Cond.and given_1 narrow_1).before args s = true) : ∃ t : Nat, ∀ A : Nat → Prop, (∀ a : Nat, a < s.heap.size → ¬ A a) → va_Z "StrictProofs" "DEMANDS" "[I" (.ref t) A s s.heap ∧ va_T .int t 5 (fun k => .int (mv_dem k)) A s s.heap := by
  have h := flat_of_before _ hgv
  have hel : ∀ j : Nat, j < 5 → (Term.elem (Term.static "StrictProofs" "DEMANDS" "[I") (.int (Int32.ofNat j))).eval args s none [] s = some (.int (mv_dem j)) := (lt_s (lt_s (lt_s (lt_s (lt_s lt_0 (va_eqt (h (Cond.eq (.elem (Term.static "StrictProofs" "DEMANDS" "[I") (.int 0)) (.int 2)) (by decide +kernel)))) (va_eqt (h (Cond.eq (.elem (Term.static "StrictProofs" "DEMANDS" "[I") (.int 1)) (.int 5)) (by decide +kernel)))) (va_eqt (h (Cond.eq (.elem (Term.static "StrictProofs" "DEMANDS" "[I") (.int 2)) (.int 11)) (by decide +kernel)))) (va_eqt (h (Cond.eq (.elem (Term.static "StrictProofs" "DEMANDS" "[I") (.int 3)) (.int 11)) (by decide +kernel)))) (va_eqt (h (Cond.eq (.elem (Term.static "StrictProofs" "DEMANDS" "[I") (.int 4)) (.int 26)) (by decide +kernel))))
  have ho := fun (A : Nat → Prop) (hA : ∀ a : Nat, a < s.heap.size → ¬ A a) => va_Tof (args := args) (s := s) (tm := (Term.static "StrictProofs" "DEMANDS" "[I")) (ty := .int) (N := 5) (f := fun k => .int (mv_dem k)) (A := A) (by decide) (h _ (by decide +kernel)) (va_eqt (h (Cond.eq (.length (Term.static "StrictProofs" "DEMANDS" "[I")) (.int 5)) (by decide +kernel))) hel hA
  obtain ⟨t, ht, -⟩ := ho (fun _ => False) (fun _ _ z => z)
  refine ⟨t, fun A hA => ?_⟩
  obtain ⟨t2, ht2, hT⟩ := ho A hA
  cases Option.some.inj (ht.symm.trans ht2)
  exact ⟨va_Zof (hts (.laysStatic "StrictProofs" "DEMANDS" "[I") (List.mem_append_right _ (mv_q4 (List.mem_of_getElem? (i := 94) rfl)))) (hts (.initialized "StrictProofs") (List.mem_filter.mp (mv_t1 1 rfl rfl)).1) ht hA, hT⟩
set_option maxRecDepth 100000 in
theorem st_T {s : State} {args : Array Value} {A : Nat → Prop} (hts : ∀ w ∈ lw_tbl, w.before args s = true) (hgv : (Jvm.Cond.and given_1 narrow_1).before args s = true) (hA : ∀ a : Nat, a < s.heap.size → ¬ A a) : vx_Zq Bundle.tN "UNASSIGNED_STACK" Bundle.steD A s s.heap ∧ vx_Zq Bundle.tN "SUPPRESSED_SENTINEL" Bundle.listD A s s.heap := by
  have h := flat_of_before _ hgv
  exact ⟨vx_Zqof (hts (.laysStatic Bundle.tN "UNASSIGNED_STACK" Bundle.steD) (List.mem_append_right _ (mv_q3 (List.mem_of_getElem? (i := 232) rfl)))) (hts (.initialized Bundle.tN) (List.mem_filter.mp (mv_t1 12 rfl rfl)).1) (h (.isRef (.static Bundle.tN "UNASSIGNED_STACK" Bundle.steD)) (by decide +kernel)) hA, vx_Zqof (hts (.laysStatic Bundle.tN "SUPPRESSED_SENTINEL" Bundle.listD) (List.mem_append_right _ (mv_q3 (List.mem_of_getElem? (i := 234) rfl)))) (hts (.initialized Bundle.tN) (List.mem_filter.mp (mv_t1 12 rfl rfl)).1) (h (.isRef (.static Bundle.tN "SUPPRESSED_SENTINEL" Bundle.listD)) (by decide +kernel)) hA⟩
set_option maxRecDepth 100000 in
theorem st_N {s : State} {args : Array Value} (hgv : (Jvm.Cond.and given_1 narrow_1).before args s = true) : ∀ q ∈ mv_XP, va_Nc q.1 q.2 s := by
  have h := flat_of_before _ hgv
  exact List.forall_mem_cons.mpr ⟨va_Nc.of (h (.not (.castable mv_e1 mv_e2)) (by decide +kernel)), List.forall_mem_cons.mpr ⟨va_Nc.of (h (.not (.castable mv_e1 mv_e3)) (by decide +kernel)), List.forall_mem_cons.mpr ⟨va_Nc.of (h (.not (.castable mv_e2 mv_e1)) (by decide +kernel)), List.forall_mem_cons.mpr ⟨va_Nc.of (h (.not (.castable mv_e2 mv_e3)) (by decide +kernel)), List.forall_mem_cons.mpr ⟨va_Nc.of (h (.not (.castable mv_e3 mv_e1)) (by decide +kernel)), List.forall_mem_cons.mpr ⟨va_Nc.of (h (.not (.castable mv_e3 mv_e2)) (by decide +kernel)), fun _ w => absurd w List.not_mem_nil⟩⟩⟩⟩⟩⟩
/-- the memory behind the constructors -/
def mv_M0 (L : Nat) (xs : Nat → Int32) : mv_M := (fun c k => if c = 302 then xs k else if c = 1 ∧ k = 1 then (-1) else if c = 7 ∧ k = 1 then (-1) else if c = 62 ∧ k = 10 then (-1) else if c = 62 ∧ k = 75 then (-1) else 0, fun _ _ => 0, fun c k => if c = 302 ∧ k = 0 then some L else if c = 0 ∧ k = 7 then some 9 else if c = 0 ∧ k = 8 then some 24 else none)
def st_ad (b aW aD q0 q1 q2 : Nat) (u v : Nat → Nat) : Nat → Nat := fun c => if c = 300 then aW else if c = 301 then aD else if c = 302 then b else ((q0 :: (u 0) :: (u 1) :: (u 6) :: (u 7) :: (u 9) :: (u 14) :: (u 17) :: (u 18) :: (u 31) :: (u 32) :: (u 33) :: (u 34) :: (u 35) :: (u 36) :: (u 37) :: (u 38) :: (u 39) :: (u 40) :: (u 41) :: (u 42) :: (u 43) :: (u 44) :: (u 45) :: (u 46) :: (u 47) :: (u 48) :: (u 49) :: (u 50) :: (u 51) :: (u 52) :: (u 53) :: (u 54) :: (u 55) :: (u 56) :: (u 57) :: (u 58) :: (u 59) :: (u 60) :: (u 2) :: (u 3) :: (u 4) :: (u 5) :: (u 8) :: (u 10) :: (u 11) :: (u 12) :: (u 13) :: (u 15) :: (u 16) :: (u 26) :: (u 27) :: (u 28) :: (u 29) :: (u 30) :: (u 19) :: (u 20) :: (u 21) :: (u 22) :: (u 23) :: (u 24) :: (u 25) :: q1 :: (v 0) :: (v 1) :: (v 2) :: (v 3) :: (v 4) :: (v 5) :: (v 6) :: (v 7) :: (v 8) :: (v 9) :: (v 10) :: (v 11) :: (v 12) :: (v 13) :: (v 14) :: (v 15) :: (v 16) :: (v 17) :: (v 18) :: (v 19) :: (v 20) :: (v 21) :: (v 22) :: (v 23) :: (v 24) :: (v 25) :: (v 26) :: (v 27) :: (v 28) :: (v 29) :: (v 30) :: (v 31) :: (v 32) :: (v 33) :: (v 34) :: (v 35) :: (v 36) :: (v 37) :: (v 38) :: (v 39) :: (v 40) :: (v 41) :: (v 42) :: q2 :: []) : List Nat).getD c 0
def st_pi : List Nat := (0 :: 1 :: 2 :: 7 :: 8 :: 10 :: 15 :: 18 :: 19 :: 32 :: 33 :: 34 :: 35 :: 36 :: 37 :: 38 :: 39 :: 40 :: 41 :: 42 :: 43 :: 44 :: 45 :: 46 :: 47 :: 48 :: 49 :: 50 :: 51 :: 52 :: 53 :: 54 :: 55 :: 56 :: 57 :: 58 :: 59 :: 60 :: 61 :: 3 :: 4 :: 5 :: 6 :: 9 :: 11 :: 12 :: 13 :: 14 :: 16 :: 17 :: 27 :: 28 :: 29 :: 30 :: 31 :: 20 :: 21 :: 22 :: 23 :: 24 :: 25 :: 26 :: 62 :: 63 :: 64 :: 65 :: 66 :: 67 :: 68 :: 69 :: 70 :: 71 :: 72 :: 73 :: 74 :: 75 :: 76 :: 77 :: 78 :: 79 :: 80 :: 81 :: 82 :: 83 :: 84 :: 85 :: 86 :: 87 :: 88 :: 89 :: 90 :: 91 :: 92 :: 93 :: 94 :: 95 :: 96 :: 97 :: 98 :: 99 :: 100 :: 101 :: 102 :: 103 :: 104 :: 105 :: 106 :: [])
def st_ws (cA : Nat → ClassId) (q0 q1 q2 : Nat) (u v : Nat → Nat) : va_W := buX10_init cA q0 u ++ buX11_init cA q1 v ++ [(q2, .inl (cA 1, (1, .inr (.inl (fun _ => 0)))))]
section ST
variable {b aW aD q0 q1 q2 : Nat} {u v : Nat → Nat} {cA : Nat → ClassId} {Ls : Nat} {xs : Nat → Int32}
set_option maxRecDepth 100000 in
theorem st_c0 : (st_ws cA q0 q1 q2 u v)[st_pi.getD 0 0]? = some (st_ad b aW aD q0 q1 q2 u v 0, mv_E (st_ad b aW aD q0 q1 q2 u v) cA (mv_M0 Ls xs) 0) := rfl
set_option maxRecDepth 100000 in
theorem st_c1 : (st_ws cA q0 q1 q2 u v)[st_pi.getD 1 0]? = some (st_ad b aW aD q0 q1 q2 u v 1, mv_E (st_ad b aW aD q0 q1 q2 u v) cA (mv_M0 Ls xs) 1) := rfl
set_option maxRecDepth 100000 in
theorem st_c2 : (st_ws cA q0 q1 q2 u v)[st_pi.getD 2 0]? = some (st_ad b aW aD q0 q1 q2 u v 2, mv_E (st_ad b aW aD q0 q1 q2 u v) cA (mv_M0 Ls xs) 2) := rfl
set_option maxRecDepth 100000 in
theorem st_c3 : (st_ws cA q0 q1 q2 u v)[st_pi.getD 3 0]? = some (st_ad b aW aD q0 q1 q2 u v 3, mv_E (st_ad b aW aD q0 q1 q2 u v) cA (mv_M0 Ls xs) 3) := rfl
set_option maxRecDepth 100000 in
theorem st_c4 : (st_ws cA q0 q1 q2 u v)[st_pi.getD 4 0]? = some (st_ad b aW aD q0 q1 q2 u v 4, mv_E (st_ad b aW aD q0 q1 q2 u v) cA (mv_M0 Ls xs) 4) := rfl
set_option maxRecDepth 100000 in
theorem st_c5 : (st_ws cA q0 q1 q2 u v)[st_pi.getD 5 0]? = some (st_ad b aW aD q0 q1 q2 u v 5, mv_E (st_ad b aW aD q0 q1 q2 u v) cA (mv_M0 Ls xs) 5) := rfl
set_option maxRecDepth 100000 in
theorem st_c6 : (st_ws cA q0 q1 q2 u v)[st_pi.getD 6 0]? = some (st_ad b aW aD q0 q1 q2 u v 6, mv_E (st_ad b aW aD q0 q1 q2 u v) cA (mv_M0 Ls xs) 6) := rfl
set_option maxRecDepth 100000 in
theorem st_c7 : (st_ws cA q0 q1 q2 u v)[st_pi.getD 7 0]? = some (st_ad b aW aD q0 q1 q2 u v 7, mv_E (st_ad b aW aD q0 q1 q2 u v) cA (mv_M0 Ls xs) 7) := rfl
set_option maxRecDepth 100000 in
theorem st_c8 : (st_ws cA q0 q1 q2 u v)[st_pi.getD 8 0]? = some (st_ad b aW aD q0 q1 q2 u v 8, mv_E (st_ad b aW aD q0 q1 q2 u v) cA (mv_M0 Ls xs) 8) := rfl
set_option maxRecDepth 100000 in
theorem st_c9 : (st_ws cA q0 q1 q2 u v)[st_pi.getD 9 0]? = some (st_ad b aW aD q0 q1 q2 u v 9, mv_E (st_ad b aW aD q0 q1 q2 u v) cA (mv_M0 Ls xs) 9) := rfl
set_option maxRecDepth 100000 in
theorem st_c10 : (st_ws cA q0 q1 q2 u v)[st_pi.getD 10 0]? = some (st_ad b aW aD q0 q1 q2 u v 10, mv_E (st_ad b aW aD q0 q1 q2 u v) cA (mv_M0 Ls xs) 10) := rfl
set_option maxRecDepth 100000 in
theorem st_c11 : (st_ws cA q0 q1 q2 u v)[st_pi.getD 11 0]? = some (st_ad b aW aD q0 q1 q2 u v 11, mv_E (st_ad b aW aD q0 q1 q2 u v) cA (mv_M0 Ls xs) 11) := rfl
set_option maxRecDepth 100000 in
theorem st_c12 : (st_ws cA q0 q1 q2 u v)[st_pi.getD 12 0]? = some (st_ad b aW aD q0 q1 q2 u v 12, mv_E (st_ad b aW aD q0 q1 q2 u v) cA (mv_M0 Ls xs) 12) := rfl
set_option maxRecDepth 100000 in
theorem st_c13 : (st_ws cA q0 q1 q2 u v)[st_pi.getD 13 0]? = some (st_ad b aW aD q0 q1 q2 u v 13, mv_E (st_ad b aW aD q0 q1 q2 u v) cA (mv_M0 Ls xs) 13) := rfl
set_option maxRecDepth 100000 in
theorem st_c14 : (st_ws cA q0 q1 q2 u v)[st_pi.getD 14 0]? = some (st_ad b aW aD q0 q1 q2 u v 14, mv_E (st_ad b aW aD q0 q1 q2 u v) cA (mv_M0 Ls xs) 14) := rfl
set_option maxRecDepth 100000 in
theorem st_c15 : (st_ws cA q0 q1 q2 u v)[st_pi.getD 15 0]? = some (st_ad b aW aD q0 q1 q2 u v 15, mv_E (st_ad b aW aD q0 q1 q2 u v) cA (mv_M0 Ls xs) 15) := rfl
set_option maxRecDepth 100000 in
theorem st_c16 : (st_ws cA q0 q1 q2 u v)[st_pi.getD 16 0]? = some (st_ad b aW aD q0 q1 q2 u v 16, mv_E (st_ad b aW aD q0 q1 q2 u v) cA (mv_M0 Ls xs) 16) := rfl
set_option maxRecDepth 100000 in
theorem st_c17 : (st_ws cA q0 q1 q2 u v)[st_pi.getD 17 0]? = some (st_ad b aW aD q0 q1 q2 u v 17, mv_E (st_ad b aW aD q0 q1 q2 u v) cA (mv_M0 Ls xs) 17) := rfl
set_option maxRecDepth 100000 in
theorem st_c18 : (st_ws cA q0 q1 q2 u v)[st_pi.getD 18 0]? = some (st_ad b aW aD q0 q1 q2 u v 18, mv_E (st_ad b aW aD q0 q1 q2 u v) cA (mv_M0 Ls xs) 18) := rfl
set_option maxRecDepth 100000 in
theorem st_c19 : (st_ws cA q0 q1 q2 u v)[st_pi.getD 19 0]? = some (st_ad b aW aD q0 q1 q2 u v 19, mv_E (st_ad b aW aD q0 q1 q2 u v) cA (mv_M0 Ls xs) 19) := rfl
set_option maxRecDepth 100000 in
theorem st_c20 : (st_ws cA q0 q1 q2 u v)[st_pi.getD 20 0]? = some (st_ad b aW aD q0 q1 q2 u v 20, mv_E (st_ad b aW aD q0 q1 q2 u v) cA (mv_M0 Ls xs) 20) := rfl
set_option maxRecDepth 100000 in
theorem st_c21 : (st_ws cA q0 q1 q2 u v)[st_pi.getD 21 0]? = some (st_ad b aW aD q0 q1 q2 u v 21, mv_E (st_ad b aW aD q0 q1 q2 u v) cA (mv_M0 Ls xs) 21) := rfl
set_option maxRecDepth 100000 in
theorem st_c22 : (st_ws cA q0 q1 q2 u v)[st_pi.getD 22 0]? = some (st_ad b aW aD q0 q1 q2 u v 22, mv_E (st_ad b aW aD q0 q1 q2 u v) cA (mv_M0 Ls xs) 22) := rfl
set_option maxRecDepth 100000 in
theorem st_c23 : (st_ws cA q0 q1 q2 u v)[st_pi.getD 23 0]? = some (st_ad b aW aD q0 q1 q2 u v 23, mv_E (st_ad b aW aD q0 q1 q2 u v) cA (mv_M0 Ls xs) 23) := rfl
set_option maxRecDepth 100000 in
theorem st_c24 : (st_ws cA q0 q1 q2 u v)[st_pi.getD 24 0]? = some (st_ad b aW aD q0 q1 q2 u v 24, mv_E (st_ad b aW aD q0 q1 q2 u v) cA (mv_M0 Ls xs) 24) := rfl
set_option maxRecDepth 100000 in
theorem st_c25 : (st_ws cA q0 q1 q2 u v)[st_pi.getD 25 0]? = some (st_ad b aW aD q0 q1 q2 u v 25, mv_E (st_ad b aW aD q0 q1 q2 u v) cA (mv_M0 Ls xs) 25) := rfl
set_option maxRecDepth 100000 in
theorem st_c26 : (st_ws cA q0 q1 q2 u v)[st_pi.getD 26 0]? = some (st_ad b aW aD q0 q1 q2 u v 26, mv_E (st_ad b aW aD q0 q1 q2 u v) cA (mv_M0 Ls xs) 26) := rfl
set_option maxRecDepth 100000 in
theorem st_c27 : (st_ws cA q0 q1 q2 u v)[st_pi.getD 27 0]? = some (st_ad b aW aD q0 q1 q2 u v 27, mv_E (st_ad b aW aD q0 q1 q2 u v) cA (mv_M0 Ls xs) 27) := rfl
set_option maxRecDepth 100000 in
theorem st_c28 : (st_ws cA q0 q1 q2 u v)[st_pi.getD 28 0]? = some (st_ad b aW aD q0 q1 q2 u v 28, mv_E (st_ad b aW aD q0 q1 q2 u v) cA (mv_M0 Ls xs) 28) := rfl
set_option maxRecDepth 100000 in
theorem st_c29 : (st_ws cA q0 q1 q2 u v)[st_pi.getD 29 0]? = some (st_ad b aW aD q0 q1 q2 u v 29, mv_E (st_ad b aW aD q0 q1 q2 u v) cA (mv_M0 Ls xs) 29) := rfl
set_option maxRecDepth 100000 in
theorem st_c30 : (st_ws cA q0 q1 q2 u v)[st_pi.getD 30 0]? = some (st_ad b aW aD q0 q1 q2 u v 30, mv_E (st_ad b aW aD q0 q1 q2 u v) cA (mv_M0 Ls xs) 30) := rfl
set_option maxRecDepth 100000 in
theorem st_c31 : (st_ws cA q0 q1 q2 u v)[st_pi.getD 31 0]? = some (st_ad b aW aD q0 q1 q2 u v 31, mv_E (st_ad b aW aD q0 q1 q2 u v) cA (mv_M0 Ls xs) 31) := rfl
set_option maxRecDepth 100000 in
theorem st_c32 : (st_ws cA q0 q1 q2 u v)[st_pi.getD 32 0]? = some (st_ad b aW aD q0 q1 q2 u v 32, mv_E (st_ad b aW aD q0 q1 q2 u v) cA (mv_M0 Ls xs) 32) := rfl
set_option maxRecDepth 100000 in
theorem st_c33 : (st_ws cA q0 q1 q2 u v)[st_pi.getD 33 0]? = some (st_ad b aW aD q0 q1 q2 u v 33, mv_E (st_ad b aW aD q0 q1 q2 u v) cA (mv_M0 Ls xs) 33) := rfl
set_option maxRecDepth 100000 in
theorem st_c34 : (st_ws cA q0 q1 q2 u v)[st_pi.getD 34 0]? = some (st_ad b aW aD q0 q1 q2 u v 34, mv_E (st_ad b aW aD q0 q1 q2 u v) cA (mv_M0 Ls xs) 34) := rfl
set_option maxRecDepth 100000 in
theorem st_c35 : (st_ws cA q0 q1 q2 u v)[st_pi.getD 35 0]? = some (st_ad b aW aD q0 q1 q2 u v 35, mv_E (st_ad b aW aD q0 q1 q2 u v) cA (mv_M0 Ls xs) 35) := rfl
set_option maxRecDepth 100000 in
theorem st_c36 : (st_ws cA q0 q1 q2 u v)[st_pi.getD 36 0]? = some (st_ad b aW aD q0 q1 q2 u v 36, mv_E (st_ad b aW aD q0 q1 q2 u v) cA (mv_M0 Ls xs) 36) := rfl
set_option maxRecDepth 100000 in
theorem st_c37 : (st_ws cA q0 q1 q2 u v)[st_pi.getD 37 0]? = some (st_ad b aW aD q0 q1 q2 u v 37, mv_E (st_ad b aW aD q0 q1 q2 u v) cA (mv_M0 Ls xs) 37) := rfl
set_option maxRecDepth 100000 in
theorem st_c38 : (st_ws cA q0 q1 q2 u v)[st_pi.getD 38 0]? = some (st_ad b aW aD q0 q1 q2 u v 38, mv_E (st_ad b aW aD q0 q1 q2 u v) cA (mv_M0 Ls xs) 38) := rfl
set_option maxRecDepth 100000 in
theorem st_c39 : (st_ws cA q0 q1 q2 u v)[st_pi.getD 39 0]? = some (st_ad b aW aD q0 q1 q2 u v 39, mv_E (st_ad b aW aD q0 q1 q2 u v) cA (mv_M0 Ls xs) 39) := rfl
set_option maxRecDepth 100000 in
theorem st_c40 : (st_ws cA q0 q1 q2 u v)[st_pi.getD 40 0]? = some (st_ad b aW aD q0 q1 q2 u v 40, mv_E (st_ad b aW aD q0 q1 q2 u v) cA (mv_M0 Ls xs) 40) := rfl
set_option maxRecDepth 100000 in
theorem st_c41 : (st_ws cA q0 q1 q2 u v)[st_pi.getD 41 0]? = some (st_ad b aW aD q0 q1 q2 u v 41, mv_E (st_ad b aW aD q0 q1 q2 u v) cA (mv_M0 Ls xs) 41) := rfl
set_option maxRecDepth 100000 in
theorem st_c42 : (st_ws cA q0 q1 q2 u v)[st_pi.getD 42 0]? = some (st_ad b aW aD q0 q1 q2 u v 42, mv_E (st_ad b aW aD q0 q1 q2 u v) cA (mv_M0 Ls xs) 42) := rfl
set_option maxRecDepth 100000 in
theorem st_c43 : (st_ws cA q0 q1 q2 u v)[st_pi.getD 43 0]? = some (st_ad b aW aD q0 q1 q2 u v 43, mv_E (st_ad b aW aD q0 q1 q2 u v) cA (mv_M0 Ls xs) 43) := rfl
set_option maxRecDepth 100000 in
theorem st_c44 : (st_ws cA q0 q1 q2 u v)[st_pi.getD 44 0]? = some (st_ad b aW aD q0 q1 q2 u v 44, mv_E (st_ad b aW aD q0 q1 q2 u v) cA (mv_M0 Ls xs) 44) := rfl
set_option maxRecDepth 100000 in
theorem st_c45 : (st_ws cA q0 q1 q2 u v)[st_pi.getD 45 0]? = some (st_ad b aW aD q0 q1 q2 u v 45, mv_E (st_ad b aW aD q0 q1 q2 u v) cA (mv_M0 Ls xs) 45) := rfl
set_option maxRecDepth 100000 in
theorem st_c46 : (st_ws cA q0 q1 q2 u v)[st_pi.getD 46 0]? = some (st_ad b aW aD q0 q1 q2 u v 46, mv_E (st_ad b aW aD q0 q1 q2 u v) cA (mv_M0 Ls xs) 46) := rfl
set_option maxRecDepth 100000 in
theorem st_c47 : (st_ws cA q0 q1 q2 u v)[st_pi.getD 47 0]? = some (st_ad b aW aD q0 q1 q2 u v 47, mv_E (st_ad b aW aD q0 q1 q2 u v) cA (mv_M0 Ls xs) 47) := rfl
set_option maxRecDepth 100000 in
theorem st_c48 : (st_ws cA q0 q1 q2 u v)[st_pi.getD 48 0]? = some (st_ad b aW aD q0 q1 q2 u v 48, mv_E (st_ad b aW aD q0 q1 q2 u v) cA (mv_M0 Ls xs) 48) := rfl
set_option maxRecDepth 100000 in
theorem st_c49 : (st_ws cA q0 q1 q2 u v)[st_pi.getD 49 0]? = some (st_ad b aW aD q0 q1 q2 u v 49, mv_E (st_ad b aW aD q0 q1 q2 u v) cA (mv_M0 Ls xs) 49) := rfl
set_option maxRecDepth 100000 in
theorem st_c50 : (st_ws cA q0 q1 q2 u v)[st_pi.getD 50 0]? = some (st_ad b aW aD q0 q1 q2 u v 50, mv_E (st_ad b aW aD q0 q1 q2 u v) cA (mv_M0 Ls xs) 50) := rfl
set_option maxRecDepth 100000 in
theorem st_c51 : (st_ws cA q0 q1 q2 u v)[st_pi.getD 51 0]? = some (st_ad b aW aD q0 q1 q2 u v 51, mv_E (st_ad b aW aD q0 q1 q2 u v) cA (mv_M0 Ls xs) 51) := rfl
set_option maxRecDepth 100000 in
theorem st_c52 : (st_ws cA q0 q1 q2 u v)[st_pi.getD 52 0]? = some (st_ad b aW aD q0 q1 q2 u v 52, mv_E (st_ad b aW aD q0 q1 q2 u v) cA (mv_M0 Ls xs) 52) := rfl
set_option maxRecDepth 100000 in
theorem st_c53 : (st_ws cA q0 q1 q2 u v)[st_pi.getD 53 0]? = some (st_ad b aW aD q0 q1 q2 u v 53, mv_E (st_ad b aW aD q0 q1 q2 u v) cA (mv_M0 Ls xs) 53) := rfl
set_option maxRecDepth 100000 in
theorem st_c54 : (st_ws cA q0 q1 q2 u v)[st_pi.getD 54 0]? = some (st_ad b aW aD q0 q1 q2 u v 54, mv_E (st_ad b aW aD q0 q1 q2 u v) cA (mv_M0 Ls xs) 54) := rfl
set_option maxRecDepth 100000 in
theorem st_c55 : (st_ws cA q0 q1 q2 u v)[st_pi.getD 55 0]? = some (st_ad b aW aD q0 q1 q2 u v 55, mv_E (st_ad b aW aD q0 q1 q2 u v) cA (mv_M0 Ls xs) 55) := rfl
set_option maxRecDepth 100000 in
theorem st_c56 : (st_ws cA q0 q1 q2 u v)[st_pi.getD 56 0]? = some (st_ad b aW aD q0 q1 q2 u v 56, mv_E (st_ad b aW aD q0 q1 q2 u v) cA (mv_M0 Ls xs) 56) := rfl
set_option maxRecDepth 100000 in
theorem st_c57 : (st_ws cA q0 q1 q2 u v)[st_pi.getD 57 0]? = some (st_ad b aW aD q0 q1 q2 u v 57, mv_E (st_ad b aW aD q0 q1 q2 u v) cA (mv_M0 Ls xs) 57) := rfl
set_option maxRecDepth 100000 in
theorem st_c58 : (st_ws cA q0 q1 q2 u v)[st_pi.getD 58 0]? = some (st_ad b aW aD q0 q1 q2 u v 58, mv_E (st_ad b aW aD q0 q1 q2 u v) cA (mv_M0 Ls xs) 58) := rfl
set_option maxRecDepth 100000 in
theorem st_c59 : (st_ws cA q0 q1 q2 u v)[st_pi.getD 59 0]? = some (st_ad b aW aD q0 q1 q2 u v 59, mv_E (st_ad b aW aD q0 q1 q2 u v) cA (mv_M0 Ls xs) 59) := rfl
set_option maxRecDepth 100000 in
theorem st_c60 : (st_ws cA q0 q1 q2 u v)[st_pi.getD 60 0]? = some (st_ad b aW aD q0 q1 q2 u v 60, mv_E (st_ad b aW aD q0 q1 q2 u v) cA (mv_M0 Ls xs) 60) := rfl
set_option maxRecDepth 100000 in
theorem st_c61 : (st_ws cA q0 q1 q2 u v)[st_pi.getD 61 0]? = some (st_ad b aW aD q0 q1 q2 u v 61, mv_E (st_ad b aW aD q0 q1 q2 u v) cA (mv_M0 Ls xs) 61) := rfl
set_option maxRecDepth 100000 in
theorem st_c62 : (st_ws cA q0 q1 q2 u v)[st_pi.getD 62 0]? = some (st_ad b aW aD q0 q1 q2 u v 62, mv_E (st_ad b aW aD q0 q1 q2 u v) cA (mv_M0 Ls xs) 62) := rfl
set_option maxRecDepth 100000 in
theorem st_c63 : (st_ws cA q0 q1 q2 u v)[st_pi.getD 63 0]? = some (st_ad b aW aD q0 q1 q2 u v 63, mv_E (st_ad b aW aD q0 q1 q2 u v) cA (mv_M0 Ls xs) 63) := rfl
set_option maxRecDepth 100000 in
theorem st_c64 : (st_ws cA q0 q1 q2 u v)[st_pi.getD 64 0]? = some (st_ad b aW aD q0 q1 q2 u v 64, mv_E (st_ad b aW aD q0 q1 q2 u v) cA (mv_M0 Ls xs) 64) := rfl
set_option maxRecDepth 100000 in
theorem st_c65 : (st_ws cA q0 q1 q2 u v)[st_pi.getD 65 0]? = some (st_ad b aW aD q0 q1 q2 u v 65, mv_E (st_ad b aW aD q0 q1 q2 u v) cA (mv_M0 Ls xs) 65) := rfl
set_option maxRecDepth 100000 in
theorem st_c66 : (st_ws cA q0 q1 q2 u v)[st_pi.getD 66 0]? = some (st_ad b aW aD q0 q1 q2 u v 66, mv_E (st_ad b aW aD q0 q1 q2 u v) cA (mv_M0 Ls xs) 66) := rfl
set_option maxRecDepth 100000 in
theorem st_c67 : (st_ws cA q0 q1 q2 u v)[st_pi.getD 67 0]? = some (st_ad b aW aD q0 q1 q2 u v 67, mv_E (st_ad b aW aD q0 q1 q2 u v) cA (mv_M0 Ls xs) 67) := rfl
set_option maxRecDepth 100000 in
theorem st_c68 : (st_ws cA q0 q1 q2 u v)[st_pi.getD 68 0]? = some (st_ad b aW aD q0 q1 q2 u v 68, mv_E (st_ad b aW aD q0 q1 q2 u v) cA (mv_M0 Ls xs) 68) := rfl
set_option maxRecDepth 100000 in
theorem st_c69 : (st_ws cA q0 q1 q2 u v)[st_pi.getD 69 0]? = some (st_ad b aW aD q0 q1 q2 u v 69, mv_E (st_ad b aW aD q0 q1 q2 u v) cA (mv_M0 Ls xs) 69) := rfl
set_option maxRecDepth 100000 in
theorem st_c70 : (st_ws cA q0 q1 q2 u v)[st_pi.getD 70 0]? = some (st_ad b aW aD q0 q1 q2 u v 70, mv_E (st_ad b aW aD q0 q1 q2 u v) cA (mv_M0 Ls xs) 70) := rfl
set_option maxRecDepth 100000 in
theorem st_c71 : (st_ws cA q0 q1 q2 u v)[st_pi.getD 71 0]? = some (st_ad b aW aD q0 q1 q2 u v 71, mv_E (st_ad b aW aD q0 q1 q2 u v) cA (mv_M0 Ls xs) 71) := rfl
set_option maxRecDepth 100000 in
theorem st_c72 : (st_ws cA q0 q1 q2 u v)[st_pi.getD 72 0]? = some (st_ad b aW aD q0 q1 q2 u v 72, mv_E (st_ad b aW aD q0 q1 q2 u v) cA (mv_M0 Ls xs) 72) := rfl
set_option maxRecDepth 100000 in
theorem st_c73 : (st_ws cA q0 q1 q2 u v)[st_pi.getD 73 0]? = some (st_ad b aW aD q0 q1 q2 u v 73, mv_E (st_ad b aW aD q0 q1 q2 u v) cA (mv_M0 Ls xs) 73) := rfl
set_option maxRecDepth 100000 in
theorem st_c74 : (st_ws cA q0 q1 q2 u v)[st_pi.getD 74 0]? = some (st_ad b aW aD q0 q1 q2 u v 74, mv_E (st_ad b aW aD q0 q1 q2 u v) cA (mv_M0 Ls xs) 74) := rfl
set_option maxRecDepth 100000 in
theorem st_c75 : (st_ws cA q0 q1 q2 u v)[st_pi.getD 75 0]? = some (st_ad b aW aD q0 q1 q2 u v 75, mv_E (st_ad b aW aD q0 q1 q2 u v) cA (mv_M0 Ls xs) 75) := rfl
set_option maxRecDepth 100000 in
theorem st_c76 : (st_ws cA q0 q1 q2 u v)[st_pi.getD 76 0]? = some (st_ad b aW aD q0 q1 q2 u v 76, mv_E (st_ad b aW aD q0 q1 q2 u v) cA (mv_M0 Ls xs) 76) := rfl
set_option maxRecDepth 100000 in
theorem st_c77 : (st_ws cA q0 q1 q2 u v)[st_pi.getD 77 0]? = some (st_ad b aW aD q0 q1 q2 u v 77, mv_E (st_ad b aW aD q0 q1 q2 u v) cA (mv_M0 Ls xs) 77) := rfl
set_option maxRecDepth 100000 in
theorem st_c78 : (st_ws cA q0 q1 q2 u v)[st_pi.getD 78 0]? = some (st_ad b aW aD q0 q1 q2 u v 78, mv_E (st_ad b aW aD q0 q1 q2 u v) cA (mv_M0 Ls xs) 78) := rfl
set_option maxRecDepth 100000 in
theorem st_c79 : (st_ws cA q0 q1 q2 u v)[st_pi.getD 79 0]? = some (st_ad b aW aD q0 q1 q2 u v 79, mv_E (st_ad b aW aD q0 q1 q2 u v) cA (mv_M0 Ls xs) 79) := rfl
set_option maxRecDepth 100000 in
theorem st_c80 : (st_ws cA q0 q1 q2 u v)[st_pi.getD 80 0]? = some (st_ad b aW aD q0 q1 q2 u v 80, mv_E (st_ad b aW aD q0 q1 q2 u v) cA (mv_M0 Ls xs) 80) := rfl
set_option maxRecDepth 100000 in
theorem st_c81 : (st_ws cA q0 q1 q2 u v)[st_pi.getD 81 0]? = some (st_ad b aW aD q0 q1 q2 u v 81, mv_E (st_ad b aW aD q0 q1 q2 u v) cA (mv_M0 Ls xs) 81) := rfl
set_option maxRecDepth 100000 in
theorem st_c82 : (st_ws cA q0 q1 q2 u v)[st_pi.getD 82 0]? = some (st_ad b aW aD q0 q1 q2 u v 82, mv_E (st_ad b aW aD q0 q1 q2 u v) cA (mv_M0 Ls xs) 82) := rfl
set_option maxRecDepth 100000 in
theorem st_c83 : (st_ws cA q0 q1 q2 u v)[st_pi.getD 83 0]? = some (st_ad b aW aD q0 q1 q2 u v 83, mv_E (st_ad b aW aD q0 q1 q2 u v) cA (mv_M0 Ls xs) 83) := rfl
set_option maxRecDepth 100000 in
theorem st_c84 : (st_ws cA q0 q1 q2 u v)[st_pi.getD 84 0]? = some (st_ad b aW aD q0 q1 q2 u v 84, mv_E (st_ad b aW aD q0 q1 q2 u v) cA (mv_M0 Ls xs) 84) := rfl
set_option maxRecDepth 100000 in
theorem st_c85 : (st_ws cA q0 q1 q2 u v)[st_pi.getD 85 0]? = some (st_ad b aW aD q0 q1 q2 u v 85, mv_E (st_ad b aW aD q0 q1 q2 u v) cA (mv_M0 Ls xs) 85) := rfl
set_option maxRecDepth 100000 in
theorem st_c86 : (st_ws cA q0 q1 q2 u v)[st_pi.getD 86 0]? = some (st_ad b aW aD q0 q1 q2 u v 86, mv_E (st_ad b aW aD q0 q1 q2 u v) cA (mv_M0 Ls xs) 86) := rfl
set_option maxRecDepth 100000 in
theorem st_c87 : (st_ws cA q0 q1 q2 u v)[st_pi.getD 87 0]? = some (st_ad b aW aD q0 q1 q2 u v 87, mv_E (st_ad b aW aD q0 q1 q2 u v) cA (mv_M0 Ls xs) 87) := rfl
set_option maxRecDepth 100000 in
theorem st_c88 : (st_ws cA q0 q1 q2 u v)[st_pi.getD 88 0]? = some (st_ad b aW aD q0 q1 q2 u v 88, mv_E (st_ad b aW aD q0 q1 q2 u v) cA (mv_M0 Ls xs) 88) := rfl
set_option maxRecDepth 100000 in
theorem st_c89 : (st_ws cA q0 q1 q2 u v)[st_pi.getD 89 0]? = some (st_ad b aW aD q0 q1 q2 u v 89, mv_E (st_ad b aW aD q0 q1 q2 u v) cA (mv_M0 Ls xs) 89) := rfl
set_option maxRecDepth 100000 in
theorem st_c90 : (st_ws cA q0 q1 q2 u v)[st_pi.getD 90 0]? = some (st_ad b aW aD q0 q1 q2 u v 90, mv_E (st_ad b aW aD q0 q1 q2 u v) cA (mv_M0 Ls xs) 90) := rfl
set_option maxRecDepth 100000 in
theorem st_c91 : (st_ws cA q0 q1 q2 u v)[st_pi.getD 91 0]? = some (st_ad b aW aD q0 q1 q2 u v 91, mv_E (st_ad b aW aD q0 q1 q2 u v) cA (mv_M0 Ls xs) 91) := rfl
set_option maxRecDepth 100000 in
theorem st_c92 : (st_ws cA q0 q1 q2 u v)[st_pi.getD 92 0]? = some (st_ad b aW aD q0 q1 q2 u v 92, mv_E (st_ad b aW aD q0 q1 q2 u v) cA (mv_M0 Ls xs) 92) := rfl
set_option maxRecDepth 100000 in
theorem st_c93 : (st_ws cA q0 q1 q2 u v)[st_pi.getD 93 0]? = some (st_ad b aW aD q0 q1 q2 u v 93, mv_E (st_ad b aW aD q0 q1 q2 u v) cA (mv_M0 Ls xs) 93) := rfl
set_option maxRecDepth 100000 in
theorem st_c94 : (st_ws cA q0 q1 q2 u v)[st_pi.getD 94 0]? = some (st_ad b aW aD q0 q1 q2 u v 94, mv_E (st_ad b aW aD q0 q1 q2 u v) cA (mv_M0 Ls xs) 94) := rfl
set_option maxRecDepth 100000 in
theorem st_c95 : (st_ws cA q0 q1 q2 u v)[st_pi.getD 95 0]? = some (st_ad b aW aD q0 q1 q2 u v 95, mv_E (st_ad b aW aD q0 q1 q2 u v) cA (mv_M0 Ls xs) 95) := rfl
set_option maxRecDepth 100000 in
theorem st_c96 : (st_ws cA q0 q1 q2 u v)[st_pi.getD 96 0]? = some (st_ad b aW aD q0 q1 q2 u v 96, mv_E (st_ad b aW aD q0 q1 q2 u v) cA (mv_M0 Ls xs) 96) := rfl
set_option maxRecDepth 100000 in
theorem st_c97 : (st_ws cA q0 q1 q2 u v)[st_pi.getD 97 0]? = some (st_ad b aW aD q0 q1 q2 u v 97, mv_E (st_ad b aW aD q0 q1 q2 u v) cA (mv_M0 Ls xs) 97) := rfl
set_option maxRecDepth 100000 in
theorem st_c98 : (st_ws cA q0 q1 q2 u v)[st_pi.getD 98 0]? = some (st_ad b aW aD q0 q1 q2 u v 98, mv_E (st_ad b aW aD q0 q1 q2 u v) cA (mv_M0 Ls xs) 98) := rfl
set_option maxRecDepth 100000 in
theorem st_c99 : (st_ws cA q0 q1 q2 u v)[st_pi.getD 99 0]? = some (st_ad b aW aD q0 q1 q2 u v 99, mv_E (st_ad b aW aD q0 q1 q2 u v) cA (mv_M0 Ls xs) 99) := rfl
set_option maxRecDepth 100000 in
theorem st_c100 : (st_ws cA q0 q1 q2 u v)[st_pi.getD 100 0]? = some (st_ad b aW aD q0 q1 q2 u v 100, mv_E (st_ad b aW aD q0 q1 q2 u v) cA (mv_M0 Ls xs) 100) := rfl
set_option maxRecDepth 100000 in
theorem st_c101 : (st_ws cA q0 q1 q2 u v)[st_pi.getD 101 0]? = some (st_ad b aW aD q0 q1 q2 u v 101, mv_E (st_ad b aW aD q0 q1 q2 u v) cA (mv_M0 Ls xs) 101) := rfl
set_option maxRecDepth 100000 in
theorem st_c102 : (st_ws cA q0 q1 q2 u v)[st_pi.getD 102 0]? = some (st_ad b aW aD q0 q1 q2 u v 102, mv_E (st_ad b aW aD q0 q1 q2 u v) cA (mv_M0 Ls xs) 102) := rfl
set_option maxRecDepth 100000 in
theorem st_c103 : (st_ws cA q0 q1 q2 u v)[st_pi.getD 103 0]? = some (st_ad b aW aD q0 q1 q2 u v 103, mv_E (st_ad b aW aD q0 q1 q2 u v) cA (mv_M0 Ls xs) 103) := rfl
set_option maxRecDepth 100000 in
theorem st_c104 : (st_ws cA q0 q1 q2 u v)[st_pi.getD 104 0]? = some (st_ad b aW aD q0 q1 q2 u v 104, mv_E (st_ad b aW aD q0 q1 q2 u v) cA (mv_M0 Ls xs) 104) := rfl
set_option maxRecDepth 100000 in
theorem st_c105 : (st_ws cA q0 q1 q2 u v)[st_pi.getD 105 0]? = some (st_ad b aW aD q0 q1 q2 u v 105, mv_E (st_ad b aW aD q0 q1 q2 u v) cA (mv_M0 Ls xs) 105) := rfl
set_option maxRecDepth 100000 in
theorem st_c106 : (st_ws cA q0 q1 q2 u v)[st_pi.getD 106 0]? = some (st_ad b aW aD q0 q1 q2 u v 106, mv_E (st_ad b aW aD q0 q1 q2 u v) cA (mv_M0 Ls xs) 106) := rfl
set_option maxRecDepth 100000 in
theorem st_all : ∀ c : Nat, c < mv_N → (st_ws cA q0 q1 q2 u v)[st_pi.getD c 0]? = some (st_ad b aW aD q0 q1 q2 u v c, mv_E (st_ad b aW aD q0 q1 q2 u v) cA (mv_M0 Ls xs) c) := by
  have h0 : ∀ c : Nat, c < 0 → (st_ws cA q0 q1 q2 u v)[st_pi.getD c 0]? = some (st_ad b aW aD q0 q1 q2 u v c, mv_E (st_ad b aW aD q0 q1 q2 u v) cA (mv_M0 Ls xs) c) := fun c h => absurd h (Nat.not_lt_zero c)
  have h1 := lt_s h0 (st_c0 (cA := cA) (b := b) (aW := aW) (aD := aD) (q0 := q0) (q1 := q1) (q2 := q2) (u := u) (v := v) (Ls := Ls) (xs := xs))
  have h2 := lt_s h1 (st_c1 (cA := cA) (b := b) (aW := aW) (aD := aD) (q0 := q0) (q1 := q1) (q2 := q2) (u := u) (v := v) (Ls := Ls) (xs := xs))
  have h3 := lt_s h2 (st_c2 (cA := cA) (b := b) (aW := aW) (aD := aD) (q0 := q0) (q1 := q1) (q2 := q2) (u := u) (v := v) (Ls := Ls) (xs := xs))
  have h4 := lt_s h3 (st_c3 (cA := cA) (b := b) (aW := aW) (aD := aD) (q0 := q0) (q1 := q1) (q2 := q2) (u := u) (v := v) (Ls := Ls) (xs := xs))
  have h5 := lt_s h4 (st_c4 (cA := cA) (b := b) (aW := aW) (aD := aD) (q0 := q0) (q1 := q1) (q2 := q2) (u := u) (v := v) (Ls := Ls) (xs := xs))
  have h6 := lt_s h5 (st_c5 (cA := cA) (b := b) (aW := aW) (aD := aD) (q0 := q0) (q1 := q1) (q2 := q2) (u := u) (v := v) (Ls := Ls) (xs := xs))
  have h7 := lt_s h6 (st_c6 (cA := cA) (b := b) (aW := aW) (aD := aD) (q0 := q0) (q1 := q1) (q2 := q2) (u := u) (v := v) (Ls := Ls) (xs := xs))
  have h8 := lt_s h7 (st_c7 (cA := cA) (b := b) (aW := aW) (aD := aD) (q0 := q0) (q1 := q1) (q2 := q2) (u := u) (v := v) (Ls := Ls) (xs := xs))
  have h9 := lt_s h8 (st_c8 (cA := cA) (b := b) (aW := aW) (aD := aD) (q0 := q0) (q1 := q1) (q2 := q2) (u := u) (v := v) (Ls := Ls) (xs := xs))
  have h10 := lt_s h9 (st_c9 (cA := cA) (b := b) (aW := aW) (aD := aD) (q0 := q0) (q1 := q1) (q2 := q2) (u := u) (v := v) (Ls := Ls) (xs := xs))
  have h11 := lt_s h10 (st_c10 (cA := cA) (b := b) (aW := aW) (aD := aD) (q0 := q0) (q1 := q1) (q2 := q2) (u := u) (v := v) (Ls := Ls) (xs := xs))
  have h12 := lt_s h11 (st_c11 (cA := cA) (b := b) (aW := aW) (aD := aD) (q0 := q0) (q1 := q1) (q2 := q2) (u := u) (v := v) (Ls := Ls) (xs := xs))
  have h13 := lt_s h12 (st_c12 (cA := cA) (b := b) (aW := aW) (aD := aD) (q0 := q0) (q1 := q1) (q2 := q2) (u := u) (v := v) (Ls := Ls) (xs := xs))
  have h14 := lt_s h13 (st_c13 (cA := cA) (b := b) (aW := aW) (aD := aD) (q0 := q0) (q1 := q1) (q2 := q2) (u := u) (v := v) (Ls := Ls) (xs := xs))
  have h15 := lt_s h14 (st_c14 (cA := cA) (b := b) (aW := aW) (aD := aD) (q0 := q0) (q1 := q1) (q2 := q2) (u := u) (v := v) (Ls := Ls) (xs := xs))
  have h16 := lt_s h15 (st_c15 (cA := cA) (b := b) (aW := aW) (aD := aD) (q0 := q0) (q1 := q1) (q2 := q2) (u := u) (v := v) (Ls := Ls) (xs := xs))
  have h17 := lt_s h16 (st_c16 (cA := cA) (b := b) (aW := aW) (aD := aD) (q0 := q0) (q1 := q1) (q2 := q2) (u := u) (v := v) (Ls := Ls) (xs := xs))
  have h18 := lt_s h17 (st_c17 (cA := cA) (b := b) (aW := aW) (aD := aD) (q0 := q0) (q1 := q1) (q2 := q2) (u := u) (v := v) (Ls := Ls) (xs := xs))
  have h19 := lt_s h18 (st_c18 (cA := cA) (b := b) (aW := aW) (aD := aD) (q0 := q0) (q1 := q1) (q2 := q2) (u := u) (v := v) (Ls := Ls) (xs := xs))
  have h20 := lt_s h19 (st_c19 (cA := cA) (b := b) (aW := aW) (aD := aD) (q0 := q0) (q1 := q1) (q2 := q2) (u := u) (v := v) (Ls := Ls) (xs := xs))
  have h21 := lt_s h20 (st_c20 (cA := cA) (b := b) (aW := aW) (aD := aD) (q0 := q0) (q1 := q1) (q2 := q2) (u := u) (v := v) (Ls := Ls) (xs := xs))
  have h22 := lt_s h21 (st_c21 (cA := cA) (b := b) (aW := aW) (aD := aD) (q0 := q0) (q1 := q1) (q2 := q2) (u := u) (v := v) (Ls := Ls) (xs := xs))
  have h23 := lt_s h22 (st_c22 (cA := cA) (b := b) (aW := aW) (aD := aD) (q0 := q0) (q1 := q1) (q2 := q2) (u := u) (v := v) (Ls := Ls) (xs := xs))
  have h24 := lt_s h23 (st_c23 (cA := cA) (b := b) (aW := aW) (aD := aD) (q0 := q0) (q1 := q1) (q2 := q2) (u := u) (v := v) (Ls := Ls) (xs := xs))
  have h25 := lt_s h24 (st_c24 (cA := cA) (b := b) (aW := aW) (aD := aD) (q0 := q0) (q1 := q1) (q2 := q2) (u := u) (v := v) (Ls := Ls) (xs := xs))
  have h26 := lt_s h25 (st_c25 (cA := cA) (b := b) (aW := aW) (aD := aD) (q0 := q0) (q1 := q1) (q2 := q2) (u := u) (v := v) (Ls := Ls) (xs := xs))
  have h27 := lt_s h26 (st_c26 (cA := cA) (b := b) (aW := aW) (aD := aD) (q0 := q0) (q1 := q1) (q2 := q2) (u := u) (v := v) (Ls := Ls) (xs := xs))
  have h28 := lt_s h27 (st_c27 (cA := cA) (b := b) (aW := aW) (aD := aD) (q0 := q0) (q1 := q1) (q2 := q2) (u := u) (v := v) (Ls := Ls) (xs := xs))
  have h29 := lt_s h28 (st_c28 (cA := cA) (b := b) (aW := aW) (aD := aD) (q0 := q0) (q1 := q1) (q2 := q2) (u := u) (v := v) (Ls := Ls) (xs := xs))
  have h30 := lt_s h29 (st_c29 (cA := cA) (b := b) (aW := aW) (aD := aD) (q0 := q0) (q1 := q1) (q2 := q2) (u := u) (v := v) (Ls := Ls) (xs := xs))
  have h31 := lt_s h30 (st_c30 (cA := cA) (b := b) (aW := aW) (aD := aD) (q0 := q0) (q1 := q1) (q2 := q2) (u := u) (v := v) (Ls := Ls) (xs := xs))
  have h32 := lt_s h31 (st_c31 (cA := cA) (b := b) (aW := aW) (aD := aD) (q0 := q0) (q1 := q1) (q2 := q2) (u := u) (v := v) (Ls := Ls) (xs := xs))
  have h33 := lt_s h32 (st_c32 (cA := cA) (b := b) (aW := aW) (aD := aD) (q0 := q0) (q1 := q1) (q2 := q2) (u := u) (v := v) (Ls := Ls) (xs := xs))
  have h34 := lt_s h33 (st_c33 (cA := cA) (b := b) (aW := aW) (aD := aD) (q0 := q0) (q1 := q1) (q2 := q2) (u := u) (v := v) (Ls := Ls) (xs := xs))
  have h35 := lt_s h34 (st_c34 (cA := cA) (b := b) (aW := aW) (aD := aD) (q0 := q0) (q1 := q1) (q2 := q2) (u := u) (v := v) (Ls := Ls) (xs := xs))
  have h36 := lt_s h35 (st_c35 (cA := cA) (b := b) (aW := aW) (aD := aD) (q0 := q0) (q1 := q1) (q2 := q2) (u := u) (v := v) (Ls := Ls) (xs := xs))
  have h37 := lt_s h36 (st_c36 (cA := cA) (b := b) (aW := aW) (aD := aD) (q0 := q0) (q1 := q1) (q2 := q2) (u := u) (v := v) (Ls := Ls) (xs := xs))
  have h38 := lt_s h37 (st_c37 (cA := cA) (b := b) (aW := aW) (aD := aD) (q0 := q0) (q1 := q1) (q2 := q2) (u := u) (v := v) (Ls := Ls) (xs := xs))
  have h39 := lt_s h38 (st_c38 (cA := cA) (b := b) (aW := aW) (aD := aD) (q0 := q0) (q1 := q1) (q2 := q2) (u := u) (v := v) (Ls := Ls) (xs := xs))
  have h40 := lt_s h39 (st_c39 (cA := cA) (b := b) (aW := aW) (aD := aD) (q0 := q0) (q1 := q1) (q2 := q2) (u := u) (v := v) (Ls := Ls) (xs := xs))
  have h41 := lt_s h40 (st_c40 (cA := cA) (b := b) (aW := aW) (aD := aD) (q0 := q0) (q1 := q1) (q2 := q2) (u := u) (v := v) (Ls := Ls) (xs := xs))
  have h42 := lt_s h41 (st_c41 (cA := cA) (b := b) (aW := aW) (aD := aD) (q0 := q0) (q1 := q1) (q2 := q2) (u := u) (v := v) (Ls := Ls) (xs := xs))
  have h43 := lt_s h42 (st_c42 (cA := cA) (b := b) (aW := aW) (aD := aD) (q0 := q0) (q1 := q1) (q2 := q2) (u := u) (v := v) (Ls := Ls) (xs := xs))
  have h44 := lt_s h43 (st_c43 (cA := cA) (b := b) (aW := aW) (aD := aD) (q0 := q0) (q1 := q1) (q2 := q2) (u := u) (v := v) (Ls := Ls) (xs := xs))
  have h45 := lt_s h44 (st_c44 (cA := cA) (b := b) (aW := aW) (aD := aD) (q0 := q0) (q1 := q1) (q2 := q2) (u := u) (v := v) (Ls := Ls) (xs := xs))
  have h46 := lt_s h45 (st_c45 (cA := cA) (b := b) (aW := aW) (aD := aD) (q0 := q0) (q1 := q1) (q2 := q2) (u := u) (v := v) (Ls := Ls) (xs := xs))
  have h47 := lt_s h46 (st_c46 (cA := cA) (b := b) (aW := aW) (aD := aD) (q0 := q0) (q1 := q1) (q2 := q2) (u := u) (v := v) (Ls := Ls) (xs := xs))
  have h48 := lt_s h47 (st_c47 (cA := cA) (b := b) (aW := aW) (aD := aD) (q0 := q0) (q1 := q1) (q2 := q2) (u := u) (v := v) (Ls := Ls) (xs := xs))
  have h49 := lt_s h48 (st_c48 (cA := cA) (b := b) (aW := aW) (aD := aD) (q0 := q0) (q1 := q1) (q2 := q2) (u := u) (v := v) (Ls := Ls) (xs := xs))
  have h50 := lt_s h49 (st_c49 (cA := cA) (b := b) (aW := aW) (aD := aD) (q0 := q0) (q1 := q1) (q2 := q2) (u := u) (v := v) (Ls := Ls) (xs := xs))
  have h51 := lt_s h50 (st_c50 (cA := cA) (b := b) (aW := aW) (aD := aD) (q0 := q0) (q1 := q1) (q2 := q2) (u := u) (v := v) (Ls := Ls) (xs := xs))
  have h52 := lt_s h51 (st_c51 (cA := cA) (b := b) (aW := aW) (aD := aD) (q0 := q0) (q1 := q1) (q2 := q2) (u := u) (v := v) (Ls := Ls) (xs := xs))
  have h53 := lt_s h52 (st_c52 (cA := cA) (b := b) (aW := aW) (aD := aD) (q0 := q0) (q1 := q1) (q2 := q2) (u := u) (v := v) (Ls := Ls) (xs := xs))
  have h54 := lt_s h53 (st_c53 (cA := cA) (b := b) (aW := aW) (aD := aD) (q0 := q0) (q1 := q1) (q2 := q2) (u := u) (v := v) (Ls := Ls) (xs := xs))
  have h55 := lt_s h54 (st_c54 (cA := cA) (b := b) (aW := aW) (aD := aD) (q0 := q0) (q1 := q1) (q2 := q2) (u := u) (v := v) (Ls := Ls) (xs := xs))
  have h56 := lt_s h55 (st_c55 (cA := cA) (b := b) (aW := aW) (aD := aD) (q0 := q0) (q1 := q1) (q2 := q2) (u := u) (v := v) (Ls := Ls) (xs := xs))
  have h57 := lt_s h56 (st_c56 (cA := cA) (b := b) (aW := aW) (aD := aD) (q0 := q0) (q1 := q1) (q2 := q2) (u := u) (v := v) (Ls := Ls) (xs := xs))
  have h58 := lt_s h57 (st_c57 (cA := cA) (b := b) (aW := aW) (aD := aD) (q0 := q0) (q1 := q1) (q2 := q2) (u := u) (v := v) (Ls := Ls) (xs := xs))
  have h59 := lt_s h58 (st_c58 (cA := cA) (b := b) (aW := aW) (aD := aD) (q0 := q0) (q1 := q1) (q2 := q2) (u := u) (v := v) (Ls := Ls) (xs := xs))
  have h60 := lt_s h59 (st_c59 (cA := cA) (b := b) (aW := aW) (aD := aD) (q0 := q0) (q1 := q1) (q2 := q2) (u := u) (v := v) (Ls := Ls) (xs := xs))
  have h61 := lt_s h60 (st_c60 (cA := cA) (b := b) (aW := aW) (aD := aD) (q0 := q0) (q1 := q1) (q2 := q2) (u := u) (v := v) (Ls := Ls) (xs := xs))
  have h62 := lt_s h61 (st_c61 (cA := cA) (b := b) (aW := aW) (aD := aD) (q0 := q0) (q1 := q1) (q2 := q2) (u := u) (v := v) (Ls := Ls) (xs := xs))
  have h63 := lt_s h62 (st_c62 (cA := cA) (b := b) (aW := aW) (aD := aD) (q0 := q0) (q1 := q1) (q2 := q2) (u := u) (v := v) (Ls := Ls) (xs := xs))
  have h64 := lt_s h63 (st_c63 (cA := cA) (b := b) (aW := aW) (aD := aD) (q0 := q0) (q1 := q1) (q2 := q2) (u := u) (v := v) (Ls := Ls) (xs := xs))
  have h65 := lt_s h64 (st_c64 (cA := cA) (b := b) (aW := aW) (aD := aD) (q0 := q0) (q1 := q1) (q2 := q2) (u := u) (v := v) (Ls := Ls) (xs := xs))
  have h66 := lt_s h65 (st_c65 (cA := cA) (b := b) (aW := aW) (aD := aD) (q0 := q0) (q1 := q1) (q2 := q2) (u := u) (v := v) (Ls := Ls) (xs := xs))
  have h67 := lt_s h66 (st_c66 (cA := cA) (b := b) (aW := aW) (aD := aD) (q0 := q0) (q1 := q1) (q2 := q2) (u := u) (v := v) (Ls := Ls) (xs := xs))
  have h68 := lt_s h67 (st_c67 (cA := cA) (b := b) (aW := aW) (aD := aD) (q0 := q0) (q1 := q1) (q2 := q2) (u := u) (v := v) (Ls := Ls) (xs := xs))
  have h69 := lt_s h68 (st_c68 (cA := cA) (b := b) (aW := aW) (aD := aD) (q0 := q0) (q1 := q1) (q2 := q2) (u := u) (v := v) (Ls := Ls) (xs := xs))
  have h70 := lt_s h69 (st_c69 (cA := cA) (b := b) (aW := aW) (aD := aD) (q0 := q0) (q1 := q1) (q2 := q2) (u := u) (v := v) (Ls := Ls) (xs := xs))
  have h71 := lt_s h70 (st_c70 (cA := cA) (b := b) (aW := aW) (aD := aD) (q0 := q0) (q1 := q1) (q2 := q2) (u := u) (v := v) (Ls := Ls) (xs := xs))
  have h72 := lt_s h71 (st_c71 (cA := cA) (b := b) (aW := aW) (aD := aD) (q0 := q0) (q1 := q1) (q2 := q2) (u := u) (v := v) (Ls := Ls) (xs := xs))
  have h73 := lt_s h72 (st_c72 (cA := cA) (b := b) (aW := aW) (aD := aD) (q0 := q0) (q1 := q1) (q2 := q2) (u := u) (v := v) (Ls := Ls) (xs := xs))
  have h74 := lt_s h73 (st_c73 (cA := cA) (b := b) (aW := aW) (aD := aD) (q0 := q0) (q1 := q1) (q2 := q2) (u := u) (v := v) (Ls := Ls) (xs := xs))
  have h75 := lt_s h74 (st_c74 (cA := cA) (b := b) (aW := aW) (aD := aD) (q0 := q0) (q1 := q1) (q2 := q2) (u := u) (v := v) (Ls := Ls) (xs := xs))
  have h76 := lt_s h75 (st_c75 (cA := cA) (b := b) (aW := aW) (aD := aD) (q0 := q0) (q1 := q1) (q2 := q2) (u := u) (v := v) (Ls := Ls) (xs := xs))
  have h77 := lt_s h76 (st_c76 (cA := cA) (b := b) (aW := aW) (aD := aD) (q0 := q0) (q1 := q1) (q2 := q2) (u := u) (v := v) (Ls := Ls) (xs := xs))
  have h78 := lt_s h77 (st_c77 (cA := cA) (b := b) (aW := aW) (aD := aD) (q0 := q0) (q1 := q1) (q2 := q2) (u := u) (v := v) (Ls := Ls) (xs := xs))
  have h79 := lt_s h78 (st_c78 (cA := cA) (b := b) (aW := aW) (aD := aD) (q0 := q0) (q1 := q1) (q2 := q2) (u := u) (v := v) (Ls := Ls) (xs := xs))
  have h80 := lt_s h79 (st_c79 (cA := cA) (b := b) (aW := aW) (aD := aD) (q0 := q0) (q1 := q1) (q2 := q2) (u := u) (v := v) (Ls := Ls) (xs := xs))
  have h81 := lt_s h80 (st_c80 (cA := cA) (b := b) (aW := aW) (aD := aD) (q0 := q0) (q1 := q1) (q2 := q2) (u := u) (v := v) (Ls := Ls) (xs := xs))
  have h82 := lt_s h81 (st_c81 (cA := cA) (b := b) (aW := aW) (aD := aD) (q0 := q0) (q1 := q1) (q2 := q2) (u := u) (v := v) (Ls := Ls) (xs := xs))
  have h83 := lt_s h82 (st_c82 (cA := cA) (b := b) (aW := aW) (aD := aD) (q0 := q0) (q1 := q1) (q2 := q2) (u := u) (v := v) (Ls := Ls) (xs := xs))
  have h84 := lt_s h83 (st_c83 (cA := cA) (b := b) (aW := aW) (aD := aD) (q0 := q0) (q1 := q1) (q2 := q2) (u := u) (v := v) (Ls := Ls) (xs := xs))
  have h85 := lt_s h84 (st_c84 (cA := cA) (b := b) (aW := aW) (aD := aD) (q0 := q0) (q1 := q1) (q2 := q2) (u := u) (v := v) (Ls := Ls) (xs := xs))
  have h86 := lt_s h85 (st_c85 (cA := cA) (b := b) (aW := aW) (aD := aD) (q0 := q0) (q1 := q1) (q2 := q2) (u := u) (v := v) (Ls := Ls) (xs := xs))
  have h87 := lt_s h86 (st_c86 (cA := cA) (b := b) (aW := aW) (aD := aD) (q0 := q0) (q1 := q1) (q2 := q2) (u := u) (v := v) (Ls := Ls) (xs := xs))
  have h88 := lt_s h87 (st_c87 (cA := cA) (b := b) (aW := aW) (aD := aD) (q0 := q0) (q1 := q1) (q2 := q2) (u := u) (v := v) (Ls := Ls) (xs := xs))
  have h89 := lt_s h88 (st_c88 (cA := cA) (b := b) (aW := aW) (aD := aD) (q0 := q0) (q1 := q1) (q2 := q2) (u := u) (v := v) (Ls := Ls) (xs := xs))
  have h90 := lt_s h89 (st_c89 (cA := cA) (b := b) (aW := aW) (aD := aD) (q0 := q0) (q1 := q1) (q2 := q2) (u := u) (v := v) (Ls := Ls) (xs := xs))
  have h91 := lt_s h90 (st_c90 (cA := cA) (b := b) (aW := aW) (aD := aD) (q0 := q0) (q1 := q1) (q2 := q2) (u := u) (v := v) (Ls := Ls) (xs := xs))
  have h92 := lt_s h91 (st_c91 (cA := cA) (b := b) (aW := aW) (aD := aD) (q0 := q0) (q1 := q1) (q2 := q2) (u := u) (v := v) (Ls := Ls) (xs := xs))
  have h93 := lt_s h92 (st_c92 (cA := cA) (b := b) (aW := aW) (aD := aD) (q0 := q0) (q1 := q1) (q2 := q2) (u := u) (v := v) (Ls := Ls) (xs := xs))
  have h94 := lt_s h93 (st_c93 (cA := cA) (b := b) (aW := aW) (aD := aD) (q0 := q0) (q1 := q1) (q2 := q2) (u := u) (v := v) (Ls := Ls) (xs := xs))
  have h95 := lt_s h94 (st_c94 (cA := cA) (b := b) (aW := aW) (aD := aD) (q0 := q0) (q1 := q1) (q2 := q2) (u := u) (v := v) (Ls := Ls) (xs := xs))
  have h96 := lt_s h95 (st_c95 (cA := cA) (b := b) (aW := aW) (aD := aD) (q0 := q0) (q1 := q1) (q2 := q2) (u := u) (v := v) (Ls := Ls) (xs := xs))
  have h97 := lt_s h96 (st_c96 (cA := cA) (b := b) (aW := aW) (aD := aD) (q0 := q0) (q1 := q1) (q2 := q2) (u := u) (v := v) (Ls := Ls) (xs := xs))
  have h98 := lt_s h97 (st_c97 (cA := cA) (b := b) (aW := aW) (aD := aD) (q0 := q0) (q1 := q1) (q2 := q2) (u := u) (v := v) (Ls := Ls) (xs := xs))
  have h99 := lt_s h98 (st_c98 (cA := cA) (b := b) (aW := aW) (aD := aD) (q0 := q0) (q1 := q1) (q2 := q2) (u := u) (v := v) (Ls := Ls) (xs := xs))
  have h100 := lt_s h99 (st_c99 (cA := cA) (b := b) (aW := aW) (aD := aD) (q0 := q0) (q1 := q1) (q2 := q2) (u := u) (v := v) (Ls := Ls) (xs := xs))
  have h101 := lt_s h100 (st_c100 (cA := cA) (b := b) (aW := aW) (aD := aD) (q0 := q0) (q1 := q1) (q2 := q2) (u := u) (v := v) (Ls := Ls) (xs := xs))
  have h102 := lt_s h101 (st_c101 (cA := cA) (b := b) (aW := aW) (aD := aD) (q0 := q0) (q1 := q1) (q2 := q2) (u := u) (v := v) (Ls := Ls) (xs := xs))
  have h103 := lt_s h102 (st_c102 (cA := cA) (b := b) (aW := aW) (aD := aD) (q0 := q0) (q1 := q1) (q2 := q2) (u := u) (v := v) (Ls := Ls) (xs := xs))
  have h104 := lt_s h103 (st_c103 (cA := cA) (b := b) (aW := aW) (aD := aD) (q0 := q0) (q1 := q1) (q2 := q2) (u := u) (v := v) (Ls := Ls) (xs := xs))
  have h105 := lt_s h104 (st_c104 (cA := cA) (b := b) (aW := aW) (aD := aD) (q0 := q0) (q1 := q1) (q2 := q2) (u := u) (v := v) (Ls := Ls) (xs := xs))
  have h106 := lt_s h105 (st_c105 (cA := cA) (b := b) (aW := aW) (aD := aD) (q0 := q0) (q1 := q1) (q2 := q2) (u := u) (v := v) (Ls := Ls) (xs := xs))
  have h107 := lt_s h106 (st_c106 (cA := cA) (b := b) (aW := aW) (aD := aD) (q0 := q0) (q1 := q1) (q2 := q2) (u := u) (v := v) (Ls := Ls) (xs := xs))
  exact h107
theorem st_inj : ∀ i : Nat, i < 107 → ∀ j : Nat, j < 107 → st_pi.getD i 0 = st_pi.getD j 0 → i = j := by decide +kernel
end ST
