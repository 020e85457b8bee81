/-! PLACES: where no fault is told at the end, none was told before, and its place is as it was. -/
def pl_R (c i j : Nat) (M M' : mv_M) : Prop := M'.1 c i = 0 → M.1 c i = 0 ∧ M'.1 c j = M.1 c j
def pl_rl {α : Type} (c i j : Nat) (o : Option (α × mv_M)) (M : mv_M) : Prop := ∀ r M', o = some (r, M') → pl_R c i j M M'
section PLR
variable {α β : Type} {c i j : Nat} {M M' M1 : mv_M}
theorem plR_rfl : pl_R c i j M M := fun h => ⟨h, rfl⟩
theorem plR_trans (h1 : pl_R c i j M M1) (h2 : pl_R c i j M1 M') : pl_R c i j M M' := fun h => ⟨(h1 (h2 h).1).1, (h2 h).2.trans (h1 (h2 h).1).2⟩
theorem rl_si {c' k' : Nat} {v : Int32} (h : c' ≠ c ∨ (k' ≠ i ∧ k' ≠ j)) : pl_R c i j M (mv_si M c' k' v) := by
  have e1 : (mv_si M c' k' v).1 c i = M.1 c i := rd_mi (by omega)
  have e2 : (mv_si M c' k' v).1 c j = M.1 c j := rd_mi (by omega)
  intro z
  rw [e1] at z
  exact ⟨z, e2⟩
theorem rl_sl {c' k' : Nat} {v : Int64} : pl_R c i j M (mv_sl M c' k' v) := fun h => ⟨h, rfl⟩
theorem rl_sr {c' k' : Nat} {v : Option Nat} : pl_R c i j M (mv_sr M c' k' v) := fun h => ⟨h, rfl⟩
theorem rl_some {r : α} : pl_rl c i j (some (r, M)) M := fun r' M' h => by
  cases h
  exact plR_rfl
theorem rl_none : pl_rl c i j (none : Option (α × mv_M)) M := fun r' M' h => by cases h
theorem rl_let {γ : Type} {v : γ} {f : γ → Option (α × mv_M)} (h : ∀ x, pl_rl c i j (f x) M) : pl_rl c i j (mv_let v f) M := h v
theorem rl_letM {v : mv_M} {f : mv_M → Option (α × mv_M)} (h1 : pl_R c i j M v) (h : ∀ x, pl_rl c i j (f x) x) : pl_rl c i j (mv_let v f) M := fun r M' e => plR_trans h1 (h v r M' e)
theorem rl_if {q : Prop} [Decidable q] {a b : Option (α × mv_M)} (ha : pl_rl c i j a M) (hb : pl_rl c i j b M) : pl_rl c i j (if q then a else b) M := by
  by_cases hc : q
  · rw [if_pos hc]; exact ha
  · rw [if_neg hc]; exact hb
theorem rl_chk {b : Bool} {o : Option (α × mv_M)} (h : pl_rl c i j o M) : pl_rl c i j (mv_chk b o) M := by
  cases b with
  | true => exact h
  | false => exact rl_none
theorem rl_getp {o : Option Nat} {f : Nat → Option (α × mv_M)} (h : ∀ b, (b = 9 ∨ b = 24) → pl_rl c i j (f b) M) : pl_rl c i j (mv_getp o f) M := by
  cases o with
  | none => exact rl_none
  | some b =>
    intro r M' e
    by_cases hb : b = 9 ∨ b = 24
    · exact h b hb r M' (by
        have h1 : (decide (b = 9) || decide (b = 24)) = true := by simpa using hb
        unfold mv_getp at e
        dsimp only at e
        rw [h1] at e
        exact e)
    · have h1 : (decide (b = 9) || decide (b = 24)) = false := by simpa using hb
      unfold mv_getp at e
      dsimp only at e
      rw [h1] at e
      cases e
theorem rl_bind {o : Option (β × mv_M)} {f : β → mv_M → Option (α × mv_M)} (h1 : pl_rl c i j o M) (h : ∀ r M1, pl_rl c i j (f r M1) M1) : pl_rl c i j (mv_bind o f) M := by
  cases o with
  | none => exact rl_none
  | some q => exact fun r M' e => plR_trans (h1 q.1 q.2 rfl) (h q.1 q.2 r M' e)
theorem rl_inr {σ : Type} {o : Option (α × mv_M)} (h : pl_rl c i j o M) : pl_rl c i j (mv_inr (σ := σ) o) M := by
  cases o with
  | none => exact rl_none
  | some q =>
    intro r M' e
    cases e
    exact h q.1 q.2 rfl
theorem rl_it {σ τ : Type} {g : σ → mv_M → Option ((σ ⊕ τ) × mv_M)} (h : ∀ s M, pl_rl c i j (g s M) M) : ∀ n s M, pl_rl c i j (mv_it g n s M) M := by
  intro n
  induction n with
  | zero => exact fun s M => rl_none
  | succ n ih =>
    intro s M r M' e
    rw [mv_it] at e
    match hg : g s M with
    | none => rw [hg] at e; cases e
    | some (.inl s', M1) => rw [hg] at e; exact plR_trans (h s M _ M1 hg) (ih s' M1 r M' e)
    | some (.inr t, M1) =>
      rw [hg] at e
      cases e
      exact h s M _ _ hg
theorem rl_loop {σ τ : Type} {g : σ → mv_M → Option ((σ ⊕ τ) × mv_M)} (h : ∀ s M, pl_rl c i j (g s M) M) (s : σ) (M : mv_M) : pl_rl c i j (mv_loop g s M) M := rl_it h _ s M
theorem rl_of {S : Nat → Nat → Bool} {o : Option (α × mv_M)} (h0 : S c i = false) (h1 : S c j = false) (h : mv_frm S o M) : pl_rl c i j o M := fun r M' e z => by
  have w := h r M' e
  rw [(w c i h0).1] at z
  exact ⟨z, (w c j h1).1⟩
end PLR
theorem iX0_tell (a0 a1 : Int32) (h0 : a0 ≠ 0) (M : mv_M) : pl_rl 1 0 1 (fX0_tell a0 a1 M) M := by
  unfold fX0_tell
  intro r M' e
  by_cases hz : M.1 1 0 = 0
  · rw [if_pos hz] at e
    cases e
    intro z
    rw [rd_mi (by omega), rd_hi ⟨rfl, rfl⟩] at z
    exact absurd z h0
  · rw [if_neg hz] at e
    cases e
    exact plR_rfl
theorem iX11_stop (a0 a1 : Int32) (h0 : a0 ≠ 0) (M : mv_M) : pl_rl 62 9 10 (fX11_stop a0 a1 M) M := by
  unfold fX11_stop
  intro r M' e
  by_cases hz : M.1 62 9 = 0
  · rw [if_pos hz] at e
    cases e
    intro z
    rw [rd_mi (by omega), rd_hi ⟨rfl, rfl⟩] at z
    exact absurd z h0
  · rw [if_neg hz] at e
    cases e
    exact plR_rfl
set_option maxRecDepth 100000 in
theorem iX3_stop_17 (s0 : Int32) (hs0 : s0 ≠ 0) (M : mv_M) : pl_rl 1 0 1 (fX3_stop_17 s0 M) M := by
  unfold fX3_stop_17
  refine rl_bind (rl_of (by decide) (by decide) (qX8_startOf (M.1 3 3) M)) (fun r3 M4 => ?_)
  refine rl_bind (iX0_tell s0 r3 hs0 M4) (fun _ M5 => ?_)
  refine rl_letM (by first | exact rl_si (by first | decide | omega) | exact rl_sl | exact rl_sr) (fun M6 => ?_)
  exact rl_some
set_option maxRecDepth 100000 in
theorem iX3_stop (a0 : Int32) (ha0 : a0 ≠ 0) (M : mv_M) : pl_rl 1 0 1 (fX3_stop a0 M) M := by
  unfold fX3_stop
  refine rl_bind (rl_of (by decide) (by decide) (qX3_kind M)) (fun r1 M2 => ?_)
  refine rl_if ?_ ?_
  · exact iX3_stop_17 1 (by decide) M2
  · exact iX3_stop_17 a0 ha0 M2
set_option maxRecDepth 100000 in
theorem iX3_pass (M : mv_M) : pl_rl 1 0 1 (fX3_pass M) M := by
  unfold fX3_pass
  refine rl_if ?_ ?_
  · refine rl_letM (by first | exact rl_si (by first | decide | omega) | exact rl_sl | exact rl_sr) (fun M1 => ?_)
    exact rl_some
  · refine rl_bind (iX3_stop 6 (by decide) M) (fun _ M2 => ?_)
    exact rl_some
set_option maxRecDepth 100000 in
theorem iX3_takeNewName (a0 : Int32) (a1 : Int32) (M : mv_M) : pl_rl 1 0 1 (fX3_takeNewName a0 a1 M) M := by
  unfold fX3_takeNewName
  refine rl_bind (rl_of (by decide) (by decide) (qX3_kind M)) (fun r1 M2 => ?_)
  refine rl_if ?_ ?_
  · refine rl_if ?_ ?_
    · refine rl_if ?_ ?_
      · refine rl_bind (iX3_pass M2) (fun _ M3 => ?_)
        exact rl_some
      · refine rl_bind (iX3_stop 6 (by decide) M2) (fun _ M4 => ?_)
        exact rl_some
    · refine rl_bind (iX3_stop 3 (by decide) M2) (fun _ M5 => ?_)
      exact rl_some
  · refine rl_bind (iX3_stop 2 (by decide) M2) (fun _ M6 => ?_)
    exact rl_some
set_option maxRecDepth 100000 in
theorem iX3_take (a0 : Int32) (M : mv_M) : pl_rl 1 0 1 (fX3_take a0 M) M := by
  unfold fX3_take
  refine rl_bind (rl_of (by decide) (by decide) (qX3_kind M)) (fun r1 M2 => ?_)
  refine rl_if ?_ ?_
  · refine rl_bind (iX3_pass M2) (fun _ M4 => ?_)
    exact rl_some
  · refine rl_bind (iX3_stop 2 (by decide) M2) (fun _ M3 => ?_)
    exact rl_some
set_option maxRecDepth 100000 in
theorem iX3_parseType {r_X3_parseType : Int32 → mv_M → Option (Int32 × mv_M)} (hq_X3_parseType : ∀ (a0 : Int32) (M : mv_M), pl_rl 1 0 1 (r_X3_parseType a0 M) M) (a0 : Int32) (M : mv_M) : pl_rl 1 0 1 (fX3_parseType r_X3_parseType a0 M) M := by
  unfold fX3_parseType
  refine rl_bind (rl_of (by decide) (by decide) (qX3_kind M)) (fun r1 M2 => ?_)
  refine rl_if ?_ ?_
  · refine rl_if ?_ ?_
    · refine rl_bind (iX3_pass M2) (fun _ M3 => ?_)
      refine rl_bind (hq_X3_parseType (a0 + 1) M3) (fun r4 M5 => ?_)
      refine rl_bind (iX3_take 44 M5) (fun _ M6 => ?_)
      refine rl_bind (hq_X3_parseType (a0 + 1) M6) (fun r7 M8 => ?_)
      refine rl_bind (iX3_take 41 M8) (fun _ M9 => ?_)
      refine rl_bind (rl_of (by decide) (by decide) (qX6_pairOf r4 r7 M9)) (fun r10 M11 => ?_)
      exact rl_some
    · refine rl_bind (iX3_stop 6 (by decide) M2) (fun _ M12 => ?_)
      exact rl_some
  · refine rl_bind (iX3_take 300 M2) (fun _ M13 => ?_)
    exact rl_some
theorem iRX3_parseType : ∀ (n s : Nat) (a0 : Int32) (M : mv_M), pl_rl 1 0 1 (RX3_parseType n s a0 M) M := by
  intro n
  induction n with
  | zero =>
    intro s a0 M
    rw [RX3_parseType]
    exact rl_none
  | succ n ih =>
    intro s a0 M
    rw [RX3_parseType]
    exact iX3_parseType (fun a0 M => ih 0 a0 M) a0 M
theorem itX3_parseType (a0 : Int32) (M : mv_M) : pl_rl 1 0 1 (tX3_parseType a0 M) M := iRX3_parseType 12 0 a0 M
set_option maxRecDepth 100000 in
theorem iX3_parseParam_60 (x1 : Int64) (x4 : Int32) (s0 : Int32) (M : mv_M) : pl_rl 1 0 1 (fX3_parseParam_60 x1 x4 s0 M) M := by
  unfold fX3_parseParam_60
  refine rl_let (fun v23 => ?_)
  exact rl_some
set_option maxRecDepth 100000 in
theorem iX3_parseParam_55 (x1 : Int64) (x4 : Int32) (M : mv_M) : pl_rl 1 0 1 (fX3_parseParam_55 x1 x4 M) M := by
  unfold fX3_parseParam_55
  exact iX3_parseParam_60 x1 x4 1 M
set_option maxRecDepth 100000 in
theorem iX3_parseParam_90 (x1 : Int64) (s0 : Int32) (s1 : Int32) (M : mv_M) : pl_rl 1 0 1 (fX3_parseParam_90 x1 s0 s1 M) M := by
  unfold fX3_parseParam_90
  refine rl_bind (iX3_takeNewName s1 s0 M) (fun _ M10 => ?_)
  refine rl_if ?_ ?_
  · refine rl_getp (fun b11 hb11 => ?_)
    refine rl_bind (rl_of (by decide) (by decide) (qX4_addName b11 (M10.1 3 4) x1 M10 hb11)) (fun r12 M13 => ?_)
    refine rl_getp (fun b14 hb14 => ?_)
    refine rl_chk ?_
    refine rl_chk ?_
    refine rl_letM (by first | exact rl_si (by first | decide | omega) | exact rl_sl | exact rl_sr) (fun M17 => ?_)
    refine rl_bind (iX3_take 58 M17) (fun _ M18 => ?_)
    refine rl_getp (fun b19 hb19 => ?_)
    refine rl_bind (itX3_parseType 0 M18) (fun r20 M21 => ?_)
    refine rl_bind (rl_of (by decide) (by decide) (qX4_setNameType b19 (M18.1 3 4) r12 r20 M21 hb19)) (fun _ M22 => ?_)
    exact rl_some
  · exact rl_some
set_option maxRecDepth 100000 in
theorem iX3_parseParam_17 (x1 : Int64) (x3 : Int32) (x4 : Int32) (M : mv_M) : pl_rl 1 0 1 (fX3_parseParam_17 x1 x3 x4 M) M := by
  unfold fX3_parseParam_17
  refine rl_loop ?_ _ M
  rintro ⟨x1, x3, x4⟩ M
  try dsimp only
  unfold gX3_parseParam_17
  refine rl_getp (fun b3 hb3 => ?_)
  refine rl_chk ?_
  refine rl_if ?_ ?_
  · refine rl_getp (fun b5 hb5 => ?_)
    refine rl_chk ?_
    refine rl_if ?_ ?_
    · exact rl_inr (iX3_parseParam_90 x1 0 x3 M)
    · exact rl_inr (iX3_parseParam_90 x1 1 x3 M)
  · refine rl_if ?_ ?_
    · refine rl_getp (fun b7 hb7 => ?_)
      refine rl_bind (rl_of (by decide) (by decide) (qX4_isNamed b7 (M.1 3 4) x4 x1 M)) (fun r8 M9 => ?_)
      refine rl_if ?_ ?_
      · exact iX3_parseParam_60 x1 x4 0 M9
      · exact iX3_parseParam_55 x1 x4 M9
    · exact iX3_parseParam_55 x1 x4 M
set_option maxRecDepth 100000 in
theorem iX3_parseParam (M : mv_M) : pl_rl 1 0 1 (fX3_parseParam M) M := by
  unfold fX3_parseParam
  refine rl_bind (rl_of (by decide) (by decide) (qX8_textOf (M.1 3 3) M)) (fun r1 M2 => ?_)
  exact iX3_parseParam_17 r1 0 0 M2
set_option maxRecDepth 100000 in
theorem iX3_parseParams_6 (x1 : Int32) (M : mv_M) : pl_rl 1 0 1 (fX3_parseParams_6 x1 M) M := by
  unfold fX3_parseParams_6
  refine rl_loop ?_ _ M
  intro x1 M
  try dsimp only
  unfold gX3_parseParams_6
  refine rl_if ?_ ?_
  · exact rl_some
  · refine rl_bind (rl_of (by decide) (by decide) (qX3_kind M)) (fun r2 M3 => ?_)
    refine rl_if ?_ ?_
    · refine rl_bind (iX3_pass M3) (fun _ M4 => ?_)
      refine rl_bind (iX3_parseParam M4) (fun _ M5 => ?_)
      refine rl_let (fun v6 => ?_)
      exact rl_some
    · exact rl_some
set_option maxRecDepth 100000 in
theorem iX3_parseParams (M : mv_M) : pl_rl 1 0 1 (fX3_parseParams M) M := by
  unfold fX3_parseParams
  refine rl_bind (iX3_parseParam M) (fun _ M1 => ?_)
  exact iX3_parseParams_6 0 M1
set_option maxRecDepth 100000 in
theorem iX3_parseInnerName_46 (x3 : Int64) (s0 : Int32) (s1 : Int32) (M : mv_M) : pl_rl 1 0 1 (fX3_parseInnerName_46 x3 s0 s1 M) M := by
  unfold fX3_parseInnerName_46
  refine rl_bind (iX3_takeNewName s1 s0 M) (fun _ M5 => ?_)
  refine rl_if ?_ ?_
  · refine rl_getp (fun b6 hb6 => ?_)
    refine rl_bind (rl_of (by decide) (by decide) (qX4_addName b6 (M5.1 3 4) x3 M5 hb6)) (fun r7 M8 => ?_)
    exact rl_some
  · exact rl_some
set_option maxRecDepth 100000 in
theorem iX3_parseInnerName_24 (x3 : Int64) (s0 : Int32) (M : mv_M) : pl_rl 1 0 1 (fX3_parseInnerName_24 x3 s0 M) M := by
  unfold fX3_parseInnerName_24
  refine rl_getp (fun b3 hb3 => ?_)
  refine rl_chk ?_
  refine rl_if ?_ ?_
  · exact iX3_parseInnerName_46 x3 0 s0 M
  · exact iX3_parseInnerName_46 x3 1 s0 M
set_option maxRecDepth 100000 in
theorem iX3_parseInnerName (a0 : Int64) (M : mv_M) : pl_rl 1 0 1 (fX3_parseInnerName a0 M) M := by
  unfold fX3_parseInnerName
  refine rl_bind (rl_of (by decide) (by decide) (qX8_textOf (M.1 3 3) M)) (fun r1 M2 => ?_)
  refine rl_if ?_ ?_
  · exact iX3_parseInnerName_24 r1 1 M2
  · exact iX3_parseInnerName_24 r1 0 M2
set_option maxRecDepth 100000 in
theorem iX3_parseFail (a0 : Int32) (M : mv_M) : pl_rl 1 0 1 (fX3_parseFail a0 M) M := by
  unfold fX3_parseFail
  refine rl_bind (itX3_parseType 0 M) (fun r1 M2 => ?_)
  refine rl_getp (fun b3 hb3 => ?_)
  refine rl_bind (rl_of (by decide) (by decide) (qX4_addNode b3 308 a0 (-1) (-1) (-1) M2 hb3)) (fun r4 M5 => ?_)
  refine rl_getp (fun b6 hb6 => ?_)
  refine rl_bind (rl_of (by decide) (by decide) (qX4_hasNode b6 r4 M5)) (fun r7 M8 => ?_)
  refine rl_if ?_ ?_
  · exact rl_some
  · refine rl_getp (fun b9 hb9 => ?_)
    refine rl_chk ?_
    refine rl_letM (by first | exact rl_si (by first | decide | omega) | exact rl_sl | exact rl_sr) (fun M11 => ?_)
    exact rl_some
set_option maxRecDepth 100000 in
theorem iX3_parseInBrackets {r_X3_parseE : Int32 → mv_M → Option (Int32 × mv_M)} (hq_X3_parseE : ∀ (a0 : Int32) (M : mv_M), pl_rl 1 0 1 (r_X3_parseE a0 M) M) (a0 : Int32) (a1 : Int32) (M : mv_M) : pl_rl 1 0 1 (fX3_parseInBrackets r_X3_parseE a0 a1 M) M := by
  unfold fX3_parseInBrackets
  refine rl_bind (hq_X3_parseE a1 M) (fun r1 M2 => ?_)
  refine rl_bind (rl_of (by decide) (by decide) (qX3_kind M2)) (fun r3 M4 => ?_)
  refine rl_if ?_ ?_
  · refine rl_bind (iX3_pass M4) (fun _ M5 => ?_)
    refine rl_bind (hq_X3_parseE a1 M5) (fun r6 M7 => ?_)
    refine rl_bind (iX3_take 41 M7) (fun _ M8 => ?_)
    refine rl_getp (fun b9 hb9 => ?_)
    refine rl_bind (rl_of (by decide) (by decide) (qX4_addNode b9 6 a0 r1 r6 (-1) M8 hb9)) (fun r10 M11 => ?_)
    exact rl_some
  · refine rl_bind (iX3_take 41 M4) (fun _ M12 => ?_)
    exact rl_some
set_option maxRecDepth 100000 in
theorem iX3_parseCall_87 {r_X3_parseE : Int32 → mv_M → Option (Int32 × mv_M)} (hq_X3_parseE : ∀ (a0 : Int32) (M : mv_M), pl_rl 1 0 1 (r_X3_parseE a0 M) M) (x1 : Int32) (x2 : Int32) (x3 : Int32) (x4 : Int32) (x6 : Int32) (M : mv_M) : pl_rl 1 0 1 (fX3_parseCall_87 r_X3_parseE x1 x2 x3 x4 x6 M) M := by
  unfold fX3_parseCall_87
  refine rl_let (fun v21 => ?_)
  exact rl_some
set_option maxRecDepth 100000 in
theorem iX3_parseCall_97 {r_X3_parseE : Int32 → mv_M → Option (Int32 × mv_M)} (hq_X3_parseE : ∀ (a0 : Int32) (M : mv_M), pl_rl 1 0 1 (r_X3_parseE a0 M) M) (x1 : Int32) (x3 : Int32) (x4 : Int32) (M : mv_M) : pl_rl 1 0 1 (fX3_parseCall_97 r_X3_parseE x1 x3 x4 M) M := by
  unfold fX3_parseCall_97
  refine rl_bind (iX3_take 41 M) (fun _ M17 => ?_)
  refine rl_getp (fun b18 hb18 => ?_)
  refine rl_bind (rl_of (by decide) (by decide) (qX4_addNode b18 5 x1 (-1) x3 x4 M17 hb18)) (fun r19 M20 => ?_)
  exact rl_some
set_option maxRecDepth 100000 in
theorem iX3_parseCall_30 {r_X3_parseE : Int32 → mv_M → Option (Int32 × mv_M)} (hq_X3_parseE : ∀ (a0 : Int32) (M : mv_M), pl_rl 1 0 1 (r_X3_parseE a0 M) M) (x1 : Int32) (x2 : Int32) (x3 : Int32) (x4 : Int32) (x5 : Int32) (M : mv_M) : pl_rl 1 0 1 (fX3_parseCall_30 r_X3_parseE x1 x2 x3 x4 x5 M) M := by
  unfold fX3_parseCall_30
  refine rl_loop ?_ _ M
  rintro ⟨x1, x2, x3, x4, x5⟩ M
  try dsimp only
  unfold gX3_parseCall_30
  refine rl_if ?_ ?_
  · exact rl_inr (iX3_parseCall_97 hq_X3_parseE x1 x3 x4 M)
  · refine rl_if ?_ ?_
    · exact rl_inr (iX3_parseCall_97 hq_X3_parseE x1 x3 x4 M)
    · refine rl_bind (rl_of (by decide) (by decide) (qX3_kind M)) (fun r6 M7 => ?_)
      refine rl_if ?_ ?_
      · refine rl_bind (iX3_pass M7) (fun _ M8 => ?_)
        refine rl_bind (hq_X3_parseE x2 M8) (fun r9 M10 => ?_)
        refine rl_getp (fun b11 hb11 => ?_)
        refine rl_bind (rl_of (by decide) (by decide) (qX4_hasNode b11 x5 M10)) (fun r12 M13 => ?_)
        refine rl_if ?_ ?_
        · exact iX3_parseCall_87 hq_X3_parseE x1 x2 x3 x4 r9 M13
        · refine rl_getp (fun b14 hb14 => ?_)
          refine rl_chk ?_
          refine rl_letM (by first | exact rl_si (by first | decide | omega) | exact rl_sl | exact rl_sr) (fun M16 => ?_)
          exact iX3_parseCall_87 hq_X3_parseE x1 x2 x3 x4 r9 M16
      · exact rl_inr (iX3_parseCall_97 hq_X3_parseE x1 x3 x4 M7)
set_option maxRecDepth 100000 in
theorem iX3_parseCall_27 {r_X3_parseE : Int32 → mv_M → Option (Int32 × mv_M)} (hq_X3_parseE : ∀ (a0 : Int32) (M : mv_M), pl_rl 1 0 1 (r_X3_parseE a0 M) M) (x1 : Int32) (x2 : Int32) (x3 : Int32) (x4 : Int32) (M : mv_M) : pl_rl 1 0 1 (fX3_parseCall_27 r_X3_parseE x1 x2 x3 x4 M) M := by
  unfold fX3_parseCall_27
  exact iX3_parseCall_30 hq_X3_parseE x1 x2 x3 x4 x3 M
set_option maxRecDepth 100000 in
theorem iX3_parseCall {r_X3_parseE : Int32 → mv_M → Option (Int32 × mv_M)} (hq_X3_parseE : ∀ (a0 : Int32) (M : mv_M), pl_rl 1 0 1 (r_X3_parseE a0 M) M) (a0 : Int32) (a1 : Int32) (M : mv_M) : pl_rl 1 0 1 (fX3_parseCall r_X3_parseE a0 a1 M) M := by
  unfold fX3_parseCall
  refine rl_bind (iX3_pass M) (fun _ M1 => ?_)
  refine rl_bind (rl_of (by decide) (by decide) (qX3_kind M1)) (fun r2 M3 => ?_)
  refine rl_if ?_ ?_
  · exact iX3_parseCall_27 hq_X3_parseE a0 a1 (-1) 0 M3
  · refine rl_bind (hq_X3_parseE a1 M3) (fun r4 M5 => ?_)
    exact iX3_parseCall_27 hq_X3_parseE a0 a1 r4 1 M5
set_option maxRecDepth 100000 in
theorem iX3_parseAtom {r_X3_parseCall : Int32 → Int32 → mv_M → Option (Int32 × mv_M)} {r_X3_parseInBrackets : Int32 → Int32 → mv_M → Option (Int32 × mv_M)} (hq_X3_parseCall : ∀ (a0 : Int32) (a1 : Int32) (M : mv_M), pl_rl 1 0 1 (r_X3_parseCall a0 a1 M) M) (hq_X3_parseInBrackets : ∀ (a0 : Int32) (a1 : Int32) (M : mv_M), pl_rl 1 0 1 (r_X3_parseInBrackets a0 a1 M) M) (a0 : Int32) (M : mv_M) : pl_rl 1 0 1 (fX3_parseAtom r_X3_parseCall r_X3_parseInBrackets a0 M) M := by
  unfold fX3_parseAtom
  refine rl_let (fun v1 => ?_)
  refine rl_bind (rl_of (by decide) (by decide) (qX3_kind M)) (fun r2 M3 => ?_)
  refine rl_if ?_ ?_
  · refine rl_bind (iX3_pass M3) (fun _ M5 => ?_)
    refine rl_bind (rl_of (by decide) (by decide) (qX3_kind M5)) (fun r6 M7 => ?_)
    refine rl_if ?_ ?_
    · refine rl_bind (hq_X3_parseCall v1 a0 M7) (fun r11 M12 => ?_)
      exact rl_some
    · refine rl_getp (fun b8 hb8 => ?_)
      refine rl_bind (rl_of (by decide) (by decide) (qX4_addNode b8 2 v1 (-1) (-1) (-1) M7 hb8)) (fun r9 M10 => ?_)
      exact rl_some
  · skip
    refine rl_if ?_ ?_
    · refine rl_bind (iX3_pass M3) (fun _ M14 => ?_)
      refine rl_getp (fun b15 hb15 => ?_)
      refine rl_bind (rl_of (by decide) (by decide) (qX8_textOf v1 M14)) (fun r16 M17 => ?_)
      refine rl_bind (rl_of (by decide) (by decide) (qX4_addNode b15 3 v1 (r16.toInt32) (-1) (-1) M17 hb15)) (fun r18 M19 => ?_)
      exact rl_some
    · skip
      refine rl_if ?_ ?_
      · refine rl_bind (iX3_pass M3) (fun _ M21 => ?_)
        refine rl_bind (hq_X3_parseInBrackets v1 a0 M21) (fun r22 M23 => ?_)
        exact rl_some
      · skip
        refine rl_if ?_ ?_
        · refine rl_bind (iX3_pass M3) (fun _ M25 => ?_)
          refine rl_bind (iX3_parseFail v1 M25) (fun r26 M27 => ?_)
          exact rl_some
        · skip
          refine rl_bind (iX3_stop 2 (by decide) M3) (fun _ M28 => ?_)
          exact rl_some
set_option maxRecDepth 100000 in
theorem iX3_parseSides_74 {r_X3_parseAtom : Int32 → mv_M → Option (Int32 × mv_M)} {r_X3_parseSides : Int32 → Int32 → mv_M → Option (Int32 × mv_M)} (hq_X3_parseAtom : ∀ (a0 : Int32) (M : mv_M), pl_rl 1 0 1 (r_X3_parseAtom a0 M) M) (hq_X3_parseSides : ∀ (a0 : Int32) (a1 : Int32) (M : mv_M), pl_rl 1 0 1 (r_X3_parseSides a0 a1 M) M) (x3 : Int32) (x4 : Int32) (x5 : Int32) (s0 : Int32) (M : mv_M) : pl_rl 1 0 1 (fX3_parseSides_74 r_X3_parseAtom r_X3_parseSides x3 x4 x5 s0 M) M := by
  unfold fX3_parseSides_74
  refine rl_getp (fun b17 hb17 => ?_)
  refine rl_bind (rl_of (by decide) (by decide) (qX4_addNode b17 x4 s0 x3 x5 (-1) M hb17)) (fun r18 M19 => ?_)
  exact rl_some
set_option maxRecDepth 100000 in
theorem iX3_parseSides {r_X3_parseAtom : Int32 → mv_M → Option (Int32 × mv_M)} {r_X3_parseSides : Int32 → Int32 → mv_M → Option (Int32 × mv_M)} (hq_X3_parseAtom : ∀ (a0 : Int32) (M : mv_M), pl_rl 1 0 1 (r_X3_parseAtom a0 M) M) (hq_X3_parseSides : ∀ (a0 : Int32) (a1 : Int32) (M : mv_M), pl_rl 1 0 1 (r_X3_parseSides a0 a1 M) M) (a0 : Int32) (a1 : Int32) (M : mv_M) : pl_rl 1 0 1 (fX3_parseSides r_X3_parseAtom r_X3_parseSides a0 a1 M) M := by
  unfold fX3_parseSides
  refine rl_if ?_ ?_
  · refine rl_bind (hq_X3_parseSides a0 (a1 + 1) M) (fun r1 M2 => ?_)
    refine rl_bind (rl_of (by decide) (by decide) (qX3_joinsAt a1 M2)) (fun r3 M4 => ?_)
    refine rl_if ?_ ?_
    · exact rl_some
    · refine rl_bind (rl_of (by decide) (by decide) (qX3_kind M4)) (fun r5 M6 => ?_)
      refine rl_bind (iX3_pass M6) (fun _ M7 => ?_)
      refine rl_bind (hq_X3_parseSides a0 (a1 + 1) M7) (fun r8 M9 => ?_)
      refine rl_getp (fun b10 hb10 => ?_)
      refine rl_bind (rl_of (by decide) (by decide) (qX4_hasNode b10 r1 M9)) (fun r11 M12 => ?_)
      refine rl_if ?_ ?_
      · exact iX3_parseSides_74 hq_X3_parseAtom hq_X3_parseSides r1 r5 r8 (-1) M12
      · refine rl_getp (fun b13 hb13 => ?_)
        refine rl_chk ?_
        exact iX3_parseSides_74 hq_X3_parseAtom hq_X3_parseSides r1 r5 r8 (M12.1 (b13 + 14) r1.toNatClampNeg) M12
  · refine rl_bind (hq_X3_parseAtom a0 M) (fun r15 M16 => ?_)
    exact rl_some
set_option maxRecDepth 100000 in
theorem iX3_parseIf {r_X3_parseE : Int32 → mv_M → Option (Int32 × mv_M)} (hq_X3_parseE : ∀ (a0 : Int32) (M : mv_M), pl_rl 1 0 1 (r_X3_parseE a0 M) M) (a0 : Int32) (M : mv_M) : pl_rl 1 0 1 (fX3_parseIf r_X3_parseE a0 M) M := by
  unfold fX3_parseIf
  refine rl_let (fun v1 => ?_)
  refine rl_bind (iX3_pass M) (fun _ M2 => ?_)
  refine rl_bind (hq_X3_parseE a0 M2) (fun r3 M4 => ?_)
  refine rl_bind (iX3_take 302 M4) (fun _ M5 => ?_)
  refine rl_bind (hq_X3_parseE a0 M5) (fun r6 M7 => ?_)
  refine rl_bind (iX3_take 303 M7) (fun _ M8 => ?_)
  refine rl_bind (hq_X3_parseE a0 M8) (fun r9 M10 => ?_)
  refine rl_getp (fun b11 hb11 => ?_)
  refine rl_bind (rl_of (by decide) (by decide) (qX4_addNode b11 301 v1 r3 r6 r9 M10 hb11)) (fun r12 M13 => ?_)
  exact rl_some
set_option maxRecDepth 100000 in
theorem iX3_parseCase {r_X3_parseE : Int32 → mv_M → Option (Int32 × mv_M)} (hq_X3_parseE : ∀ (a0 : Int32) (M : mv_M), pl_rl 1 0 1 (r_X3_parseE a0 M) M) (a0 : Int32) (M : mv_M) : pl_rl 1 0 1 (fX3_parseCase r_X3_parseE a0 M) M := by
  unfold fX3_parseCase
  refine rl_let (fun v1 => ?_)
  refine rl_bind (iX3_pass M) (fun _ M2 => ?_)
  refine rl_bind (hq_X3_parseE a0 M2) (fun r3 M4 => ?_)
  refine rl_bind (iX3_take 307 M4) (fun _ M5 => ?_)
  refine rl_bind (iX3_take 40 M5) (fun _ M6 => ?_)
  refine rl_bind (rl_of (by decide) (by decide) (qX8_textOf (M6.1 3 3) M6)) (fun r7 M8 => ?_)
  refine rl_bind (iX3_parseInnerName 0 M8) (fun r9 M10 => ?_)
  refine rl_bind (iX3_take 44 M10) (fun _ M11 => ?_)
  refine rl_bind (iX3_parseInnerName r7 M11) (fun r12 M13 => ?_)
  refine rl_bind (iX3_take 41 M13) (fun _ M14 => ?_)
  refine rl_bind (iX3_take 305 M14) (fun _ M15 => ?_)
  refine rl_bind (hq_X3_parseE a0 M15) (fun r16 M17 => ?_)
  refine rl_getp (fun b18 hb18 => ?_)
  refine rl_bind (rl_of (by decide) (by decide) (qX4_addNode b18 306 v1 r3 r16 r9 M17 hb18)) (fun r19 M20 => ?_)
  exact rl_some
set_option maxRecDepth 100000 in
theorem iX3_parseLet {r_X3_parseE : Int32 → mv_M → Option (Int32 × mv_M)} (hq_X3_parseE : ∀ (a0 : Int32) (M : mv_M), pl_rl 1 0 1 (r_X3_parseE a0 M) M) (a0 : Int32) (M : mv_M) : pl_rl 1 0 1 (fX3_parseLet r_X3_parseE a0 M) M := by
  unfold fX3_parseLet
  refine rl_let (fun v1 => ?_)
  refine rl_bind (iX3_pass M) (fun _ M2 => ?_)
  refine rl_bind (iX3_parseInnerName 0 M2) (fun r3 M4 => ?_)
  refine rl_bind (iX3_take 61 M4) (fun _ M5 => ?_)
  refine rl_bind (hq_X3_parseE a0 M5) (fun r6 M7 => ?_)
  refine rl_bind (iX3_take 305 M7) (fun _ M8 => ?_)
  refine rl_bind (hq_X3_parseE a0 M8) (fun r9 M10 => ?_)
  refine rl_getp (fun b11 hb11 => ?_)
  refine rl_bind (rl_of (by decide) (by decide) (qX4_addNode b11 304 v1 r6 r9 r3 M10 hb11)) (fun r12 M13 => ?_)
  exact rl_some
set_option maxRecDepth 100000 in
theorem iX3_parseE_27 {r_X3_parseCase : Int32 → mv_M → Option (Int32 × mv_M)} {r_X3_parseIf : Int32 → mv_M → Option (Int32 × mv_M)} {r_X3_parseLet : Int32 → mv_M → Option (Int32 × mv_M)} {r_X3_parseSides : Int32 → Int32 → mv_M → Option (Int32 × mv_M)} (hq_X3_parseCase : ∀ (a0 : Int32) (M : mv_M), pl_rl 1 0 1 (r_X3_parseCase a0 M) M) (hq_X3_parseIf : ∀ (a0 : Int32) (M : mv_M), pl_rl 1 0 1 (r_X3_parseIf a0 M) M) (hq_X3_parseLet : ∀ (a0 : Int32) (M : mv_M), pl_rl 1 0 1 (r_X3_parseLet a0 M) M) (hq_X3_parseSides : ∀ (a0 : Int32) (a1 : Int32) (M : mv_M), pl_rl 1 0 1 (r_X3_parseSides a0 a1 M) M) (s0 : Int32) (hs0 : s0 ≠ 0) (M : mv_M) : pl_rl 1 0 1 (fX3_parseE_27 r_X3_parseCase r_X3_parseIf r_X3_parseLet r_X3_parseSides s0 M) M := by
  unfold fX3_parseE_27
  refine rl_bind (iX3_stop s0 hs0 M) (fun _ M18 => ?_)
  exact rl_some
set_option maxRecDepth 100000 in
theorem iX3_parseE_13 {r_X3_parseCase : Int32 → mv_M → Option (Int32 × mv_M)} {r_X3_parseIf : Int32 → mv_M → Option (Int32 × mv_M)} {r_X3_parseLet : Int32 → mv_M → Option (Int32 × mv_M)} {r_X3_parseSides : Int32 → Int32 → mv_M → Option (Int32 × mv_M)} (hq_X3_parseCase : ∀ (a0 : Int32) (M : mv_M), pl_rl 1 0 1 (r_X3_parseCase a0 M) M) (hq_X3_parseIf : ∀ (a0 : Int32) (M : mv_M), pl_rl 1 0 1 (r_X3_parseIf a0 M) M) (hq_X3_parseLet : ∀ (a0 : Int32) (M : mv_M), pl_rl 1 0 1 (r_X3_parseLet a0 M) M) (hq_X3_parseSides : ∀ (a0 : Int32) (a1 : Int32) (M : mv_M), pl_rl 1 0 1 (r_X3_parseSides a0 a1 M) M) (M : mv_M) : pl_rl 1 0 1 (fX3_parseE_13 r_X3_parseCase r_X3_parseIf r_X3_parseLet r_X3_parseSides M) M := by
  unfold fX3_parseE_13
  refine rl_bind (rl_of (by decide) (by decide) (qX3_canBeginE M)) (fun r16 M17 => ?_)
  refine rl_if ?_ ?_
  · exact iX3_parseE_27 hq_X3_parseCase hq_X3_parseIf hq_X3_parseLet hq_X3_parseSides 2 (by decide) M17
  · exact iX3_parseE_27 hq_X3_parseCase hq_X3_parseIf hq_X3_parseLet hq_X3_parseSides 6 (by decide) M17
set_option maxRecDepth 100000 in
theorem iX3_parseE {r_X3_parseCase : Int32 → mv_M → Option (Int32 × mv_M)} {r_X3_parseIf : Int32 → mv_M → Option (Int32 × mv_M)} {r_X3_parseLet : Int32 → mv_M → Option (Int32 × mv_M)} {r_X3_parseSides : Int32 → Int32 → mv_M → Option (Int32 × mv_M)} (hq_X3_parseCase : ∀ (a0 : Int32) (M : mv_M), pl_rl 1 0 1 (r_X3_parseCase a0 M) M) (hq_X3_parseIf : ∀ (a0 : Int32) (M : mv_M), pl_rl 1 0 1 (r_X3_parseIf a0 M) M) (hq_X3_parseLet : ∀ (a0 : Int32) (M : mv_M), pl_rl 1 0 1 (r_X3_parseLet a0 M) M) (hq_X3_parseSides : ∀ (a0 : Int32) (a1 : Int32) (M : mv_M), pl_rl 1 0 1 (r_X3_parseSides a0 a1 M) M) (a0 : Int32) (M : mv_M) : pl_rl 1 0 1 (fX3_parseE r_X3_parseCase r_X3_parseIf r_X3_parseLet r_X3_parseSides a0 M) M := by
  unfold fX3_parseE
  refine rl_if ?_ ?_
  · exact iX3_parseE_13 hq_X3_parseCase hq_X3_parseIf hq_X3_parseLet hq_X3_parseSides M
  · refine rl_bind (rl_of (by decide) (by decide) (qX3_canBeginE M)) (fun r1 M2 => ?_)
    refine rl_if ?_ ?_
    · exact iX3_parseE_13 hq_X3_parseCase hq_X3_parseIf hq_X3_parseLet hq_X3_parseSides M2
    · refine rl_bind (rl_of (by decide) (by decide) (qX3_kind M2)) (fun r3 M4 => ?_)
      refine rl_if ?_ ?_
      · refine rl_bind (hq_X3_parseIf (a0 + 1) M4) (fun r6 M7 => ?_)
        exact rl_some
      · skip
        refine rl_if ?_ ?_
        · refine rl_bind (hq_X3_parseLet (a0 + 1) M4) (fun r9 M10 => ?_)
          exact rl_some
        · skip
          refine rl_if ?_ ?_
          · refine rl_bind (hq_X3_parseCase (a0 + 1) M4) (fun r12 M13 => ?_)
            exact rl_some
          · skip
            refine rl_bind (hq_X3_parseSides (a0 + 1) 0 M4) (fun r14 M15 => ?_)
            exact rl_some
theorem iRX3_parseE : ∀ (n s : Nat) (a0 : Int32) (a1 : Int32) (M : mv_M), pl_rl 1 0 1 (RX3_parseE n s a0 a1 M) M := by
  intro n
  induction n with
  | zero =>
    intro s a0 a1 M
    rw [RX3_parseE]
    exact rl_none
  | succ n ih =>
    intro s a0 a1 M
    rw [RX3_parseE]
    refine rl_if ?_ ?_
    · exact iX3_parseE (fun a0 M => ih 2 a0 0 M) (fun a0 M => ih 3 a0 0 M) (fun a0 M => ih 1 a0 0 M) (fun a0 a1 M => ih 4 a0 a1 M) a0 M
    refine rl_if ?_ ?_
    · exact iX3_parseLet (fun a0 M => ih 0 a0 0 M) a0 M
    refine rl_if ?_ ?_
    · exact iX3_parseCase (fun a0 M => ih 0 a0 0 M) a0 M
    refine rl_if ?_ ?_
    · exact iX3_parseIf (fun a0 M => ih 0 a0 0 M) a0 M
    refine rl_if ?_ ?_
    · exact iX3_parseSides (fun a0 M => ih 5 a0 0 M) (fun a0 a1 M => ih 4 a0 a1 M) a0 a1 M
    refine rl_if ?_ ?_
    · exact iX3_parseAtom (fun a0 a1 M => ih 7 a0 a1 M) (fun a0 a1 M => ih 6 a0 a1 M) a0 M
    refine rl_if ?_ ?_
    · exact iX3_parseInBrackets (fun a0 M => ih 0 a0 0 M) a0 a1 M
    exact iX3_parseCall (fun a0 M => ih 0 a0 0 M) a0 a1 M
theorem itX3_parseE (a0 : Int32) (M : mv_M) : pl_rl 1 0 1 (tX3_parseE a0 M) M := iRX3_parseE 220 0 a0 0 M
theorem itX3_parseLet (a0 : Int32) (M : mv_M) : pl_rl 1 0 1 (tX3_parseLet a0 M) M := iRX3_parseE 220 1 a0 0 M
theorem itX3_parseCase (a0 : Int32) (M : mv_M) : pl_rl 1 0 1 (tX3_parseCase a0 M) M := iRX3_parseE 220 2 a0 0 M
theorem itX3_parseIf (a0 : Int32) (M : mv_M) : pl_rl 1 0 1 (tX3_parseIf a0 M) M := iRX3_parseE 220 3 a0 0 M
theorem itX3_parseSides (a0 : Int32) (a1 : Int32) (M : mv_M) : pl_rl 1 0 1 (tX3_parseSides a0 a1 M) M := iRX3_parseE 220 4 a0 a1 M
theorem itX3_parseAtom (a0 : Int32) (M : mv_M) : pl_rl 1 0 1 (tX3_parseAtom a0 M) M := iRX3_parseE 220 5 a0 0 M
theorem itX3_parseInBrackets (a0 : Int32) (a1 : Int32) (M : mv_M) : pl_rl 1 0 1 (tX3_parseInBrackets a0 a1 M) M := iRX3_parseE 220 6 a0 a1 M
theorem itX3_parseCall (a0 : Int32) (a1 : Int32) (M : mv_M) : pl_rl 1 0 1 (tX3_parseCall a0 a1 M) M := iRX3_parseE 220 7 a0 a1 M
set_option maxRecDepth 100000 in
theorem iX3_parseFunction_99 (M : mv_M) : pl_rl 1 0 1 (fX3_parseFunction_99 M) M := by
  unfold fX3_parseFunction_99
  refine rl_bind (iX3_take 41 M) (fun _ M16 => ?_)
  refine rl_bind (iX3_take 58 M16) (fun _ M17 => ?_)
  refine rl_getp (fun b18 hb18 => ?_)
  refine rl_bind (itX3_parseType 0 M17) (fun r19 M20 => ?_)
  refine rl_chk ?_
  refine rl_letM (by first | exact rl_si (by first | decide | omega) | exact rl_sl | exact rl_sr) (fun M22 => ?_)
  refine rl_bind (iX3_take 61 M22) (fun _ M23 => ?_)
  refine rl_getp (fun b24 hb24 => ?_)
  refine rl_bind (itX3_parseE 0 M23) (fun r25 M26 => ?_)
  refine rl_chk ?_
  refine rl_letM (by first | exact rl_si (by first | decide | omega) | exact rl_sl | exact rl_sr) (fun M28 => ?_)
  refine rl_bind (iX3_take 59 M28) (fun _ M29 => ?_)
  exact rl_some
set_option maxRecDepth 100000 in
theorem iX3_parseFunction_47 (x1 : Int64) (s0 : Int32) (s1 : Int32) (M : mv_M) : pl_rl 1 0 1 (fX3_parseFunction_47 x1 s0 s1 M) M := by
  unfold fX3_parseFunction_47
  refine rl_bind (iX3_takeNewName s1 s0 M) (fun _ M7 => ?_)
  refine rl_if ?_ ?_
  · refine rl_getp (fun b8 hb8 => ?_)
    refine rl_letM (by first | exact rl_si (by first | decide | omega) | exact rl_sl | exact rl_sr) (fun M9 => ?_)
    refine rl_getp (fun b10 hb10 => ?_)
    refine rl_bind (rl_of (by decide) (by decide) (qX4_addFunction b10 x1 M9 hb10)) (fun _ M11 => ?_)
    refine rl_bind (iX3_take 40 M11) (fun _ M12 => ?_)
    refine rl_bind (rl_of (by decide) (by decide) (qX3_kind M12)) (fun r13 M14 => ?_)
    refine rl_if ?_ ?_
    · exact iX3_parseFunction_99 M14
    · refine rl_bind (iX3_parseParams M14) (fun _ M15 => ?_)
      exact iX3_parseFunction_99 M15
  · exact rl_some
set_option maxRecDepth 100000 in
theorem iX3_parseFunction_30 (x1 : Int64) (s0 : Int32) (M : mv_M) : pl_rl 1 0 1 (fX3_parseFunction_30 x1 s0 M) M := by
  unfold fX3_parseFunction_30
  refine rl_getp (fun b6 hb6 => ?_)
  refine rl_if ?_ ?_
  · exact iX3_parseFunction_47 x1 0 s0 M
  · exact iX3_parseFunction_47 x1 1 s0 M
set_option maxRecDepth 100000 in
theorem iX3_parseFunction (M : mv_M) : pl_rl 1 0 1 (fX3_parseFunction M) M := by
  unfold fX3_parseFunction
  refine rl_bind (rl_of (by decide) (by decide) (qX8_textOf (M.1 3 3) M)) (fun r1 M2 => ?_)
  refine rl_getp (fun b3 hb3 => ?_)
  refine rl_bind (rl_of (by decide) (by decide) (qX4_functionOf b3 r1 M2)) (fun r4 M5 => ?_)
  refine rl_if ?_ ?_
  · exact iX3_parseFunction_30 r1 0 M5
  · exact iX3_parseFunction_30 r1 1 M5
set_option maxRecDepth 100000 in
theorem iX3_parse_23 (x2 : Int32) (M : mv_M) : pl_rl 1 0 1 (fX3_parse_23 x2 M) M := by
  unfold fX3_parse_23
  refine rl_loop ?_ _ M
  intro x2 M
  try dsimp only
  unfold gX3_parse_23
  refine rl_if ?_ ?_
  · exact rl_some
  · refine rl_bind (rl_of (by decide) (by decide) (qX3_kind M)) (fun r6 M7 => ?_)
    refine rl_if ?_ ?_
    · exact rl_some
    · refine rl_bind (iX3_parseFunction M7) (fun _ M8 => ?_)
      refine rl_let (fun v9 => ?_)
      exact rl_some
set_option maxRecDepth 100000 in
theorem iX3_parse (b1 : Nat) (M : mv_M) : pl_rl 1 0 1 (fX3_parse b1 M) M := by
  unfold fX3_parse
  refine rl_letM (by first | exact rl_si (by first | decide | omega) | exact rl_sl | exact rl_sr) (fun M1 => ?_)
  refine rl_getp (fun b2 hb2 => ?_)
  refine rl_bind (rl_of (by decide) (by decide) (qX4_clear b2 M1 hb2)) (fun _ M3 => ?_)
  refine rl_letM (by first | exact rl_si (by first | decide | omega) | exact rl_sl | exact rl_sr) (fun M4 => ?_)
  refine rl_bind (iX3_parseFunction M4) (fun _ M5 => ?_)
  exact iX3_parse_23 0 M5
set_option maxRecDepth 100000 in
theorem iX9_tell (a0 : Int32) (a1 : Int32) (ha0 : a0 ≠ 0) (M : mv_M) : pl_rl 1 0 1 (fX9_tell a0 a1 M) M := by
  unfold fX9_tell
  refine rl_getp (fun b1 hb1 => ?_)
  refine rl_chk ?_
  refine rl_bind (rl_of (by decide) (by decide) (qX8_startOf (M.1 (b1 + 14) a1.toNatClampNeg) M)) (fun r3 M4 => ?_)
  refine rl_bind (iX0_tell a0 r3 ha0 M4) (fun _ M5 => ?_)
  exact rl_some
set_option maxRecDepth 100000 in
theorem iX9_typeOfName_25 (x1 : Int32) (x2 : Int64) (x4 : Int32) (M : mv_M) : pl_rl 1 0 1 (fX9_typeOfName_25 x1 x2 x4 M) M := by
  unfold fX9_typeOfName_25
  refine rl_loop ?_ _ M
  rintro ⟨x1, x2, x4⟩ M
  try dsimp only
  unfold gX9_typeOfName_25
  refine rl_if ?_ ?_
  · refine rl_bind (iX9_tell 4 x1 (by decide) M) (fun _ M6 => ?_)
    exact rl_some
  · refine rl_getp (fun b7 hb7 => ?_)
    refine rl_chk ?_
    refine rl_bind (rl_of (by decide) (by decide) (qX4_isNamed b7 (M.1 4 3) (M.1 43 x4.toNatClampNeg) x2 M)) (fun r9 M10 => ?_)
    refine rl_if ?_ ?_
    · refine rl_let (fun v11 => ?_)
      exact rl_some
    · refine rl_getp (fun b12 hb12 => ?_)
      refine rl_chk ?_
      refine rl_chk ?_
      refine rl_letM (by first | exact rl_si (by first | decide | omega) | exact rl_sl | exact rl_sr) (fun M15 => ?_)
      refine rl_getp (fun b16 hb16 => ?_)
      refine rl_chk ?_
      refine rl_bind (rl_of (by decide) (by decide) (qX4_nameType b16 (M15.1 4 3) (M15.1 43 x4.toNatClampNeg) M15)) (fun r18 M19 => ?_)
      exact rl_some
set_option maxRecDepth 100000 in
theorem iX9_typeOfName (a0 : Int32) (M : mv_M) : pl_rl 1 0 1 (fX9_typeOfName a0 M) M := by
  unfold fX9_typeOfName
  refine rl_getp (fun b1 hb1 => ?_)
  refine rl_chk ?_
  refine rl_bind (rl_of (by decide) (by decide) (qX8_textOf (M.1 (b1 + 14) a0.toNatClampNeg) M)) (fun r3 M4 => ?_)
  refine rl_let (fun v5 => ?_)
  exact iX9_typeOfName_25 a0 r3 v5 M4
set_option maxRecDepth 100000 in
theorem iX9_typeOfCase {r_X9_typeOf : Int32 → Int32 → mv_M → Option (Int32 × mv_M)} (hq_X9_typeOf : ∀ (a0 : Int32) (a1 : Int32) (M : mv_M), pl_rl 1 0 1 (r_X9_typeOf a0 a1 M) M) (a0 : Int32) (a1 : Int32) (M : mv_M) : pl_rl 1 0 1 (fX9_typeOfCase r_X9_typeOf a0 a1 M) M := by
  unfold fX9_typeOfCase
  refine rl_getp (fun b1 hb1 => ?_)
  refine rl_chk ?_
  refine rl_let (fun v3 => ?_)
  refine rl_getp (fun b4 hb4 => ?_)
  refine rl_chk ?_
  refine rl_bind (hq_X9_typeOf (M.1 (b4 + 9) a0.toNatClampNeg) (-2) M) (fun r6 M7 => ?_)
  refine rl_getp (fun b8 hb8 => ?_)
  refine rl_bind (rl_of (by decide) (by decide) (qX6_firstOf r6 M7)) (fun r9 M10 => ?_)
  refine rl_bind (rl_of (by decide) (by decide) (qX4_setNameType b8 (M7.1 4 3) v3 r9 M10 hb8)) (fun _ M11 => ?_)
  refine rl_getp (fun b12 hb12 => ?_)
  refine rl_bind (rl_of (by decide) (by decide) (qX6_secondOf r6 M11)) (fun r13 M14 => ?_)
  refine rl_bind (rl_of (by decide) (by decide) (qX4_setNameType b12 (M11.1 4 3) (v3 + 1) r13 M14 hb12)) (fun _ M15 => ?_)
  refine rl_let (fun v16 => ?_)
  refine rl_bind (rl_of (by decide) (by decide) (qX9_open v3 M15)) (fun _ M17 => ?_)
  refine rl_bind (rl_of (by decide) (by decide) (qX9_open (v3 + 1) M17)) (fun _ M18 => ?_)
  refine rl_getp (fun b19 hb19 => ?_)
  refine rl_chk ?_
  refine rl_bind (hq_X9_typeOf (M18.1 (b19 + 10) a0.toNatClampNeg) a1 M18) (fun r21 M22 => ?_)
  refine rl_letM (by first | exact rl_si (by first | decide | omega) | exact rl_sl | exact rl_sr) (fun M23 => ?_)
  exact rl_some
set_option maxRecDepth 100000 in
theorem iX9_typeOfLet {r_X9_typeOf : Int32 → Int32 → mv_M → Option (Int32 × mv_M)} (hq_X9_typeOf : ∀ (a0 : Int32) (a1 : Int32) (M : mv_M), pl_rl 1 0 1 (r_X9_typeOf a0 a1 M) M) (a0 : Int32) (a1 : Int32) (M : mv_M) : pl_rl 1 0 1 (fX9_typeOfLet r_X9_typeOf a0 a1 M) M := by
  unfold fX9_typeOfLet
  refine rl_getp (fun b1 hb1 => ?_)
  refine rl_chk ?_
  refine rl_let (fun v3 => ?_)
  refine rl_getp (fun b4 hb4 => ?_)
  refine rl_getp (fun b5 hb5 => ?_)
  refine rl_chk ?_
  refine rl_bind (hq_X9_typeOf (M.1 (b5 + 9) a0.toNatClampNeg) (-1) M) (fun r7 M8 => ?_)
  refine rl_bind (rl_of (by decide) (by decide) (qX4_setNameType b4 (M.1 4 3) v3 r7 M8 hb4)) (fun _ M9 => ?_)
  refine rl_let (fun v10 => ?_)
  refine rl_bind (rl_of (by decide) (by decide) (qX9_open v3 M9)) (fun _ M11 => ?_)
  refine rl_getp (fun b12 hb12 => ?_)
  refine rl_chk ?_
  refine rl_bind (hq_X9_typeOf (M11.1 (b12 + 10) a0.toNatClampNeg) a1 M11) (fun r14 M15 => ?_)
  refine rl_letM (by first | exact rl_si (by first | decide | omega) | exact rl_sl | exact rl_sr) (fun M16 => ?_)
  exact rl_some
set_option maxRecDepth 100000 in
theorem iX9_typeOfIf_49 {r_X9_typeOf : Int32 → Int32 → mv_M → Option (Int32 × mv_M)} (hq_X9_typeOf : ∀ (a0 : Int32) (a1 : Int32) (M : mv_M), pl_rl 1 0 1 (r_X9_typeOf a0 a1 M) M) (x3 : Int32) (s0 : Int32) (s1 : Int32) (M : mv_M) : pl_rl 1 0 1 (fX9_typeOfIf_49 r_X9_typeOf x3 s0 s1 M) M := by
  unfold fX9_typeOfIf_49
  refine rl_bind (hq_X9_typeOf s1 s0 M) (fun r11 M12 => ?_)
  exact rl_some
set_option maxRecDepth 100000 in
theorem iX9_typeOfIf {r_X9_typeOf : Int32 → Int32 → mv_M → Option (Int32 × mv_M)} (hq_X9_typeOf : ∀ (a0 : Int32) (a1 : Int32) (M : mv_M), pl_rl 1 0 1 (r_X9_typeOf a0 a1 M) M) (a0 : Int32) (a1 : Int32) (M : mv_M) : pl_rl 1 0 1 (fX9_typeOfIf r_X9_typeOf a0 a1 M) M := by
  unfold fX9_typeOfIf
  refine rl_getp (fun b1 hb1 => ?_)
  refine rl_chk ?_
  refine rl_bind (hq_X9_typeOf (M.1 (b1 + 9) a0.toNatClampNeg) 0 M) (fun r3 M4 => ?_)
  refine rl_getp (fun b5 hb5 => ?_)
  refine rl_chk ?_
  refine rl_bind (hq_X9_typeOf (M4.1 (b5 + 10) a0.toNatClampNeg) a1 M4) (fun r7 M8 => ?_)
  refine rl_getp (fun b9 hb9 => ?_)
  refine rl_chk ?_
  refine rl_if ?_ ?_
  · exact iX9_typeOfIf_49 hq_X9_typeOf r7 a1 (M8.1 (b9 + 11) a0.toNatClampNeg) M8
  · exact iX9_typeOfIf_49 hq_X9_typeOf r7 r7 (M8.1 (b9 + 11) a0.toNatClampNeg) M8
set_option maxRecDepth 100000 in
theorem iX9_typeOfPair_59 {r_X9_typeOf : Int32 → Int32 → mv_M → Option (Int32 × mv_M)} (hq_X9_typeOf : ∀ (a0 : Int32) (a1 : Int32) (M : mv_M), pl_rl 1 0 1 (r_X9_typeOf a0 a1 M) M) (x4 : Int32) (s0 : Int32) (s1 : Int32) (M : mv_M) : pl_rl 1 0 1 (fX9_typeOfPair_59 r_X9_typeOf x4 s0 s1 M) M := by
  unfold fX9_typeOfPair_59
  refine rl_bind (hq_X9_typeOf s1 s0 M) (fun r11 M12 => ?_)
  refine rl_bind (rl_of (by decide) (by decide) (qX6_pairOf x4 r11 M12)) (fun r13 M14 => ?_)
  exact rl_some
set_option maxRecDepth 100000 in
theorem iX9_typeOfPair_32 {r_X9_typeOf : Int32 → Int32 → mv_M → Option (Int32 × mv_M)} (hq_X9_typeOf : ∀ (a0 : Int32) (a1 : Int32) (M : mv_M), pl_rl 1 0 1 (r_X9_typeOf a0 a1 M) M) (x1 : Int32) (x2 : Int32) (x3 : Int32) (s0 : Int32) (s1 : Int32) (M : mv_M) : pl_rl 1 0 1 (fX9_typeOfPair_32 r_X9_typeOf x1 x2 x3 s0 s1 M) M := by
  unfold fX9_typeOfPair_32
  refine rl_bind (hq_X9_typeOf s1 s0 M) (fun r5 M6 => ?_)
  refine rl_getp (fun b7 hb7 => ?_)
  refine rl_chk ?_
  refine rl_if ?_ ?_
  · exact iX9_typeOfPair_59 hq_X9_typeOf r5 (-1) (M6.1 (b7 + 10) x1.toNatClampNeg) M6
  · refine rl_bind (rl_of (by decide) (by decide) (qX6_secondOf x2 M6)) (fun r9 M10 => ?_)
    exact iX9_typeOfPair_59 hq_X9_typeOf r5 r9 (M6.1 (b7 + 10) x1.toNatClampNeg) M10
set_option maxRecDepth 100000 in
theorem iX9_typeOfPair_9 {r_X9_typeOf : Int32 → Int32 → mv_M → Option (Int32 × mv_M)} (hq_X9_typeOf : ∀ (a0 : Int32) (a1 : Int32) (M : mv_M), pl_rl 1 0 1 (r_X9_typeOf a0 a1 M) M) (x1 : Int32) (x2 : Int32) (s0 : Int32) (M : mv_M) : pl_rl 1 0 1 (fX9_typeOfPair_9 r_X9_typeOf x1 x2 s0 M) M := by
  unfold fX9_typeOfPair_9
  refine rl_getp (fun b1 hb1 => ?_)
  refine rl_chk ?_
  refine rl_if ?_ ?_
  · exact iX9_typeOfPair_32 hq_X9_typeOf x1 x2 s0 (-1) (M.1 (b1 + 9) x1.toNatClampNeg) M
  · refine rl_bind (rl_of (by decide) (by decide) (qX6_firstOf x2 M)) (fun r3 M4 => ?_)
    exact iX9_typeOfPair_32 hq_X9_typeOf x1 x2 s0 r3 (M.1 (b1 + 9) x1.toNatClampNeg) M4
set_option maxRecDepth 100000 in
theorem iX9_typeOfPair {r_X9_typeOf : Int32 → Int32 → mv_M → Option (Int32 × mv_M)} (hq_X9_typeOf : ∀ (a0 : Int32) (a1 : Int32) (M : mv_M), pl_rl 1 0 1 (r_X9_typeOf a0 a1 M) M) (a0 : Int32) (a1 : Int32) (M : mv_M) : pl_rl 1 0 1 (fX9_typeOfPair r_X9_typeOf a0 a1 M) M := by
  unfold fX9_typeOfPair
  refine rl_if ?_ ?_
  · exact iX9_typeOfPair_9 hq_X9_typeOf a0 a1 0 M
  · exact iX9_typeOfPair_9 hq_X9_typeOf a0 a1 1 M
set_option maxRecDepth 100000 in
theorem iX9_typeOfCall_146 {r_X9_typeOf : Int32 → Int32 → mv_M → Option (Int32 × mv_M)} (hq_X9_typeOf : ∀ (a0 : Int32) (a1 : Int32) (M : mv_M), pl_rl 1 0 1 (r_X9_typeOf a0 a1 M) M) (x2 : Int32) (M : mv_M) : pl_rl 1 0 1 (fX9_typeOfCall_146 r_X9_typeOf x2 M) M := by
  unfold fX9_typeOfCall_146
  refine rl_getp (fun b34 hb34 => ?_)
  refine rl_chk ?_
  exact rl_some
set_option maxRecDepth 100000 in
theorem iX9_typeOfCall_89 {r_X9_typeOf : Int32 → Int32 → mv_M → Option (Int32 × mv_M)} (hq_X9_typeOf : ∀ (a0 : Int32) (a1 : Int32) (M : mv_M), pl_rl 1 0 1 (r_X9_typeOf a0 a1 M) M) (x2 : Int32) (x3 : Int32) (x4 : Int32) (M : mv_M) : pl_rl 1 0 1 (fX9_typeOfCall_89 r_X9_typeOf x2 x3 x4 M) M := by
  unfold fX9_typeOfCall_89
  refine rl_loop ?_ _ M
  rintro ⟨x2, x3, x4⟩ M
  try dsimp only
  unfold gX9_typeOfCall_89
  refine rl_getp (fun b20 hb20 => ?_)
  refine rl_chk ?_
  refine rl_if ?_ ?_
  · exact rl_inr (iX9_typeOfCall_146 hq_X9_typeOf x2 M)
  · refine rl_getp (fun b22 hb22 => ?_)
    refine rl_bind (rl_of (by decide) (by decide) (qX4_hasNode b22 x3 M)) (fun r23 M24 => ?_)
    refine rl_if ?_ ?_
    · exact rl_inr (iX9_typeOfCall_146 hq_X9_typeOf x2 M24)
    · refine rl_getp (fun b25 hb25 => ?_)
      refine rl_bind (rl_of (by decide) (by decide) (qX4_nameType b25 x2 x4 M24)) (fun r26 M27 => ?_)
      refine rl_bind (hq_X9_typeOf x3 r26 M27) (fun r28 M29 => ?_)
      refine rl_getp (fun b30 hb30 => ?_)
      refine rl_chk ?_
      refine rl_let (fun v32 => ?_)
      refine rl_let (fun v33 => ?_)
      exact rl_some
set_option maxRecDepth 100000 in
theorem iX9_typeOfCall {r_X9_typeOf : Int32 → Int32 → mv_M → Option (Int32 × mv_M)} (hq_X9_typeOf : ∀ (a0 : Int32) (a1 : Int32) (M : mv_M), pl_rl 1 0 1 (r_X9_typeOf a0 a1 M) M) (a0 : Int32) (M : mv_M) : pl_rl 1 0 1 (fX9_typeOfCall r_X9_typeOf a0 M) M := by
  unfold fX9_typeOfCall
  refine rl_getp (fun b1 hb1 => ?_)
  refine rl_getp (fun b2 hb2 => ?_)
  refine rl_chk ?_
  refine rl_bind (rl_of (by decide) (by decide) (qX8_textOf (M.1 (b2 + 14) a0.toNatClampNeg) M)) (fun r4 M5 => ?_)
  refine rl_bind (rl_of (by decide) (by decide) (qX4_functionOf b1 r4 M5)) (fun r6 M7 => ?_)
  refine rl_if ?_ ?_
  · refine rl_bind (iX9_tell 4 a0 (by decide) M7) (fun _ M19 => ?_)
    exact rl_some
  · refine rl_getp (fun b8 hb8 => ?_)
    refine rl_chk ?_
    refine rl_getp (fun b10 hb10 => ?_)
    refine rl_chk ?_
    refine rl_if ?_ ?_
    · refine rl_getp (fun b12 hb12 => ?_)
      refine rl_chk ?_
      refine rl_letM (by first | exact rl_si (by first | decide | omega) | exact rl_sl | exact rl_sr) (fun M14 => ?_)
      refine rl_getp (fun b15 hb15 => ?_)
      refine rl_chk ?_
      refine rl_let (fun v17 => ?_)
      exact iX9_typeOfCall_89 hq_X9_typeOf r6 v17 0 M14
    · refine rl_bind (iX9_tell 5 a0 (by decide) M7) (fun _ M18 => ?_)
      exact rl_some
set_option maxRecDepth 100000 in
theorem iX9_ownType {r_X9_typeOf : Int32 → Int32 → mv_M → Option (Int32 × mv_M)} {r_X9_typeOfCall : Int32 → mv_M → Option (Int32 × mv_M)} {r_X9_typeOfCase : Int32 → Int32 → mv_M → Option (Int32 × mv_M)} {r_X9_typeOfIf : Int32 → Int32 → mv_M → Option (Int32 × mv_M)} {r_X9_typeOfLet : Int32 → Int32 → mv_M → Option (Int32 × mv_M)} {r_X9_typeOfPair : Int32 → Int32 → mv_M → Option (Int32 × mv_M)} (hq_X9_typeOf : ∀ (a0 : Int32) (a1 : Int32) (M : mv_M), pl_rl 1 0 1 (r_X9_typeOf a0 a1 M) M) (hq_X9_typeOfCall : ∀ (a0 : Int32) (M : mv_M), pl_rl 1 0 1 (r_X9_typeOfCall a0 M) M) (hq_X9_typeOfCase : ∀ (a0 : Int32) (a1 : Int32) (M : mv_M), pl_rl 1 0 1 (r_X9_typeOfCase a0 a1 M) M) (hq_X9_typeOfIf : ∀ (a0 : Int32) (a1 : Int32) (M : mv_M), pl_rl 1 0 1 (r_X9_typeOfIf a0 a1 M) M) (hq_X9_typeOfLet : ∀ (a0 : Int32) (a1 : Int32) (M : mv_M), pl_rl 1 0 1 (r_X9_typeOfLet a0 a1 M) M) (hq_X9_typeOfPair : ∀ (a0 : Int32) (a1 : Int32) (M : mv_M), pl_rl 1 0 1 (r_X9_typeOfPair a0 a1 M) M) (a0 : Int32) (a1 : Int32) (M : mv_M) : pl_rl 1 0 1 (fX9_ownType r_X9_typeOf r_X9_typeOfCall r_X9_typeOfCase r_X9_typeOfIf r_X9_typeOfLet r_X9_typeOfPair a0 a1 M) M := by
  unfold fX9_ownType
  refine rl_getp (fun b1 hb1 => ?_)
  refine rl_chk ?_
  refine rl_if ?_ ?_
  · refine rl_bind (iX9_typeOfName a0 M) (fun r4 M5 => ?_)
    exact rl_some
  · skip
    refine rl_if ?_ ?_
    · exact rl_some
    · skip
      refine rl_if ?_ ?_
      · refine rl_bind (hq_X9_typeOfCall a0 M) (fun r8 M9 => ?_)
        exact rl_some
      · skip
        refine rl_if ?_ ?_
        · refine rl_bind (hq_X9_typeOfPair a0 a1 M) (fun r11 M12 => ?_)
          exact rl_some
        · skip
          refine rl_if ?_ ?_
          · refine rl_bind (hq_X9_typeOfIf a0 a1 M) (fun r14 M15 => ?_)
            exact rl_some
          · skip
            refine rl_if ?_ ?_
            · refine rl_bind (hq_X9_typeOfLet a0 a1 M) (fun r17 M18 => ?_)
              exact rl_some
            · skip
              refine rl_if ?_ ?_
              · refine rl_bind (hq_X9_typeOfCase a0 a1 M) (fun r20 M21 => ?_)
                exact rl_some
              · skip
                refine rl_if ?_ ?_
                · refine rl_getp (fun b23 hb23 => ?_)
                  refine rl_chk ?_
                  exact rl_some
                · skip
                  refine rl_getp (fun b25 hb25 => ?_)
                  refine rl_chk ?_
                  refine rl_bind (hq_X9_typeOf (M.1 (b25 + 9) a0.toNatClampNeg) 0 M) (fun r27 M28 => ?_)
                  refine rl_getp (fun b29 hb29 => ?_)
                  refine rl_chk ?_
                  refine rl_bind (hq_X9_typeOf (M28.1 (b29 + 10) a0.toNatClampNeg) 0 M28) (fun r31 M32 => ?_)
                  exact rl_some
set_option maxRecDepth 100000 in
theorem iX9_typeOf_77 {r_X9_ownType : Int32 → Int32 → mv_M → Option (Int32 × mv_M)} (hq_X9_ownType : ∀ (a0 : Int32) (a1 : Int32) (M : mv_M), pl_rl 1 0 1 (r_X9_ownType a0 a1 M) M) (x1 : Int32) (x3 : Int32) (M : mv_M) : pl_rl 1 0 1 (fX9_typeOf_77 r_X9_ownType x1 x3 M) M := by
  unfold fX9_typeOf_77
  refine rl_bind (iX9_tell 5 x1 (by decide) M) (fun _ M9 => ?_)
  exact rl_some
set_option maxRecDepth 100000 in
theorem iX9_typeOf_65 {r_X9_ownType : Int32 → Int32 → mv_M → Option (Int32 × mv_M)} (hq_X9_ownType : ∀ (a0 : Int32) (a1 : Int32) (M : mv_M), pl_rl 1 0 1 (r_X9_ownType a0 a1 M) M) (x1 : Int32) (x3 : Int32) (s0 : Int32) (M : mv_M) : pl_rl 1 0 1 (fX9_typeOf_65 r_X9_ownType x1 x3 s0 M) M := by
  unfold fX9_typeOf_65
  refine rl_if ?_ ?_
  · exact iX9_typeOf_77 hq_X9_ownType x1 x3 M
  · refine rl_if ?_ ?_
    · exact iX9_typeOf_77 hq_X9_ownType x1 x3 M
    · exact rl_some
set_option maxRecDepth 100000 in
theorem iX9_typeOf_60 {r_X9_ownType : Int32 → Int32 → mv_M → Option (Int32 × mv_M)} (hq_X9_ownType : ∀ (a0 : Int32) (a1 : Int32) (M : mv_M), pl_rl 1 0 1 (r_X9_ownType a0 a1 M) M) (x1 : Int32) (x3 : Int32) (M : mv_M) : pl_rl 1 0 1 (fX9_typeOf_60 r_X9_ownType x1 x3 M) M := by
  unfold fX9_typeOf_60
  exact iX9_typeOf_65 hq_X9_ownType x1 x3 1 M
set_option maxRecDepth 100000 in
theorem iX9_typeOf_64 {r_X9_ownType : Int32 → Int32 → mv_M → Option (Int32 × mv_M)} (hq_X9_ownType : ∀ (a0 : Int32) (a1 : Int32) (M : mv_M), pl_rl 1 0 1 (r_X9_ownType a0 a1 M) M) (x1 : Int32) (x3 : Int32) (M : mv_M) : pl_rl 1 0 1 (fX9_typeOf_64 r_X9_ownType x1 x3 M) M := by
  unfold fX9_typeOf_64
  exact iX9_typeOf_65 hq_X9_ownType x1 x3 0 M
set_option maxRecDepth 100000 in
theorem iX9_typeOf {r_X9_ownType : Int32 → Int32 → mv_M → Option (Int32 × mv_M)} (hq_X9_ownType : ∀ (a0 : Int32) (a1 : Int32) (M : mv_M), pl_rl 1 0 1 (r_X9_ownType a0 a1 M) M) (a0 : Int32) (a1 : Int32) (M : mv_M) : pl_rl 1 0 1 (fX9_typeOf r_X9_ownType a0 a1 M) M := by
  unfold fX9_typeOf
  refine rl_if ?_ ?_
  · refine rl_getp (fun b1 hb1 => ?_)
    refine rl_bind (rl_of (by decide) (by decide) (qX4_hasNode b1 a0 M)) (fun r2 M3 => ?_)
    refine rl_if ?_ ?_
    · exact rl_some
    · refine rl_bind (hq_X9_ownType a0 a1 M3) (fun r4 M5 => ?_)
      refine rl_getp (fun b6 hb6 => ?_)
      refine rl_chk ?_
      refine rl_letM (by first | exact rl_si (by first | decide | omega) | exact rl_sl | exact rl_sr) (fun M8 => ?_)
      refine rl_if ?_ ?_
      · exact iX9_typeOf_60 hq_X9_ownType a0 r4 M8
      · refine rl_if ?_ ?_
        · exact iX9_typeOf_60 hq_X9_ownType a0 r4 M8
        · refine rl_if ?_ ?_
          · refine rl_if ?_ ?_
            · exact iX9_typeOf_64 hq_X9_ownType a0 r4 M8
            · exact iX9_typeOf_60 hq_X9_ownType a0 r4 M8
          · exact iX9_typeOf_64 hq_X9_ownType a0 r4 M8
  · exact rl_some
theorem iRX9_typeOf : ∀ (n s : Nat) (a0 : Int32) (a1 : Int32) (M : mv_M), pl_rl 1 0 1 (RX9_typeOf n s a0 a1 M) M := by
  intro n
  induction n with
  | zero =>
    intro s a0 a1 M
    rw [RX9_typeOf]
    exact rl_none
  | succ n ih =>
    intro s a0 a1 M
    rw [RX9_typeOf]
    refine rl_if ?_ ?_
    · exact iX9_typeOf (fun a0 a1 M => ih 1 a0 a1 M) a0 a1 M
    refine rl_if ?_ ?_
    · exact iX9_ownType (fun a0 a1 M => ih 0 a0 a1 M) (fun a0 M => ih 2 a0 0 M) (fun a0 a1 M => ih 6 a0 a1 M) (fun a0 a1 M => ih 4 a0 a1 M) (fun a0 a1 M => ih 5 a0 a1 M) (fun a0 a1 M => ih 3 a0 a1 M) a0 a1 M
    refine rl_if ?_ ?_
    · exact iX9_typeOfCall (fun a0 a1 M => ih 0 a0 a1 M) a0 M
    refine rl_if ?_ ?_
    · exact iX9_typeOfPair (fun a0 a1 M => ih 0 a0 a1 M) a0 a1 M
    refine rl_if ?_ ?_
    · exact iX9_typeOfIf (fun a0 a1 M => ih 0 a0 a1 M) a0 a1 M
    refine rl_if ?_ ?_
    · exact iX9_typeOfLet (fun a0 a1 M => ih 0 a0 a1 M) a0 a1 M
    exact iX9_typeOfCase (fun a0 a1 M => ih 0 a0 a1 M) a0 a1 M
theorem itX9_typeOf (a0 : Int32) (a1 : Int32) (M : mv_M) : pl_rl 1 0 1 (tX9_typeOf a0 a1 M) M := iRX9_typeOf 320 0 a0 a1 M
theorem itX9_ownType (a0 : Int32) (a1 : Int32) (M : mv_M) : pl_rl 1 0 1 (tX9_ownType a0 a1 M) M := iRX9_typeOf 320 1 a0 a1 M
theorem itX9_typeOfCall (a0 : Int32) (M : mv_M) : pl_rl 1 0 1 (tX9_typeOfCall a0 M) M := iRX9_typeOf 320 2 a0 0 M
theorem itX9_typeOfPair (a0 : Int32) (a1 : Int32) (M : mv_M) : pl_rl 1 0 1 (tX9_typeOfPair a0 a1 M) M := iRX9_typeOf 320 3 a0 a1 M
theorem itX9_typeOfIf (a0 : Int32) (a1 : Int32) (M : mv_M) : pl_rl 1 0 1 (tX9_typeOfIf a0 a1 M) M := iRX9_typeOf 320 4 a0 a1 M
theorem itX9_typeOfLet (a0 : Int32) (a1 : Int32) (M : mv_M) : pl_rl 1 0 1 (tX9_typeOfLet a0 a1 M) M := iRX9_typeOf 320 5 a0 a1 M
theorem itX9_typeOfCase (a0 : Int32) (a1 : Int32) (M : mv_M) : pl_rl 1 0 1 (tX9_typeOfCase a0 a1 M) M := iRX9_typeOf 320 6 a0 a1 M
set_option maxRecDepth 100000 in
theorem iX9_judge_40 (x2 : Int32) (x3 : Int32) (M : mv_M) : pl_rl 1 0 1 (fX9_judge_40 x2 x3 M) M := by
  unfold fX9_judge_40
  refine rl_loop ?_ _ M
  rintro ⟨x2, x3⟩ M
  try dsimp only
  unfold gX9_judge_40
  refine rl_getp (fun b5 hb5 => ?_)
  refine rl_chk ?_
  refine rl_if ?_ ?_
  · refine rl_getp (fun b7 hb7 => ?_)
    refine rl_chk ?_
    refine rl_getp (fun b9 hb9 => ?_)
    refine rl_chk ?_
    refine rl_bind (itX9_typeOf (M.1 (b7 + 5) (M.1 4 3).toNatClampNeg) (M.1 (b9 + 4) (M.1 4 3).toNatClampNeg) M) (fun r11 M12 => ?_)
    refine rl_let (fun v13 => ?_)
    exact rl_some
  · refine rl_bind (rl_of (by decide) (by decide) (qX9_open x3 M)) (fun _ M14 => ?_)
    refine rl_let (fun v15 => ?_)
    exact rl_some
set_option maxRecDepth 100000 in
theorem iX9_judge_7 (x2 : Int32) (M : mv_M) : pl_rl 1 0 1 (fX9_judge_7 x2 M) M := by
  unfold fX9_judge_7
  refine rl_loop ?_ _ M
  intro x2 M
  try dsimp only
  unfold gX9_judge_7
  refine rl_getp (fun b2 hb2 => ?_)
  refine rl_if ?_ ?_
  · exact rl_some
  · refine rl_if ?_ ?_
    · refine rl_letM (by first | exact rl_si (by first | decide | omega) | exact rl_sl | exact rl_sr) (fun M3 => ?_)
      refine rl_letM (by first | exact rl_si (by first | decide | omega) | exact rl_sl | exact rl_sr) (fun M4 => ?_)
      exact iX9_judge_40 x2 0 M4
    · exact rl_some
set_option maxRecDepth 100000 in
theorem iX9_judge (b1 : Nat) (M : mv_M) : pl_rl 1 0 1 (fX9_judge b1 M) M := by
  unfold fX9_judge
  refine rl_letM (by first | exact rl_si (by first | decide | omega) | exact rl_sl | exact rl_sr) (fun M1 => ?_)
  exact iX9_judge_7 0 M1
set_option maxRecDepth 100000 in
theorem iX11_row_109 (x1 : Int32) (x2 : Int64) (s0 : Int64) (M : mv_M) : pl_rl 62 9 10 (fX11_row_109 x1 x2 s0 M) M := by
  unfold fX11_row_109
  refine rl_letM (by first | exact rl_si (by first | decide | omega) | exact rl_sl | exact rl_sr) (fun M18 => ?_)
  exact rl_some
set_option maxRecDepth 100000 in
theorem iX11_row_57 (x2 : Int64) (x4 : Int64) (s0 : Int32) (M : mv_M) : pl_rl 62 9 10 (fX11_row_57 x2 x4 s0 M) M := by
  unfold fX11_row_57
  refine rl_chk ?_
  refine rl_let (fun v14 => ?_)
  refine rl_if ?_ ?_
  · refine rl_chk ?_
    exact iX11_row_109 s0 v14 (((10 * x4) + ((M.1 63 (M.1 62 3).toNatClampNeg).toInt64)) - 48) M
  · exact iX11_row_109 s0 v14 x4 M
set_option maxRecDepth 100000 in
theorem iX11_row_56 (x2 : Int64) (x4 : Int64) (M : mv_M) : pl_rl 62 9 10 (fX11_row_56 x2 x4 M) M := by
  unfold fX11_row_56
  exact iX11_row_57 x2 x4 0 M
set_option maxRecDepth 100000 in
theorem iX11_row_229 (M : mv_M) : pl_rl 62 9 10 (fX11_row_229 M) M := by
  unfold fX11_row_229
  refine rl_if ?_ ?_
  · refine rl_bind (iX11_stop 1 (M.1 62 5) (by decide) M) (fun _ M21 => ?_)
    exact rl_some
  · exact rl_some
set_option maxRecDepth 100000 in
theorem iX11_row_168 (x4 : Int64) (s0 : Int32) (M : mv_M) : pl_rl 62 9 10 (fX11_row_168 x4 s0 M) M := by
  unfold fX11_row_168
  refine rl_letM (by first | exact rl_si (by first | decide | omega) | exact rl_sl | exact rl_sr) (fun M16 => ?_)
  refine rl_letM (by first | exact rl_si (by first | decide | omega) | exact rl_sl | exact rl_sr) (fun M17 => ?_)
  exact iX11_row_229 M17
set_option maxRecDepth 100000 in
theorem iX11_row_167 (x4 : Int64) (M : mv_M) : pl_rl 62 9 10 (fX11_row_167 x4 M) M := by
  unfold fX11_row_167
  exact iX11_row_168 x4 0 M
set_option maxRecDepth 100000 in
theorem iX11_row_221 (x2 : Int64) (s0 : Int32) (M : mv_M) : pl_rl 62 9 10 (fX11_row_221 x2 s0 M) M := by
  unfold fX11_row_221
  refine rl_letM (by first | exact rl_si (by first | decide | omega) | exact rl_sl | exact rl_sr) (fun M19 => ?_)
  refine rl_letM (by first | exact rl_si (by first | decide | omega) | exact rl_sl | exact rl_sr) (fun M20 => ?_)
  exact iX11_row_229 M20
set_option maxRecDepth 100000 in
theorem iX11_row_195 (x2 : Int64) (x6 : Int32) (s0 : Int32) (M : mv_M) : pl_rl 62 9 10 (fX11_row_195 x2 x6 s0 M) M := by
  unfold fX11_row_195
  refine rl_if ?_ ?_
  · refine rl_if ?_ ?_
    · exact iX11_row_221 x2 0 M
    · exact iX11_row_221 x2 10 M
  · exact iX11_row_221 x2 s0 M
set_option maxRecDepth 100000 in
theorem iX11_row_124 (x1 : Int32) (x2 : Int64) (x4 : Int64) (M : mv_M) : pl_rl 62 9 10 (fX11_row_124 x1 x2 x4 M) M := by
  unfold fX11_row_124
  refine rl_let (fun v7 => ?_)
  refine rl_chk ?_
  refine rl_bind (rl_of (by decide) (by decide) (qX11_isDigit (M.1 63 (M.1 62 5).toNatClampNeg) M)) (fun r9 M10 => ?_)
  refine rl_if ?_ ?_
  · refine rl_if ?_ ?_
    · exact iX11_row_195 x2 v7 0 M10
    · refine rl_bind (rl_of (by decide) (by decide) (qX11_wordOf x2 M10)) (fun r11 M12 => ?_)
      exact iX11_row_195 x2 v7 r11 M12
  · refine rl_if ?_ ?_
    · exact iX11_row_167 x4 M10
    · refine rl_if ?_ ?_
      · exact iX11_row_167 x4 M10
      · exact iX11_row_168 x4 11 M10
set_option maxRecDepth 100000 in
theorem iX11_row_7 (x1 : Int32) (x2 : Int64) (x4 : Int64) (M : mv_M) : pl_rl 62 9 10 (fX11_row_7 x1 x2 x4 M) M := by
  unfold fX11_row_7
  refine rl_loop ?_ _ M
  rintro ⟨x1, x2, x4⟩ M
  try dsimp only
  unfold gX11_row_7
  refine rl_if ?_ ?_
  · exact rl_inr (iX11_row_124 x1 x2 x4 M)
  · refine rl_chk ?_
    refine rl_bind (rl_of (by decide) (by decide) (qX11_isRow (M.1 63 (M.1 62 3).toNatClampNeg) M)) (fun r2 M3 => ?_)
    refine rl_if ?_ ?_
    · exact rl_inr (iX11_row_124 x1 x2 x4 M3)
    · refine rl_if ?_ ?_
      · exact iX11_row_56 x2 x4 M3
      · refine rl_chk ?_
        refine rl_bind (rl_of (by decide) (by decide) (qX11_isDigit (M3.1 63 (M3.1 62 3).toNatClampNeg) M3)) (fun r5 M6 => ?_)
        refine rl_if ?_ ?_
        · exact iX11_row_56 x2 x4 M6
        · exact iX11_row_57 x2 x4 1 M6
set_option maxRecDepth 100000 in
theorem iX11_row (M : mv_M) : pl_rl 62 9 10 (fX11_row M) M := by
  unfold fX11_row
  exact iX11_row_7 1 0 0 M
set_option maxRecDepth 100000 in
theorem iX11_next_39 (M : mv_M) : pl_rl 62 9 10 (fX11_next_39 M) M := by
  unfold fX11_next_39
  refine rl_letM (by first | exact rl_si (by first | decide | omega) | exact rl_sl | exact rl_sr) (fun M15 => ?_)
  exact rl_some
set_option maxRecDepth 100000 in
theorem iX11_next_280 (s0 : Int32) (M : mv_M) : pl_rl 62 9 10 (fX11_next_280 s0 M) M := by
  unfold fX11_next_280
  refine rl_letM (by first | exact rl_si (by first | decide | omega) | exact rl_sl | exact rl_sr) (fun M16 => ?_)
  refine rl_if ?_ ?_
  · refine rl_bind (iX11_stop 1 (M16.1 62 5) (by decide) M16) (fun _ M17 => ?_)
    exact rl_some
  · exact rl_some
set_option maxRecDepth 100000 in
theorem iX11_next_168 (x1 : Int32) (M : mv_M) : pl_rl 62 9 10 (fX11_next_168 x1 M) M := by
  unfold fX11_next_168
  refine rl_if ?_ ?_
  · exact iX11_next_280 13 M
  · refine rl_if ?_ ?_
    · exact iX11_next_280 14 M
    · refine rl_if ?_ ?_
      · exact iX11_next_280 15 M
      · refine rl_if ?_ ?_
        · exact iX11_next_280 16 M
        · refine rl_if ?_ ?_
          · exact iX11_next_280 17 M
          · refine rl_if ?_ ?_
            · exact iX11_next_280 18 M
            · refine rl_if ?_ ?_
              · exact iX11_next_280 19 M
              · refine rl_if ?_ ?_
                · exact iX11_next_280 20 M
                · refine rl_if ?_ ?_
                  · exact iX11_next_280 21 M
                  · refine rl_if ?_ ?_
                    · exact iX11_next_280 22 M
                    · exact iX11_next_280 0 M
set_option maxRecDepth 100000 in
theorem iX11_next_52 (M : mv_M) : pl_rl 62 9 10 (fX11_next_52 M) M := by
  unfold fX11_next_52
  refine rl_letM (by first | exact rl_si (by first | decide | omega) | exact rl_sl | exact rl_sr) (fun M3 => ?_)
  refine rl_if ?_ ?_
  · refine rl_letM (by first | exact rl_si (by first | decide | omega) | exact rl_sl | exact rl_sr) (fun M14 => ?_)
    exact rl_some
  · refine rl_letM (by first | exact rl_si (by first | decide | omega) | exact rl_sl | exact rl_sr) (fun M4 => ?_)
    refine rl_chk ?_
    refine rl_let (fun v6 => ?_)
    refine rl_bind (rl_of (by decide) (by decide) (qX11_isRow v6 M4)) (fun r7 M8 => ?_)
    refine rl_if ?_ ?_
    · refine rl_letM (by first | exact rl_si (by first | decide | omega) | exact rl_sl | exact rl_sr) (fun M9 => ?_)
      refine rl_if ?_ ?_
      · refine rl_if ?_ ?_
        · exact iX11_next_168 v6 M9
        · refine rl_chk ?_
          refine rl_if ?_ ?_
          · refine rl_letM (by first | exact rl_si (by first | decide | omega) | exact rl_sl | exact rl_sr) (fun M11 => ?_)
            refine rl_letM (by first | exact rl_si (by first | decide | omega) | exact rl_sl | exact rl_sr) (fun M12 => ?_)
            exact rl_some
          · exact iX11_next_168 v6 M9
      · exact iX11_next_168 v6 M9
    · refine rl_bind (iX11_row M8) (fun _ M13 => ?_)
      exact rl_some
set_option maxRecDepth 100000 in
theorem iX11_next_0 (M : mv_M) : pl_rl 62 9 10 (fX11_next_0 M) M := by
  unfold fX11_next_0
  refine rl_loop ?_ _ M
  intro s M
  try dsimp only
  unfold gX11_next_0
  refine rl_if ?_ ?_
  · exact rl_inr (iX11_next_52 M)
  · refine rl_chk ?_
    refine rl_if ?_ ?_
    · exact iX11_next_39 M
    · refine rl_chk ?_
      refine rl_if ?_ ?_
      · exact iX11_next_39 M
      · exact rl_inr (iX11_next_52 M)
set_option maxRecDepth 100000 in
theorem iX11_next (M : mv_M) : pl_rl 62 9 10 (fX11_next M) M := by
  unfold fX11_next
  exact iX11_next_0 M
set_option maxRecDepth 100000 in
theorem iX11_pass_27 (M : mv_M) : pl_rl 62 9 10 (fX11_pass_27 M) M := by
  unfold fX11_pass_27
  refine rl_if ?_ ?_
  · refine rl_bind (iX11_next M) (fun _ M2 => ?_)
    exact rl_some
  · exact rl_some
set_option maxRecDepth 100000 in
theorem iX11_pass (M : mv_M) : pl_rl 62 9 10 (fX11_pass M) M := by
  unfold fX11_pass
  refine rl_if ?_ ?_
  · refine rl_if ?_ ?_
    · exact iX11_pass_27 M
    · refine rl_bind (iX11_stop 6 (M.1 62 5) (by decide) M) (fun _ M1 => ?_)
      exact iX11_pass_27 M1
  · exact iX11_pass_27 M
set_option maxRecDepth 100000 in
theorem iX11_want_24 (M : mv_M) : pl_rl 62 9 10 (fX11_want_24 M) M := by
  unfold fX11_want_24
  refine rl_bind (iX11_pass M) (fun _ M2 => ?_)
  exact rl_some
set_option maxRecDepth 100000 in
theorem iX11_want (a0 : Int32) (M : mv_M) : pl_rl 62 9 10 (fX11_want a0 M) M := by
  unfold fX11_want
  refine rl_if ?_ ?_
  · refine rl_if ?_ ?_
    · exact iX11_want_24 M
    · refine rl_bind (iX11_stop 2 (M.1 62 5) (by decide) M) (fun _ M1 => ?_)
      exact iX11_want_24 M1
  · exact iX11_want_24 M
set_option maxRecDepth 100000 in
theorem iX11_name_104 (M : mv_M) : pl_rl 62 9 10 (fX11_name_104 M) M := by
  unfold fX11_name_104
  refine rl_if ?_ ?_
  · refine rl_chk ?_
    refine rl_let (fun v7 => ?_)
    refine rl_chk ?_
    refine rl_letM (by first | exact rl_si (by first | decide | omega) | exact rl_sl | exact rl_sr) (fun M9 => ?_)
    refine rl_chk ?_
    refine rl_chk ?_
    refine rl_letM (by first | exact rl_si (by first | decide | omega) | exact rl_sl | exact rl_sr) (fun M12 => ?_)
    refine rl_bind (iX11_pass M12) (fun _ M13 => ?_)
    exact rl_some
  · exact rl_some
set_option maxRecDepth 100000 in
theorem iX11_name_94 (M : mv_M) : pl_rl 62 9 10 (fX11_name_94 M) M := by
  unfold fX11_name_94
  refine rl_bind (iX11_stop 6 (M.1 62 5) (by decide) M) (fun _ M15 => ?_)
  exact iX11_name_104 M15
set_option maxRecDepth 100000 in
theorem iX11_name_80 (M : mv_M) : pl_rl 62 9 10 (fX11_name_80 M) M := by
  unfold fX11_name_80
  refine rl_chk ?_
  refine rl_if ?_ ?_
  · exact iX11_name_94 M
  · exact iX11_name_104 M
set_option maxRecDepth 100000 in
theorem iX11_name_56 (x1 : Int32) (M : mv_M) : pl_rl 62 9 10 (fX11_name_56 x1 M) M := by
  unfold fX11_name_56
  refine rl_if ?_ ?_
  · refine rl_if ?_ ?_
    · exact iX11_name_80 M
    · refine rl_chk ?_
      refine rl_if ?_ ?_
      · exact iX11_name_94 M
      · exact iX11_name_80 M
  · exact iX11_name_104 M
set_option maxRecDepth 100000 in
theorem iX11_name_25 (x1 : Int32) (M : mv_M) : pl_rl 62 9 10 (fX11_name_25 x1 M) M := by
  unfold fX11_name_25
  refine rl_if ?_ ?_
  · refine rl_if ?_ ?_
    · exact iX11_name_56 x1 M
    · refine rl_bind (rl_of (by decide) (by decide) (qX11_isParam (M.2.1 62 7) M)) (fun r2 M3 => ?_)
      refine rl_if ?_ ?_
      · exact iX11_name_56 x1 M3
      · refine rl_bind (iX11_stop 3 (M3.1 62 5) (by decide) M3) (fun _ M4 => ?_)
        exact iX11_name_56 x1 M4
  · exact iX11_name_56 x1 M
set_option maxRecDepth 100000 in
theorem iX11_name (a0 : Int32) (M : mv_M) : pl_rl 62 9 10 (fX11_name a0 M) M := by
  unfold fX11_name
  refine rl_if ?_ ?_
  · refine rl_if ?_ ?_
    · exact iX11_name_25 a0 M
    · refine rl_bind (iX11_stop 2 (M.1 62 5) (by decide) M) (fun _ M1 => ?_)
      exact iX11_name_25 a0 M1
  · exact iX11_name_25 a0 M
set_option maxRecDepth 100000 in
theorem iX11_onType (a0 : Int32) (a1 : Int32) (M : mv_M) : pl_rl 62 9 10 (fX11_onType a0 a1 M) M := by
  unfold fX11_onType
  refine rl_if ?_ ?_
  · refine rl_bind (iX11_want a1 M) (fun _ M21 => ?_)
    exact rl_some
  · refine rl_if ?_ ?_
    · refine rl_letM (by first | exact rl_si (by first | decide | omega) | exact rl_sl | exact rl_sr) (fun M13 => ?_)
      refine rl_chk ?_
      refine rl_chk ?_
      refine rl_bind (rl_of (by decide) (by decide) (qX11_pairOf (M13.1 84 (M13.1 62 40).toNatClampNeg) (M13.1 84 ((M13.1 62 40) + 1).toNatClampNeg) M13)) (fun r16 M17 => ?_)
      refine rl_chk ?_
      refine rl_letM (by first | exact rl_si (by first | decide | omega) | exact rl_sl | exact rl_sr) (fun M19 => ?_)
      refine rl_letM (by first | exact rl_si (by first | decide | omega) | exact rl_sl | exact rl_sr) (fun M20 => ?_)
      exact rl_some
    · refine rl_if ?_ ?_
      · refine rl_chk ?_
        refine rl_letM (by first | exact rl_si (by first | decide | omega) | exact rl_sl | exact rl_sr) (fun M10 => ?_)
        refine rl_letM (by first | exact rl_si (by first | decide | omega) | exact rl_sl | exact rl_sr) (fun M11 => ?_)
        refine rl_bind (iX11_pass M11) (fun _ M12 => ?_)
        exact rl_some
      · refine rl_if ?_ ?_
        · refine rl_if ?_ ?_
          · refine rl_bind (iX11_stop 6 (M.1 62 5) (by decide) M) (fun _ M7 => ?_)
            exact rl_some
          · refine rl_bind (iX11_pass M) (fun _ M1 => ?_)
            refine rl_bind (rl_of (by decide) (by decide) (qX11_push 3 0 M1)) (fun _ M2 => ?_)
            refine rl_bind (rl_of (by decide) (by decide) (qX11_push 1 15 M2)) (fun _ M3 => ?_)
            refine rl_bind (rl_of (by decide) (by decide) (qX11_push 2 (a1 + 1) M3)) (fun _ M4 => ?_)
            refine rl_bind (rl_of (by decide) (by decide) (qX11_push 1 16 M4)) (fun _ M5 => ?_)
            refine rl_bind (rl_of (by decide) (by decide) (qX11_push 2 (a1 + 1) M5)) (fun _ M6 => ?_)
            exact rl_some
        · refine rl_bind (iX11_stop 2 (M.1 62 5) (by decide) M) (fun _ M8 => ?_)
          exact rl_some
set_option maxRecDepth 100000 in
theorem iX11_onE (M : mv_M) : pl_rl 62 9 10 (fX11_onE M) M := by
  unfold fX11_onE
  refine rl_bind (rl_of (by decide) (by decide) (qX11_begins M)) (fun r1 M2 => ?_)
  refine rl_if ?_ ?_
  · refine rl_bind (iX11_stop 2 (M2.1 62 5) (by decide) M2) (fun _ M46 => ?_)
    exact rl_some
  · refine rl_if ?_ ?_
    · refine rl_bind (iX11_stop 6 (M2.1 62 5) (by decide) M2) (fun _ M45 => ?_)
      exact rl_some
    · refine rl_letM (by first | exact rl_si (by first | decide | omega) | exact rl_sl | exact rl_sr) (fun M3 => ?_)
      refine rl_bind (rl_of (by decide) (by decide) (qX11_push 5 0 M3)) (fun _ M4 => ?_)
      refine rl_if ?_ ?_
      · refine rl_bind (rl_of (by decide) (by decide) (qX11_node 3 (M4.1 62 5) M4)) (fun r34 M35 => ?_)
        refine rl_bind (rl_of (by decide) (by decide) (qX11_push 18 r34 M35)) (fun _ M36 => ?_)
        refine rl_bind (rl_of (by decide) (by decide) (qX11_push 16 r34 M36)) (fun _ M37 => ?_)
        refine rl_bind (rl_of (by decide) (by decide) (qX11_push 4 0 M37)) (fun _ M38 => ?_)
        refine rl_bind (rl_of (by decide) (by decide) (qX11_push 1 6 M38)) (fun _ M39 => ?_)
        refine rl_bind (rl_of (by decide) (by decide) (qX11_push 15 r34 M39)) (fun _ M40 => ?_)
        refine rl_bind (rl_of (by decide) (by decide) (qX11_push 4 0 M40)) (fun _ M41 => ?_)
        refine rl_bind (rl_of (by decide) (by decide) (qX11_push 1 13 M41)) (fun _ M42 => ?_)
        refine rl_bind (rl_of (by decide) (by decide) (qX11_push 13 r34 M42)) (fun _ M43 => ?_)
        refine rl_bind (iX11_pass M43) (fun _ M44 => ?_)
        exact rl_some
      · refine rl_if ?_ ?_
        · refine rl_bind (rl_of (by decide) (by decide) (qX11_node 4 (M4.1 62 5) M4)) (fun r19 M20 => ?_)
          refine rl_bind (rl_of (by decide) (by decide) (qX11_push 18 r19 M20)) (fun _ M21 => ?_)
          refine rl_bind (rl_of (by decide) (by decide) (qX11_push 16 r19 M21)) (fun _ M22 => ?_)
          refine rl_bind (rl_of (by decide) (by decide) (qX11_push 4 0 M22)) (fun _ M23 => ?_)
          refine rl_bind (rl_of (by decide) (by decide) (qX11_push 1 6 M23)) (fun _ M24 => ?_)
          refine rl_bind (rl_of (by decide) (by decide) (qX11_push 1 15 M24)) (fun _ M25 => ?_)
          refine rl_bind (rl_of (by decide) (by decide) (qX11_push 14 r19 M25)) (fun _ M26 => ?_)
          refine rl_bind (rl_of (by decide) (by decide) (qX11_push 1 16 M26)) (fun _ M27 => ?_)
          refine rl_bind (rl_of (by decide) (by decide) (qX11_push 13 r19 M27)) (fun _ M28 => ?_)
          refine rl_bind (rl_of (by decide) (by decide) (qX11_push 1 14 M28)) (fun _ M29 => ?_)
          refine rl_bind (rl_of (by decide) (by decide) (qX11_push 1 8 M29)) (fun _ M30 => ?_)
          refine rl_bind (rl_of (by decide) (by decide) (qX11_push 15 r19 M30)) (fun _ M31 => ?_)
          refine rl_bind (rl_of (by decide) (by decide) (qX11_push 4 0 M31)) (fun _ M32 => ?_)
          refine rl_bind (iX11_pass M32) (fun _ M33 => ?_)
          exact rl_some
        · refine rl_if ?_ ?_
          · refine rl_bind (rl_of (by decide) (by decide) (qX11_node 2 (M4.1 62 5) M4)) (fun r7 M8 => ?_)
            refine rl_bind (rl_of (by decide) (by decide) (qX11_push 18 r7 M8)) (fun _ M9 => ?_)
            refine rl_bind (rl_of (by decide) (by decide) (qX11_push 17 r7 M9)) (fun _ M10 => ?_)
            refine rl_bind (rl_of (by decide) (by decide) (qX11_push 4 0 M10)) (fun _ M11 => ?_)
            refine rl_bind (rl_of (by decide) (by decide) (qX11_push 1 4 M11)) (fun _ M12 => ?_)
            refine rl_bind (rl_of (by decide) (by decide) (qX11_push 16 r7 M12)) (fun _ M13 => ?_)
            refine rl_bind (rl_of (by decide) (by decide) (qX11_push 4 0 M13)) (fun _ M14 => ?_)
            refine rl_bind (rl_of (by decide) (by decide) (qX11_push 1 3 M14)) (fun _ M15 => ?_)
            refine rl_bind (rl_of (by decide) (by decide) (qX11_push 15 r7 M15)) (fun _ M16 => ?_)
            refine rl_bind (rl_of (by decide) (by decide) (qX11_push 4 0 M16)) (fun _ M17 => ?_)
            refine rl_bind (iX11_pass M17) (fun _ M18 => ?_)
            exact rl_some
          · refine rl_bind (rl_of (by decide) (by decide) (qX11_push 11 0 M4)) (fun _ M5 => ?_)
            refine rl_bind (rl_of (by decide) (by decide) (qX11_push 6 0 M5)) (fun _ M6 => ?_)
            exact rl_some
set_option maxRecDepth 100000 in
theorem iX11_onAtom_203 (M : mv_M) : pl_rl 62 9 10 (fX11_onAtom_203 M) M := by
  unfold fX11_onAtom_203
  exact rl_some
set_option maxRecDepth 100000 in
theorem iX11_onAtom_181 (x2 : Int32) (M : mv_M) : pl_rl 62 9 10 (fX11_onAtom_181 x2 M) M := by
  unfold fX11_onAtom_181
  refine rl_bind (rl_of (by decide) (by decide) (qX11_push 21 x2 M)) (fun _ M30 => ?_)
  refine rl_bind (rl_of (by decide) (by decide) (qX11_push 1 15 M30)) (fun _ M31 => ?_)
  exact iX11_onAtom_203 M31
set_option maxRecDepth 100000 in
theorem iX11_onAtom_198 (x2 : Int32) (M : mv_M) : pl_rl 62 9 10 (fX11_onAtom_198 x2 M) M := by
  unfold fX11_onAtom_198
  refine rl_bind (rl_of (by decide) (by decide) (qX11_make x2 M)) (fun _ M29 => ?_)
  exact iX11_onAtom_203 M29
set_option maxRecDepth 100000 in
theorem iX11_onAtom (M : mv_M) : pl_rl 62 9 10 (fX11_onAtom M) M := by
  unfold fX11_onAtom
  refine rl_let (fun v1 => ?_)
  refine rl_if ?_ ?_
  · refine rl_bind (rl_of (by decide) (by decide) (qX11_node 5 v1 M)) (fun r23 M24 => ?_)
    refine rl_chk ?_
    refine rl_letM (by first | exact rl_si (by first | decide | omega) | exact rl_sl | exact rl_sr) (fun M26 => ?_)
    refine rl_bind (rl_of (by decide) (by decide) (qX11_make r23 M26)) (fun _ M27 => ?_)
    refine rl_bind (iX11_pass M27) (fun _ M28 => ?_)
    exact rl_some
  · refine rl_if ?_ ?_
    · refine rl_bind (rl_of (by decide) (by decide) (qX11_node 6 v1 M)) (fun r18 M19 => ?_)
      refine rl_bind (rl_of (by decide) (by decide) (qX11_push 19 r18 M19)) (fun _ M20 => ?_)
      refine rl_bind (rl_of (by decide) (by decide) (qX11_push 2 0 M20)) (fun _ M21 => ?_)
      refine rl_bind (iX11_pass M21) (fun _ M22 => ?_)
      exact rl_some
    · refine rl_if ?_ ?_
      · refine rl_bind (rl_of (by decide) (by decide) (qX11_node 7 v1 M)) (fun r6 M7 => ?_)
        refine rl_chk ?_
        refine rl_letM (by first | exact rl_si (by first | decide | omega) | exact rl_sl | exact rl_sr) (fun M9 => ?_)
        refine rl_bind (iX11_pass M9) (fun _ M10 => ?_)
        refine rl_if ?_ ?_
        · refine rl_if ?_ ?_
          · refine rl_chk ?_
            refine rl_letM (by first | exact rl_si (by first | decide | omega) | exact rl_sl | exact rl_sr) (fun M12 => ?_)
            refine rl_chk ?_
            refine rl_letM (by first | exact rl_si (by first | decide | omega) | exact rl_sl | exact rl_sr) (fun M14 => ?_)
            refine rl_bind (iX11_pass M14) (fun _ M15 => ?_)
            refine rl_if ?_ ?_
            · refine rl_if ?_ ?_
              · exact iX11_onAtom_181 r6 M15
              · refine rl_bind (rl_of (by decide) (by decide) (qX11_push 20 r6 M15)) (fun _ M16 => ?_)
                refine rl_bind (rl_of (by decide) (by decide) (qX11_push 4 0 M16)) (fun _ M17 => ?_)
                exact iX11_onAtom_203 M17
            · exact iX11_onAtom_181 r6 M15
          · exact iX11_onAtom_198 r6 M10
        · exact iX11_onAtom_198 r6 M10
      · refine rl_if ?_ ?_
        · refine rl_bind (rl_of (by decide) (by decide) (qX11_push 22 v1 M)) (fun _ M3 => ?_)
          refine rl_bind (rl_of (by decide) (by decide) (qX11_push 4 0 M3)) (fun _ M4 => ?_)
          refine rl_bind (iX11_pass M4) (fun _ M5 => ?_)
          exact rl_some
        · refine rl_bind (iX11_stop 2 (M.1 62 5) (by decide) M) (fun _ M2 => ?_)
          exact rl_some
set_option maxRecDepth 100000 in
theorem iX11_onSum_242 (s0 : Int32) (M : mv_M) : pl_rl 62 9 10 (fX11_onSum_242 s0 M) M := by
  unfold fX11_onSum_242
  refine rl_bind (rl_of (by decide) (by decide) (qX11_push s0 0 M)) (fun _ M23 => ?_)
  refine rl_bind (iX11_pass M23) (fun _ M24 => ?_)
  exact rl_some
set_option maxRecDepth 100000 in
theorem iX11_onSum_205 (x1 : Int32) (M : mv_M) : pl_rl 62 9 10 (fX11_onSum_205 x1 M) M := by
  unfold fX11_onSum_205
  refine rl_let (fun v21 => ?_)
  refine rl_bind (rl_of (by decide) (by decide) (qX11_push 12 v21 M)) (fun _ M22 => ?_)
  refine rl_if ?_ ?_
  · exact iX11_onSum_242 6 M22
  · refine rl_if ?_ ?_
    · exact iX11_onSum_242 8 M22
    · exact iX11_onSum_242 10 M22
set_option maxRecDepth 100000 in
theorem iX11_onSum (a0 : Int32) (a1 : Int32) (M : mv_M) : pl_rl 62 9 10 (fX11_onSum a0 a1 M) M := by
  unfold fX11_onSum
  refine rl_if ?_ ?_
  · refine rl_letM (by first | exact rl_si (by first | decide | omega) | exact rl_sl | exact rl_sr) (fun M20 => ?_)
    exact rl_some
  · refine rl_if ?_ ?_
    · refine rl_bind (rl_of (by decide) (by decide) (qX11_push 7 0 M)) (fun _ M18 => ?_)
      refine rl_bind (rl_of (by decide) (by decide) (qX11_push 8 0 M18)) (fun _ M19 => ?_)
      exact rl_some
    · refine rl_if ?_ ?_
      · refine rl_bind (rl_of (by decide) (by decide) (qX11_push 9 0 M)) (fun _ M16 => ?_)
        refine rl_bind (rl_of (by decide) (by decide) (qX11_push 10 0 M16)) (fun _ M17 => ?_)
        exact rl_some
      · refine rl_if ?_ ?_
        · refine rl_bind (iX11_onAtom M) (fun _ M15 => ?_)
          exact rl_some
        · refine rl_if ?_ ?_
          · refine rl_bind (rl_of (by decide) (by decide) (qX11_last M)) (fun r1 M2 => ?_)
            refine rl_bind (rl_of (by decide) (by decide) (qX11_last M2)) (fun r3 M4 => ?_)
            refine rl_chk ?_
            refine rl_bind (rl_of (by decide) (by decide) (qX11_node 1 (M4.1 75 r3.toNatClampNeg) M4)) (fun r6 M7 => ?_)
            refine rl_chk ?_
            refine rl_letM (by first | exact rl_si (by first | decide | omega) | exact rl_sl | exact rl_sr) (fun M9 => ?_)
            refine rl_chk ?_
            refine rl_letM (by first | exact rl_si (by first | decide | omega) | exact rl_sl | exact rl_sr) (fun M11 => ?_)
            refine rl_chk ?_
            refine rl_letM (by first | exact rl_si (by first | decide | omega) | exact rl_sl | exact rl_sr) (fun M13 => ?_)
            refine rl_bind (rl_of (by decide) (by decide) (qX11_make r6 M13)) (fun _ M14 => ?_)
            exact rl_some
          · refine rl_if ?_ ?_
            · refine rl_if ?_ ?_
              · exact iX11_onSum_205 a0 M
              · refine rl_if ?_ ?_
                · exact iX11_onSum_205 a0 M
                · exact rl_some
            · refine rl_if ?_ ?_
              · refine rl_if ?_ ?_
                · exact iX11_onSum_205 a0 M
                · refine rl_if ?_ ?_
                  · exact iX11_onSum_205 a0 M
                  · exact rl_some
              · refine rl_if ?_ ?_
                · exact iX11_onSum_205 a0 M
                · exact rl_some
set_option maxRecDepth 100000 in
theorem iX11_onCouple (a0 : Int32) (M : mv_M) : pl_rl 62 9 10 (fX11_onCouple a0 M) M := by
  unfold fX11_onCouple
  refine rl_if ?_ ?_
  · refine rl_bind (rl_of (by decide) (by decide) (qX11_node 9 a0 M)) (fun r1 M2 => ?_)
    refine rl_bind (rl_of (by decide) (by decide) (qX11_last M2)) (fun r3 M4 => ?_)
    refine rl_chk ?_
    refine rl_letM (by first | exact rl_si (by first | decide | omega) | exact rl_sl | exact rl_sr) (fun M6 => ?_)
    refine rl_bind (rl_of (by decide) (by decide) (qX11_push 18 r1 M6)) (fun _ M7 => ?_)
    refine rl_bind (rl_of (by decide) (by decide) (qX11_push 1 15 M7)) (fun _ M8 => ?_)
    refine rl_bind (rl_of (by decide) (by decide) (qX11_push 16 r1 M8)) (fun _ M9 => ?_)
    refine rl_bind (rl_of (by decide) (by decide) (qX11_push 4 0 M9)) (fun _ M10 => ?_)
    refine rl_bind (iX11_pass M10) (fun _ M11 => ?_)
    exact rl_some
  · refine rl_bind (rl_of (by decide) (by decide) (qX11_push 1 15 M)) (fun _ M12 => ?_)
    exact rl_some
set_option maxRecDepth 100000 in
theorem iX11_onRest_111 (M : mv_M) : pl_rl 62 9 10 (fX11_onRest_111 M) M := by
  unfold fX11_onRest_111
  refine rl_bind (iX11_name 0 M) (fun r52 M53 => ?_)
  exact rl_some
set_option maxRecDepth 100000 in
theorem iX11_onRest_304 (x2 : Int32) (x4 : Int32) (x5 : Int32) (M : mv_M) : pl_rl 62 9 10 (fX11_onRest_304 x2 x4 x5 M) M := by
  unfold fX11_onRest_304
  refine rl_loop ?_ _ M
  rintro ⟨x2, x4, x5⟩ M
  try dsimp only
  unfold gX11_onRest_304
  refine rl_if ?_ ?_
  · refine rl_letM (by first | exact rl_si (by first | decide | omega) | exact rl_sl | exact rl_sr) (fun M54 => ?_)
    refine rl_bind (rl_of (by decide) (by decide) (qX11_make x2 M54)) (fun _ M55 => ?_)
    exact rl_some
  · refine rl_chk ?_
    refine rl_chk ?_
    refine rl_letM (by first | exact rl_si (by first | decide | omega) | exact rl_sl | exact rl_sr) (fun M58 => ?_)
    refine rl_letM (by first | exact rl_si (by first | decide | omega) | exact rl_sl | exact rl_sr) (fun M59 => ?_)
    refine rl_let (fun v60 => ?_)
    exact rl_some
set_option maxRecDepth 100000 in
theorem iX11_onRest (a0 : Int32) (a1 : Int32) (M : mv_M) : pl_rl 62 9 10 (fX11_onRest a0 a1 M) M := by
  unfold fX11_onRest
  refine rl_if ?_ ?_
  · refine rl_bind (iX11_name 0 M) (fun r2 M3 => ?_)
    refine rl_chk ?_
    refine rl_letM (by first | exact rl_si (by first | decide | omega) | exact rl_sl | exact rl_sr) (fun M5 => ?_)
    exact rl_some
  · skip
    refine rl_if ?_ ?_
    · refine rl_if ?_ ?_
      · refine rl_chk ?_
        refine rl_chk ?_
        refine rl_if ?_ ?_
        · refine rl_bind (iX11_stop 3 (M.1 62 5) (by decide) M) (fun _ M9 => ?_)
          exact iX11_onRest_111 M9
        · exact iX11_onRest_111 M
      · exact iX11_onRest_111 M
    · skip
      refine rl_if ?_ ?_
      · refine rl_bind (rl_of (by decide) (by decide) (qX11_last M)) (fun r11 M12 => ?_)
        refine rl_chk ?_
        refine rl_letM (by first | exact rl_si (by first | decide | omega) | exact rl_sl | exact rl_sr) (fun M14 => ?_)
        exact rl_some
      · skip
        refine rl_if ?_ ?_
        · refine rl_bind (rl_of (by decide) (by decide) (qX11_last M)) (fun r16 M17 => ?_)
          refine rl_chk ?_
          refine rl_letM (by first | exact rl_si (by first | decide | omega) | exact rl_sl | exact rl_sr) (fun M19 => ?_)
          exact rl_some
        · skip
          refine rl_if ?_ ?_
          · refine rl_bind (rl_of (by decide) (by decide) (qX11_last M)) (fun r21 M22 => ?_)
            refine rl_chk ?_
            refine rl_letM (by first | exact rl_si (by first | decide | omega) | exact rl_sl | exact rl_sr) (fun M24 => ?_)
            exact rl_some
          · skip
            refine rl_if ?_ ?_
            · refine rl_bind (rl_of (by decide) (by decide) (qX11_make a1 M)) (fun _ M26 => ?_)
              exact rl_some
            · skip
              refine rl_if ?_ ?_
              · refine rl_letM (by first | exact rl_si (by first | decide | omega) | exact rl_sl | exact rl_sr) (fun M28 => ?_)
                refine rl_chk ?_
                refine rl_chk ?_
                refine rl_letM (by first | exact rl_si (by first | decide | omega) | exact rl_sl | exact rl_sr) (fun M31 => ?_)
                refine rl_bind (rl_of (by decide) (by decide) (qX11_make a1 M31)) (fun _ M32 => ?_)
                exact rl_some
              · skip
                refine rl_if ?_ ?_
                · refine rl_bind (rl_of (by decide) (by decide) (qX11_last M)) (fun r34 M35 => ?_)
                  refine rl_chk ?_
                  refine rl_letM (by first | exact rl_si (by first | decide | omega) | exact rl_sl | exact rl_sr) (fun M37 => ?_)
                  refine rl_letM (by first | exact rl_si (by first | decide | omega) | exact rl_sl | exact rl_sr) (fun M38 => ?_)
                  refine rl_if ?_ ?_
                  · refine rl_bind (rl_of (by decide) (by decide) (qX11_push 20 a1 M38)) (fun _ M41 => ?_)
                    refine rl_bind (rl_of (by decide) (by decide) (qX11_push 4 0 M41)) (fun _ M42 => ?_)
                    refine rl_bind (iX11_pass M42) (fun _ M43 => ?_)
                    exact rl_some
                  · refine rl_bind (rl_of (by decide) (by decide) (qX11_push 21 a1 M38)) (fun _ M39 => ?_)
                    refine rl_bind (rl_of (by decide) (by decide) (qX11_push 1 15 M39)) (fun _ M40 => ?_)
                    exact rl_some
                · skip
                  refine rl_if ?_ ?_
                  · refine rl_chk ?_
                    refine rl_let (fun v46 => ?_)
                    refine rl_chk ?_
                    refine rl_letM (by first | exact rl_si (by first | decide | omega) | exact rl_sl | exact rl_sr) (fun M48 => ?_)
                    refine rl_chk ?_
                    refine rl_letM (by first | exact rl_si (by first | decide | omega) | exact rl_sl | exact rl_sr) (fun M50 => ?_)
                    exact iX11_onRest_304 a1 v46 v46 M50
                  · skip
                    refine rl_bind (iX11_onCouple a1 M) (fun _ M51 => ?_)
                    exact rl_some
set_option maxRecDepth 100000 in
theorem iX11_parse_117 (M : mv_M) : pl_rl 62 9 10 (fX11_parse_117 M) M := by
  unfold fX11_parse_117
  exact rl_some
set_option maxRecDepth 100000 in
theorem iX11_parse_26 (M : mv_M) : pl_rl 62 9 10 (fX11_parse_26 M) M := by
  unfold fX11_parse_26
  refine rl_loop ?_ _ M
  intro s M
  try dsimp only
  unfold gX11_parse_26
  refine rl_if ?_ ?_
  · exact rl_some
  · refine rl_if ?_ ?_
    · refine rl_letM (by first | exact rl_si (by first | decide | omega) | exact rl_sl | exact rl_sr) (fun M6 => ?_)
      refine rl_chk ?_
      refine rl_let (fun v8 => ?_)
      refine rl_chk ?_
      refine rl_let (fun v10 => ?_)
      refine rl_if ?_ ?_
      · refine rl_if ?_ ?_
        · refine rl_bind (iX11_onE M6) (fun _ M13 => ?_)
          exact iX11_parse_117 M13
        · refine rl_if ?_ ?_
          · refine rl_bind (iX11_onRest v8 v10 M6) (fun _ M11 => ?_)
            exact iX11_parse_117 M11
          · refine rl_bind (iX11_onSum v8 v10 M6) (fun _ M12 => ?_)
            exact iX11_parse_117 M12
      · refine rl_bind (iX11_onType v8 v10 M6) (fun _ M14 => ?_)
        exact iX11_parse_117 M14
    · exact rl_some
set_option maxRecDepth 100000 in
theorem iX11_parse (a0 : Int32) (M : mv_M) : pl_rl 62 9 10 (fX11_parse a0 M) M := by
  unfold fX11_parse
  refine rl_letM (by first | exact rl_si (by first | decide | omega) | exact rl_sl | exact rl_sr) (fun M1 => ?_)
  refine rl_letM (by first | exact rl_si (by first | decide | omega) | exact rl_sl | exact rl_sr) (fun M2 => ?_)
  refine rl_letM (by first | exact rl_si (by first | decide | omega) | exact rl_sl | exact rl_sr) (fun M3 => ?_)
  refine rl_letM (by first | exact rl_si (by first | decide | omega) | exact rl_sl | exact rl_sr) (fun M4 => ?_)
  refine rl_bind (rl_of (by decide) (by decide) (qX11_push a0 0 M4)) (fun _ M5 => ?_)
  exact iX11_parse_26 M5
set_option maxRecDepth 100000 in
theorem iX11_type_12 (M : mv_M) : pl_rl 62 9 10 (fX11_type_12 M) M := by
  unfold fX11_type_12
  refine rl_if ?_ ?_
  · exact rl_some
  · exact rl_some
set_option maxRecDepth 100000 in
theorem iX11_type (M : mv_M) : pl_rl 62 9 10 (fX11_type M) M := by
  unfold fX11_type
  refine rl_if ?_ ?_
  · refine rl_bind (iX11_parse 2 M) (fun _ M1 => ?_)
    exact iX11_type_12 M1
  · exact iX11_type_12 M
set_option maxRecDepth 100000 in
theorem iX11_definition_79 (x1 : Int32) (M : mv_M) : pl_rl 62 9 10 (fX11_definition_79 x1 M) M := by
  unfold fX11_definition_79
  refine rl_let (fun v6 => ?_)
  exact rl_some
set_option maxRecDepth 100000 in
theorem iX11_definition_294 (x1 : Int32) (M : mv_M) : pl_rl 62 9 10 (fX11_definition_294 x1 M) M := by
  unfold fX11_definition_294
  exact rl_some
set_option maxRecDepth 100000 in
theorem iX11_definition_285 (s0 : Int32) (M : mv_M) : pl_rl 62 9 10 (fX11_definition_285 s0 M) M := by
  unfold fX11_definition_285
  refine rl_if ?_ ?_
  · exact iX11_definition_294 s0 M
  · refine rl_bind (iX11_pass M) (fun _ M38 => ?_)
    exact iX11_definition_294 s0 M38
set_option maxRecDepth 100000 in
theorem iX11_definition_284 (M : mv_M) : pl_rl 62 9 10 (fX11_definition_284 M) M := by
  unfold fX11_definition_284
  exact iX11_definition_285 0 M
set_option maxRecDepth 100000 in
theorem iX11_definition_240 (x2 : Int32) (M : mv_M) : pl_rl 62 9 10 (fX11_definition_240 x2 M) M := by
  unfold fX11_definition_240
  refine rl_bind (iX11_want 18 M) (fun _ M33 => ?_)
  refine rl_bind (iX11_type M33) (fun r34 M35 => ?_)
  refine rl_chk ?_
  refine rl_letM (by first | exact rl_si (by first | decide | omega) | exact rl_sl | exact rl_sr) (fun M37 => ?_)
  refine rl_if ?_ ?_
  · refine rl_if ?_ ?_
    · exact iX11_definition_285 1 M37
    · exact iX11_definition_284 M37
  · exact iX11_definition_284 M37
set_option maxRecDepth 100000 in
theorem iX11_definition_340 (M : mv_M) : pl_rl 62 9 10 (fX11_definition_340 M) M := by
  unfold fX11_definition_340
  refine rl_chk ?_
  refine rl_letM (by first | exact rl_si (by first | decide | omega) | exact rl_sl | exact rl_sr) (fun M31 => ?_)
  refine rl_bind (iX11_want 17 M31) (fun _ M32 => ?_)
  exact rl_some
set_option maxRecDepth 100000 in
theorem iX11_definition_210 (x1 : Int32) (M : mv_M) : pl_rl 62 9 10 (fX11_definition_210 x1 M) M := by
  unfold fX11_definition_210
  refine rl_loop ?_ _ M
  intro x1 M
  try dsimp only
  unfold gX11_definition_210
  refine rl_if ?_ ?_
  · refine rl_bind (iX11_want 15 M) (fun _ M17 => ?_)
    refine rl_bind (iX11_want 18 M17) (fun _ M18 => ?_)
    refine rl_bind (iX11_type M18) (fun r19 M20 => ?_)
    refine rl_chk ?_
    refine rl_letM (by first | exact rl_si (by first | decide | omega) | exact rl_sl | exact rl_sr) (fun M22 => ?_)
    refine rl_bind (iX11_want 13 M22) (fun _ M23 => ?_)
    refine rl_if ?_ ?_
    · refine rl_bind (iX11_parse 4 M23) (fun _ M24 => ?_)
      exact rl_inr (iX11_definition_340 M24)
    · exact rl_inr (iX11_definition_340 M23)
  · refine rl_bind (iX11_name 1 M) (fun r25 M26 => ?_)
    refine rl_if ?_ ?_
    · refine rl_chk ?_
      refine rl_chk ?_
      refine rl_letM (by first | exact rl_si (by first | decide | omega) | exact rl_sl | exact rl_sr) (fun M29 => ?_)
      exact iX11_definition_240 r25 M29
    · exact iX11_definition_240 r25 M26
set_option maxRecDepth 100000 in
theorem iX11_definition_209 (s0 : Int32) (M : mv_M) : pl_rl 62 9 10 (fX11_definition_209 s0 M) M := by
  unfold fX11_definition_209
  exact iX11_definition_210 s0 M
set_option maxRecDepth 100000 in
theorem iX11_definition_208 (M : mv_M) : pl_rl 62 9 10 (fX11_definition_208 M) M := by
  unfold fX11_definition_208
  exact iX11_definition_209 0 M
set_option maxRecDepth 100000 in
theorem iX11_definition_111 (M : mv_M) : pl_rl 62 9 10 (fX11_definition_111 M) M := by
  unfold fX11_definition_111
  refine rl_if ?_ ?_
  · refine rl_letM (by first | exact rl_si (by first | decide | omega) | exact rl_sl | exact rl_sr) (fun M7 => ?_)
    refine rl_chk ?_
    refine rl_letM (by first | exact rl_si (by first | decide | omega) | exact rl_sl | exact rl_sr) (fun M9 => ?_)
    refine rl_chk ?_
    refine rl_letM (by first | exact rl_si (by first | decide | omega) | exact rl_sl | exact rl_sr) (fun M11 => ?_)
    refine rl_chk ?_
    refine rl_letM (by first | exact rl_si (by first | decide | omega) | exact rl_sl | exact rl_sr) (fun M13 => ?_)
    refine rl_letM (by first | exact rl_si (by first | decide | omega) | exact rl_sl | exact rl_sr) (fun M14 => ?_)
    refine rl_bind (iX11_pass M14) (fun _ M15 => ?_)
    refine rl_bind (iX11_want 14 M15) (fun _ M16 => ?_)
    refine rl_if ?_ ?_
    · refine rl_if ?_ ?_
      · exact iX11_definition_208 M16
      · exact iX11_definition_209 1 M16
    · exact iX11_definition_208 M16
  · exact rl_some
set_option maxRecDepth 100000 in
theorem iX11_definition_85 (M : mv_M) : pl_rl 62 9 10 (fX11_definition_85 M) M := by
  unfold fX11_definition_85
  refine rl_if ?_ ?_
  · refine rl_if ?_ ?_
    · refine rl_bind (iX11_stop 6 (M.1 62 5) (by decide) M) (fun _ M5 => ?_)
      exact iX11_definition_111 M5
    · exact iX11_definition_111 M
  · exact iX11_definition_111 M
set_option maxRecDepth 100000 in
theorem iX11_definition_33 (x1 : Int32) (M : mv_M) : pl_rl 62 9 10 (fX11_definition_33 x1 M) M := by
  unfold fX11_definition_33
  refine rl_loop ?_ _ M
  intro x1 M
  try dsimp only
  unfold gX11_definition_33
  refine rl_if ?_ ?_
  · exact rl_inr (iX11_definition_85 M)
  · refine rl_if ?_ ?_
    · refine rl_chk ?_
      refine rl_if ?_ ?_
      · refine rl_bind (iX11_stop 3 (M.1 62 5) (by decide) M) (fun _ M4 => ?_)
        exact iX11_definition_79 x1 M4
      · exact iX11_definition_79 x1 M
    · exact rl_inr (iX11_definition_85 M)
set_option maxRecDepth 100000 in
theorem iX11_definition_25 (M : mv_M) : pl_rl 62 9 10 (fX11_definition_25 M) M := by
  unfold fX11_definition_25
  refine rl_let (fun v2 => ?_)
  exact iX11_definition_33 v2 M
set_option maxRecDepth 100000 in
theorem iX11_definition (M : mv_M) : pl_rl 62 9 10 (fX11_definition M) M := by
  unfold fX11_definition
  refine rl_if ?_ ?_
  · refine rl_if ?_ ?_
    · exact iX11_definition_25 M
    · refine rl_bind (iX11_stop 2 (M.1 62 5) (by decide) M) (fun _ M1 => ?_)
      exact iX11_definition_25 M1
  · exact iX11_definition_25 M
set_option maxRecDepth 100000 in
theorem iX11_judgeCall_47 (x1 : Int32) (x3 : Int32) (s0 : Int32) (M : mv_M) : pl_rl 62 9 10 (fX11_judgeCall_47 x1 x3 s0 M) M := by
  unfold fX11_judgeCall_47
  refine rl_let (fun v15 => ?_)
  exact rl_some
set_option maxRecDepth 100000 in
theorem iX11_judgeCall_85 (x1 : Int32) (s0 : Int32) (hs0 : s0 ≠ 0) (M : mv_M) : pl_rl 62 9 10 (fX11_judgeCall_85 x1 s0 M) M := by
  unfold fX11_judgeCall_85
  refine rl_chk ?_
  refine rl_bind (iX11_stop s0 (M.1 75 x1.toNatClampNeg) hs0 M) (fun _ M17 => ?_)
  exact rl_some
set_option maxRecDepth 100000 in
theorem iX11_judgeCall_74 (x1 : Int32) (x2 : Int32) (M : mv_M) : pl_rl 62 9 10 (fX11_judgeCall_74 x1 x2 M) M := by
  unfold fX11_judgeCall_74
  refine rl_if ?_ ?_
  · exact iX11_judgeCall_85 x1 4 (by decide) M
  · exact iX11_judgeCall_85 x1 5 (by decide) M
set_option maxRecDepth 100000 in
theorem iX11_judgeCall_111 (x1 : Int32) (x2 : Int32) (x3 : Int32) (M : mv_M) : pl_rl 62 9 10 (fX11_judgeCall_111 x1 x2 x3 M) M := by
  unfold fX11_judgeCall_111
  refine rl_loop ?_ _ M
  rintro ⟨x1, x2, x3⟩ M
  try dsimp only
  unfold gX11_judgeCall_111
  refine rl_if ?_ ?_
  · exact rl_some
  · refine rl_chk ?_
    refine rl_chk ?_
    refine rl_chk ?_
    refine rl_bind (rl_of (by decide) (by decide) (qX11_task 1 (M.1 78 ((M.1 72 x1.toNatClampNeg) + x3).toNatClampNeg) (M.1 70 ((16 * x2) + x3).toNatClampNeg) M)) (fun _ M13 => ?_)
    refine rl_let (fun v14 => ?_)
    exact rl_some
set_option maxRecDepth 100000 in
theorem iX11_judgeCall_10 (x1 : Int32) (x2 : Int32) (x3 : Int32) (M : mv_M) : pl_rl 62 9 10 (fX11_judgeCall_10 x1 x2 x3 M) M := by
  unfold fX11_judgeCall_10
  refine rl_loop ?_ _ M
  rintro ⟨x1, x2, x3⟩ M
  try dsimp only
  unfold gX11_judgeCall_10
  refine rl_if ?_ ?_
  · refine rl_if ?_ ?_
    · exact rl_inr (iX11_judgeCall_74 x1 x2 M)
    · refine rl_chk ?_
      refine rl_chk ?_
      refine rl_if ?_ ?_
      · refine rl_chk ?_
        refine rl_letM (by first | exact rl_si (by first | decide | omega) | exact rl_sl | exact rl_sr) (fun M5 => ?_)
        refine rl_chk ?_
        refine rl_let (fun v7 => ?_)
        exact rl_inr (iX11_judgeCall_111 x1 x2 v7 M5)
      · exact rl_inr (iX11_judgeCall_74 x1 x2 M)
  · refine rl_chk ?_
    refine rl_chk ?_
    refine rl_if ?_ ?_
    · exact iX11_judgeCall_47 x1 x3 x3 M
    · exact iX11_judgeCall_47 x1 x3 x2 M
set_option maxRecDepth 100000 in
theorem iX11_judgeCall (a0 : Int32) (M : mv_M) : pl_rl 62 9 10 (fX11_judgeCall a0 M) M := by
  unfold fX11_judgeCall
  refine rl_let (fun v1 => ?_)
  exact iX11_judgeCall_10 a0 (-1) v1 M
set_option maxRecDepth 100000 in
theorem iX11_onJudge_91 (x1 : Int32) (x3 : Int32) (M : mv_M) : pl_rl 62 9 10 (fX11_onJudge_91 x1 x3 M) M := by
  unfold fX11_onJudge_91
  refine rl_chk ?_
  refine rl_letM (by first | exact rl_si (by first | decide | omega) | exact rl_sl | exact rl_sr) (fun M40 => ?_)
  exact rl_some
set_option maxRecDepth 100000 in
theorem iX11_onJudge_205 (s0 : Int32) (s1 : Int32) (s2 : Int32) (M : mv_M) : pl_rl 62 9 10 (fX11_onJudge_205 s0 s1 s2 M) M := by
  unfold fX11_onJudge_205
  refine rl_bind (rl_of (by decide) (by decide) (qX11_task s2 s1 s0 M)) (fun _ M38 => ?_)
  exact rl_some
set_option maxRecDepth 100000 in
theorem iX11_onJudge_262 (s0 : Int32) (s1 : Int32) (s2 : Int32) (M : mv_M) : pl_rl 62 9 10 (fX11_onJudge_262 s0 s1 s2 M) M := by
  unfold fX11_onJudge_262
  refine rl_bind (rl_of (by decide) (by decide) (qX11_task s2 s1 s0 M)) (fun _ M45 => ?_)
  exact rl_some
set_option maxRecDepth 100000 in
theorem iX11_onJudge_239 (x1 : Int32) (x2 : Int32) (s0 : Int32) (s1 : Int32) (s2 : Int32) (M : mv_M) : pl_rl 62 9 10 (fX11_onJudge_239 x1 x2 s0 s1 s2 M) M := by
  unfold fX11_onJudge_239
  refine rl_bind (rl_of (by decide) (by decide) (qX11_task s2 s1 s0 M)) (fun _ M41 => ?_)
  refine rl_chk ?_
  refine rl_if ?_ ?_
  · exact iX11_onJudge_262 (-1) (M41.1 72 x1.toNatClampNeg) 1 M41
  · refine rl_bind (rl_of (by decide) (by decide) (qX11_firstOf x2 M41)) (fun r43 M44 => ?_)
    exact iX11_onJudge_262 r43 (M41.1 72 x1.toNatClampNeg) 1 M44
set_option maxRecDepth 100000 in
theorem iX11_onJudge (a0 : Int32) (a1 : Int32) (M : mv_M) : pl_rl 62 9 10 (fX11_onJudge a0 a1 M) M := by
  unfold fX11_onJudge
  refine rl_bind (rl_of (by decide) (by decide) (qX11_task 4 a0 a1 M)) (fun _ M1 => ?_)
  refine rl_chk ?_
  refine rl_if ?_ ?_
  · refine rl_chk ?_
    refine rl_bind (rl_of (by decide) (by decide) (qX11_task 1 (M1.1 73 a0.toNatClampNeg) 0 M1)) (fun _ M5 => ?_)
    refine rl_chk ?_
    refine rl_bind (rl_of (by decide) (by decide) (qX11_task 1 (M5.1 72 a0.toNatClampNeg) 0 M5)) (fun _ M7 => ?_)
    exact rl_some
  · skip
    refine rl_if ?_ ?_
    · refine rl_bind (rl_of (by decide) (by decide) (qX11_task 2 a0 a1 M1)) (fun _ M9 => ?_)
      refine rl_chk ?_
      refine rl_bind (rl_of (by decide) (by decide) (qX11_task 1 (M9.1 73 a0.toNatClampNeg) a1 M9)) (fun _ M11 => ?_)
      refine rl_chk ?_
      refine rl_bind (rl_of (by decide) (by decide) (qX11_task 1 (M11.1 72 a0.toNatClampNeg) 0 M11)) (fun _ M13 => ?_)
      exact rl_some
    · skip
      refine rl_if ?_ ?_
      · refine rl_chk ?_
        refine rl_bind (rl_of (by decide) (by decide) (qX11_task 1 (M1.1 73 a0.toNatClampNeg) a1 M1)) (fun _ M16 => ?_)
        refine rl_bind (rl_of (by decide) (by decide) (qX11_task 3 a0 0 M16)) (fun _ M17 => ?_)
        refine rl_chk ?_
        refine rl_chk ?_
        refine rl_if ?_ ?_
        · exact iX11_onJudge_205 (-1) (M17.1 72 a0.toNatClampNeg) 1 M17
        · exact iX11_onJudge_205 (-2) (M17.1 72 a0.toNatClampNeg) 1 M17
      · skip
        refine rl_if ?_ ?_
        · refine rl_chk ?_
          refine rl_bind (rl_of (by decide) (by decide) (qX11_task 1 (M1.1 73 a0.toNatClampNeg) a1 M1)) (fun _ M22 => ?_)
          refine rl_bind (rl_of (by decide) (by decide) (qX11_task 3 a0 0 M22)) (fun _ M23 => ?_)
          refine rl_chk ?_
          refine rl_chk ?_
          refine rl_if ?_ ?_
          · exact iX11_onJudge_205 (-1) (M23.1 72 a0.toNatClampNeg) 1 M23
          · exact iX11_onJudge_205 (-2) (M23.1 72 a0.toNatClampNeg) 1 M23
        · skip
          refine rl_if ?_ ?_
          · refine rl_chk ?_
            refine rl_bind (rl_of (by decide) (by decide) (qX11_meant (M1.2.1 77 a0.toNatClampNeg) M1)) (fun r28 M29 => ?_)
            refine rl_if ?_ ?_
            · refine rl_chk ?_
              refine rl_bind (iX11_stop 4 (M29.1 75 a0.toNatClampNeg) (by decide) M29) (fun _ M31 => ?_)
              exact iX11_onJudge_91 a0 r28 M31
            · exact iX11_onJudge_91 a0 r28 M29
          · skip
            refine rl_if ?_ ?_
            · refine rl_bind (iX11_judgeCall a0 M1) (fun _ M33 => ?_)
              exact rl_some
            · skip
              refine rl_if ?_ ?_
              · refine rl_chk ?_
                refine rl_if ?_ ?_
                · exact iX11_onJudge_239 a0 a1 (-1) (M1.1 73 a0.toNatClampNeg) 1 M1
                · refine rl_bind (rl_of (by decide) (by decide) (qX11_secondOf a1 M1)) (fun r36 M37 => ?_)
                  exact iX11_onJudge_239 a0 a1 r36 (M1.1 73 a0.toNatClampNeg) 1 M37
              · skip
                exact rl_some
set_option maxRecDepth 100000 in
theorem iX11_onShut_202 (x1 : Int32) (x4 : Int32) (M : mv_M) : pl_rl 62 9 10 (fX11_onShut_202 x1 x4 M) M := by
  unfold fX11_onShut_202
  refine rl_chk ?_
  refine rl_letM (by first | exact rl_si (by first | decide | omega) | exact rl_sl | exact rl_sr) (fun M20 => ?_)
  exact rl_some
set_option maxRecDepth 100000 in
theorem iX11_onShut_191 (x1 : Int32) (x4 : Int32) (M : mv_M) : pl_rl 62 9 10 (fX11_onShut_191 x1 x4 M) M := by
  unfold fX11_onShut_191
  refine rl_chk ?_
  refine rl_bind (iX11_stop 5 (M.1 75 x1.toNatClampNeg) (by decide) M) (fun _ M18 => ?_)
  exact iX11_onShut_202 x1 x4 M18
set_option maxRecDepth 100000 in
theorem iX11_onShut_180 (x1 : Int32) (x2 : Int32) (x4 : Int32) (M : mv_M) : pl_rl 62 9 10 (fX11_onShut_180 x1 x2 x4 M) M := by
  unfold fX11_onShut_180
  refine rl_if ?_ ?_
  · refine rl_if ?_ ?_
    · exact iX11_onShut_191 x1 x4 M
    · exact iX11_onShut_202 x1 x4 M
  · exact iX11_onShut_202 x1 x4 M
set_option maxRecDepth 100000 in
theorem iX11_onShut_162 (x1 : Int32) (x2 : Int32) (s0 : Int32) (M : mv_M) : pl_rl 62 9 10 (fX11_onShut_162 x1 x2 s0 M) M := by
  unfold fX11_onShut_162
  refine rl_if ?_ ?_
  · exact iX11_onShut_191 x1 s0 M
  · refine rl_if ?_ ?_
    · exact iX11_onShut_180 x1 x2 s0 M
    · refine rl_if ?_ ?_
      · exact iX11_onShut_180 x1 x2 s0 M
      · exact iX11_onShut_191 x1 s0 M
set_option maxRecDepth 100000 in
theorem iX11_onShut_93 (x1 : Int32) (x2 : Int32) (M : mv_M) : pl_rl 62 9 10 (fX11_onShut_93 x1 x2 M) M := by
  unfold fX11_onShut_93
  refine rl_chk ?_
  refine rl_chk ?_
  exact iX11_onShut_162 x1 x2 (M.1 76 (M.1 73 x1.toNatClampNeg).toNatClampNeg) M
set_option maxRecDepth 100000 in
theorem iX11_onShut_31 (x1 : Int32) (x2 : Int32) (x3 : Int32) (s0 : Int32) (s1 : Int32) (M : mv_M) : pl_rl 62 9 10 (fX11_onShut_31 x1 x2 x3 s0 s1 M) M := by
  unfold fX11_onShut_31
  refine rl_letM (by first | exact rl_si (by first | decide | omega) | exact rl_sl | exact rl_sr) (fun M3 => ?_)
  refine rl_if ?_ ?_
  · refine rl_chk ?_
    exact iX11_onShut_162 x1 x2 (M3.1 72 x1.toNatClampNeg) M3
  · refine rl_if ?_ ?_
    · refine rl_chk ?_
      refine rl_chk ?_
      exact iX11_onShut_162 x1 x2 (M3.1 70 ((16 * (M3.1 62 33)) + (M3.1 72 x1.toNatClampNeg)).toNatClampNeg) M3
    · refine rl_if ?_ ?_
      · exact iX11_onShut_93 x1 x2 M3
      · refine rl_if ?_ ?_
        · exact iX11_onShut_93 x1 x2 M3
        · refine rl_if ?_ ?_
          · exact iX11_onShut_93 x1 x2 M3
          · refine rl_if ?_ ?_
            · refine rl_chk ?_
              refine rl_chk ?_
              exact iX11_onShut_162 x1 x2 (M3.1 65 (M3.1 74 x1.toNatClampNeg).toNatClampNeg) M3
            · refine rl_if ?_ ?_
              · refine rl_chk ?_
                refine rl_chk ?_
                refine rl_chk ?_
                refine rl_chk ?_
                refine rl_bind (rl_of (by decide) (by decide) (qX11_pairOf (M3.1 76 (M3.1 72 x1.toNatClampNeg).toNatClampNeg) (M3.1 76 (M3.1 73 x1.toNatClampNeg).toNatClampNeg) M3)) (fun r8 M9 => ?_)
                exact iX11_onShut_162 x1 x2 r8 M9
              · exact iX11_onShut_162 x1 x2 0 M3
set_option maxRecDepth 100000 in
theorem iX11_onShut (a0 : Int32) (a1 : Int32) (M : mv_M) : pl_rl 62 9 10 (fX11_onShut a0 a1 M) M := by
  unfold fX11_onShut
  refine rl_chk ?_
  refine rl_let (fun v2 => ?_)
  refine rl_if ?_ ?_
  · exact iX11_onShut_31 a0 a1 v2 1 (M.1 62 44) M
  · refine rl_if ?_ ?_
    · exact iX11_onShut_31 a0 a1 v2 2 (M.1 62 44) M
    · exact iX11_onShut_31 a0 a1 v2 0 (M.1 62 44) M
set_option maxRecDepth 100000 in
theorem iX11_judge_271 (M : mv_M) : pl_rl 62 9 10 (fX11_judge_271 M) M := by
  unfold fX11_judge_271
  exact rl_some
set_option maxRecDepth 100000 in
theorem iX11_judge_177 (s0 : Int32) (s1 : Int32) (s2 : Int32) (M : mv_M) : pl_rl 62 9 10 (fX11_judge_177 s0 s1 s2 M) M := by
  unfold fX11_judge_177
  refine rl_bind (rl_of (by decide) (by decide) (qX11_task s2 s1 s0 M)) (fun _ M37 => ?_)
  exact iX11_judge_271 M37
set_option maxRecDepth 100000 in
theorem iX11_judge_262 (M : mv_M) : pl_rl 62 9 10 (fX11_judge_262 M) M := by
  unfold fX11_judge_262
  exact iX11_judge_271 M
set_option maxRecDepth 100000 in
theorem iX11_judge_233 (x1 : Int32) (x3 : Int32) (s0 : Int32) (s1 : Int32) (M : mv_M) : pl_rl 62 9 10 (fX11_judge_233 x1 x3 s0 s1 M) M := by
  unfold fX11_judge_233
  refine rl_bind (rl_of (by decide) (by decide) (qX11_tells s1 s0 M)) (fun _ M31 => ?_)
  refine rl_chk ?_
  refine rl_if ?_ ?_
  · refine rl_chk ?_
    refine rl_bind (rl_of (by decide) (by decide) (qX11_secondOf x3 M31)) (fun r34 M35 => ?_)
    refine rl_bind (rl_of (by decide) (by decide) (qX11_tells ((M31.1 74 x1.toNatClampNeg) + 1) r34 M35)) (fun _ M36 => ?_)
    exact iX11_judge_262 M36
  · exact iX11_judge_262 M31
set_option maxRecDepth 100000 in
theorem iX11_judge_71 (M : mv_M) : pl_rl 62 9 10 (fX11_judge_71 M) M := by
  unfold fX11_judge_71
  refine rl_loop ?_ _ M
  intro s M
  try dsimp only
  unfold gX11_judge_71
  refine rl_if ?_ ?_
  · exact rl_some
  · refine rl_if ?_ ?_
    · refine rl_letM (by first | exact rl_si (by first | decide | omega) | exact rl_sl | exact rl_sr) (fun M11 => ?_)
      refine rl_chk ?_
      refine rl_let (fun v13 => ?_)
      refine rl_chk ?_
      refine rl_let (fun v15 => ?_)
      refine rl_chk ?_
      refine rl_if ?_ ?_
      · refine rl_bind (iX11_onJudge v13 v15 M11) (fun _ M30 => ?_)
        exact iX11_judge_271 M30
      · refine rl_chk ?_
        refine rl_if ?_ ?_
        · refine rl_chk ?_
          refine rl_if ?_ ?_
          · exact iX11_judge_177 v15 (M11.1 74 v13.toNatClampNeg) 1 M11
          · refine rl_chk ?_
            refine rl_chk ?_
            exact iX11_judge_177 (M11.1 76 (M11.1 73 v13.toNatClampNeg).toNatClampNeg) (M11.1 74 v13.toNatClampNeg) 1 M11
        · refine rl_chk ?_
          refine rl_if ?_ ?_
          · refine rl_chk ?_
            refine rl_chk ?_
            refine rl_let (fun v22 => ?_)
            refine rl_chk ?_
            refine rl_chk ?_
            refine rl_if ?_ ?_
            · exact iX11_judge_233 v13 v22 v22 (M11.1 74 v13.toNatClampNeg) M11
            · refine rl_bind (rl_of (by decide) (by decide) (qX11_firstOf v22 M11)) (fun r25 M26 => ?_)
              exact iX11_judge_233 v13 v22 r25 (M11.1 74 v13.toNatClampNeg) M26
          · refine rl_bind (iX11_onShut v13 v15 M11) (fun _ M19 => ?_)
            exact iX11_judge_271 M19
    · exact rl_some
set_option maxRecDepth 100000 in
theorem iX11_judge_7 (x1 : Int32) (M : mv_M) : pl_rl 62 9 10 (fX11_judge_7 x1 M) M := by
  unfold fX11_judge_7
  refine rl_loop ?_ _ M
  intro x1 M
  try dsimp only
  unfold gX11_judge_7
  refine rl_chk ?_
  refine rl_if ?_ ?_
  · refine rl_letM (by first | exact rl_si (by first | decide | omega) | exact rl_sl | exact rl_sr) (fun M3 => ?_)
    refine rl_chk ?_
    refine rl_chk ?_
    refine rl_bind (rl_of (by decide) (by decide) (qX11_task 1 (M3.1 68 (M3.1 62 33).toNatClampNeg) (M3.1 65 (M3.1 62 33).toNatClampNeg) M3)) (fun _ M6 => ?_)
    exact rl_inr (iX11_judge_71 M6)
  · refine rl_chk ?_
    refine rl_letM (by first | exact rl_si (by first | decide | omega) | exact rl_sl | exact rl_sr) (fun M8 => ?_)
    refine rl_letM (by first | exact rl_si (by first | decide | omega) | exact rl_sl | exact rl_sr) (fun M9 => ?_)
    refine rl_let (fun v10 => ?_)
    exact rl_some
set_option maxRecDepth 100000 in
theorem iX11_judge (M : mv_M) : pl_rl 62 9 10 (fX11_judge M) M := by
  unfold fX11_judge
  refine rl_letM (by first | exact rl_si (by first | decide | omega) | exact rl_sl | exact rl_sr) (fun M1 => ?_)
  exact iX11_judge_7 0 M1
set_option maxRecDepth 100000 in
theorem iX11_read_168 (M : mv_M) : pl_rl 62 9 10 (fX11_read_168 M) M := by
  unfold fX11_read_168
  refine rl_letM (by first | exact rl_si (by first | decide | omega) | exact rl_sl | exact rl_sr) (fun M17 => ?_)
  refine rl_if ?_ ?_
  · refine rl_letM (by first | exact rl_si (by first | decide | omega) | exact rl_sl | exact rl_sr) (fun M18 => ?_)
    refine rl_chk ?_
    refine rl_letM (by first | exact rl_si (by first | decide | omega) | exact rl_sl | exact rl_sr) (fun M20 => ?_)
    refine rl_letM (by first | exact rl_si (by first | decide | omega) | exact rl_sl | exact rl_sr) (fun M21 => ?_)
    refine rl_letM (by first | exact rl_si (by first | decide | omega) | exact rl_sl | exact rl_sr) (fun M22 => ?_)
    refine rl_letM (by first | exact rl_si (by first | decide | omega) | exact rl_sl | exact rl_sr) (fun M23 => ?_)
    exact rl_some
  · exact rl_some
set_option maxRecDepth 100000 in
theorem iX11_read_125 (M : mv_M) : pl_rl 62 9 10 (fX11_read_125 M) M := by
  unfold fX11_read_125
  refine rl_loop ?_ _ M
  intro s M
  try dsimp only
  unfold gX11_read_125
  refine rl_if ?_ ?_
  · exact rl_inr (iX11_read_168 M)
  · refine rl_if ?_ ?_
    · refine rl_bind (iX11_judge M) (fun _ M15 => ?_)
      refine rl_letM (by first | exact rl_si (by first | decide | omega) | exact rl_sl | exact rl_sr) (fun M16 => ?_)
      exact rl_some
    · exact rl_inr (iX11_read_168 M)
set_option maxRecDepth 100000 in
theorem iX11_read_114 (M : mv_M) : pl_rl 62 9 10 (fX11_read_114 M) M := by
  unfold fX11_read_114
  refine rl_letM (by first | exact rl_si (by first | decide | omega) | exact rl_sl | exact rl_sr) (fun M14 => ?_)
  exact iX11_read_125 M14
set_option maxRecDepth 100000 in
theorem iX11_read_91 (M : mv_M) : pl_rl 62 9 10 (fX11_read_91 M) M := by
  unfold fX11_read_91
  refine rl_loop ?_ _ M
  intro s M
  try dsimp only
  unfold gX11_read_91
  refine rl_if ?_ ?_
  · refine rl_if ?_ ?_
    · exact rl_inr (iX11_read_114 M)
    · refine rl_bind (iX11_definition M) (fun _ M13 => ?_)
      exact rl_some
  · exact rl_inr (iX11_read_114 M)
