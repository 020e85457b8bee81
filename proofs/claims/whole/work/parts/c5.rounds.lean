/-! ROUNDS, as numbers: they come to an end -/
def bE (P : Nat → Nat → Nat) (R : Nat → Nat → Option (Nat → Nat)) (f d : Nat) : Option (Nat → Nat) := pE P R (fun n => P 13 (16 * f + n)) 81 (P 12 f) d
def upR (R : Nat → Nat → Option (Nat → Nat)) (f d : Nat) (v : Option (Nat → Nat)) : Nat → Nat → Option (Nat → Nat) := fun q e => if q = f ∧ e = d then v else R q e
def rsame (np : Nat) (X Y : Option (Nat → Nat)) : Prop := (X = none ∧ Y = none) ∨ ∃ x y, X = some x ∧ Y = some y ∧ ∀ k, k < np → x k = y k
def rd1 (P : Nat → Nat → Nat) (f : Nat) : Nat → Nat → (Nat → Nat → Option (Nat → Nat)) → Nat → Nat → Option (Nat → Nat)
  | 0, _, R => R
  | n + 1, d, R => rd1 P f n (d + 1) (upR R f d (bE P R f d))
def rdF (P : Nat → Nat → Nat) : Nat → Nat → (Nat → Nat → Option (Nat → Nat)) → Nat → Nat → Option (Nat → Nat)
  | 0, _, R => R
  | n + 1, f, R => rdF P n (f + 1) (rd1 P f (dem (P 11 f) - 1) 1 R)
/-- whether a round changes something -/
def cg1 (P : Nat → Nat → Nat) (f : Nat) : Nat → Nat → (Nat → Nat → Option (Nat → Nat)) → Prop
  | 0, _, _ => False
  | n + 1, d, R => ¬ rsame (P 9 f) (R f d) (bE P R f d) ∨ cg1 P f n (d + 1) (upR R f d (bE P R f d))
def cgF (P : Nat → Nat → Nat) : Nat → Nat → (Nat → Nat → Option (Nat → Nat)) → Prop
  | 0, _, _ => False
  | n + 1, f, R => cg1 P f (dem (P 11 f) - 1) 1 R ∨ cgF P n (f + 1) (rd1 P f (dem (P 11 f) - 1) 1 R)
def Rk (P : Nat → Nat → Nat) (F : Nat) : Nat → Nat → Nat → Option (Nat → Nat)
  | 0 => fun _ _ => none
  | k + 1 => rdF P F 0 (Rk P F k)
def Tk (P : Nat → Nat → Nat) : Nat → Nat → Nat → Option (Nat → Nat)
  | 0 => fun _ _ => none
  | k + 1 => fun q d => bE P (Tk P k) q d
/-- sums -/
def sm (g : Nat → Nat) : Nat → Nat
  | 0 => 0
  | n + 1 => sm g n + g n
theorem sm_le {g h : Nat → Nat} : ∀ n, (∀ i, i < n → g i ≤ h i) → sm g n ≤ sm h n := by
  intro n
  induction n with
  | zero => intro _; exact Nat.le_refl _
  | succ n ih =>
    intro H
    have h1 := ih (fun i hi => H i (by omega))
    have h2 := H n (by omega)
    unfold sm
    omega
theorem sm_lt {g h : Nat → Nat} : ∀ n, (∀ i, i < n → g i ≤ h i) → (∃ i, i < n ∧ g i < h i) → sm g n < sm h n := by
  intro n
  induction n with
  | zero => intro _ ⟨i, hi, _⟩; omega
  | succ n ih =>
    intro H ⟨i, hi, hlt⟩
    have h2 := H n (by omega)
    unfold sm
    by_cases e : i = n
    · subst e
      have h1 := sm_le i (fun j hj => H j (by omega))
      omega
    · have h1 := ih (fun j hj => H j (by omega)) ⟨i, by omega, hlt⟩
      omega
theorem sm_bd {g : Nat → Nat} {B : Nat} : ∀ n, (∀ i, i < n → g i ≤ B) → sm g n ≤ n * B := by
  intro n
  induction n with
  | zero => intro _; exact Nat.zero_le _
  | succ n ih =>
    intro H
    have h1 := ih (fun i hi => H i (by omega))
    have h2 := H n (by omega)
    unfold sm
    rw [Nat.succ_mul]
    omega
/-- how much a row asks; all rows -/
def wR (P : Nat → Nat → Nat) (X : Option (Nat → Nat)) (q : Nat) : Nat := match X with
  | none => 200
  | some r => sm r (P 9 q)
def wT (P : Nat → Nat → Nat) (F : Nat) (R : Nat → Nat → Option (Nat → Nat)) : Nat := sm (fun q => sm (fun d => if 0 < d ∧ d < dem (P 11 q) then wR P (R q d) q else 0) 26) F
section RO
variable {P : Nat → Nat → Nat} {F ND : Nat} {R U L : Nat → Nat → Option (Nat → Nat)} {X Y Z : Option (Nat → Nat)} {ty : Nat → Nat} {nn : Nat}
theorem xle_tr (ht : ∀ n, n < nn → ty n < 6) (vX : vOK ty nn X) (vY : vOK ty nn Y) (vZ : vOK ty nn Z) (h1 : xle ty nn X Y) (h2 : xle ty nn Y Z) : xle ty nn X Z := by
  intro z hz
  obtain ⟨y, rfl, hy⟩ := h2 z hz
  obtain ⟨x, rfl, hx⟩ := h1 y rfl
  exact ⟨x, rfl, fun n hn => dl_tr (ht n hn) (vX x rfl n hn) (vY y rfl n hn) (vZ z hz n hn) (hx n hn) (hy n hn)⟩
theorem xle_same (ht : ∀ n, n < nn → ty n < 6) (vX : vOK ty nn X) (vY : vOK ty nn Y) (h1 : xle ty nn X Y) (h2 : xle ty nn Y X) : rsame nn X Y := by
  cases Y with
  | none =>
    cases X with
    | none => exact .inl ⟨rfl, rfl⟩
    | some x =>
      obtain ⟨y, hy, _⟩ := h2 x rfl
      cases hy
  | some y =>
    obtain ⟨x, rfl, hx⟩ := h1 y rfl
    obtain ⟨y', hy', hyx⟩ := h2 x rfl
    cases hy'
    exact .inr ⟨x, y, rfl, rfl, fun k hk => (le_row (ht k hk) (vX x rfl k hk) (vY y rfl k hk) (hx k hk)).2.1 (hyx k hk)⟩
theorem same_xle (ht : ∀ n, n < nn → ty n < 6) (vX : vOK ty nn X) (h : rsame nn X Y) : xle ty nn X Y ∧ xle ty nn Y X := by
  rcases h with ⟨rfl, rfl⟩ | ⟨x, y, rfl, rfl, h⟩
  · exact ⟨fun y hy => (by cases hy), fun y hy => (by cases hy)⟩
  · refine ⟨fun z hz => ?_, fun z hz => ?_⟩
    · cases hz
      exact ⟨x, rfl, fun n hn => by
        rw [← h n hn]
        exact (tg_row (ht n hn) (vX x rfl n hn) (vX x rfl n hn)).2.2.2.2.2.2.2⟩
    · cases hz
      exact ⟨y, rfl, fun n hn => by
        rw [← h n hn]
        exact (tg_row (ht n hn) (vX x rfl n hn) (vX x rfl n hn)).2.2.2.2.2.2.2⟩
/-- the types of a function's parameters -/
theorem ht_p (hW : WFp P F ND) {q : Nat} (hq : q < F) : ∀ k, k < P 9 q → (fun k => P 13 (16 * q + k)) k < 6 := fun k hk => by
  have := (hW.2.2.2 q hq).2.2.2.2.2.2.2.1 k hk
  show P 13 (16 * q + k) < 6
  omega
theorem rOK_v (hR : rOK P F R) {q d : Nat} (hq : q < F) (h0 : 0 < d) (hd : d < dem (P 11 q)) : vOK (fun k => P 13 (16 * q + k)) (P 9 q) (R q d) := fun x hx k hk => hR q hq d h0 hd x hx k hk
theorem bE_ok (hW : WFp P F ND) (hR : rOK P F R) {f d : Nat} (hf : f < F) (h0 : 0 < d) (hd : d < dem (P 11 f)) : vOK (fun k => P 13 (16 * f + k)) (P 9 f) (bE P R f d) := by
  have w := hW.2.2.2 f hf
  have h := pE_ok hW hR hf 81 (P 12 f) d w.2.2.2.2.1 (Nat.le_refl _) (by have := (w.2.2.2.2.2.2.2.2.2 (P 12 f) w.2.2.2.2.1 (Nat.le_refl _)).2.1; omega) h0 (by rw [w.2.2.2.2.2.2.1]; exact hd)
  exact fun x hx k hk => h x hx k (by omega)
theorem bE_mono (hW : WFp P F ND) (hR : rOK P F R) (hU : rOK P F U) (hX : XM P F R U) {f d d' : Nat} (hf : f < F) (h0 : 0 < d) (hd : d < dem (P 11 f)) (hd' : d' < dem (P 11 f)) (hle : ei (P 11 f) d d' = d) : xle (fun k => P 13 (16 * f + k)) (P 9 f) (bE P R f d) (bE P U f d') := by
  have w := hW.2.2.2 f hf
  have h := pE_mono hW hR hU hX hf 81 (P 12 f) d d' w.2.2.2.2.1 (Nat.le_refl _) (by have := (w.2.2.2.2.2.2.2.2.2 (P 12 f) w.2.2.2.2.1 (Nat.le_refl _)).2.1; omega) h0 (by rw [w.2.2.2.2.2.2.1]; exact hd) (by rw [w.2.2.2.2.2.2.1]; exact hd') (by rw [w.2.2.2.2.2.2.1]; exact hle)
  intro y hy
  obtain ⟨x, e, hx⟩ := h y hy
  exact ⟨x, e, fun k hk => hx k (by omega)⟩
theorem rOK_up (hW : WFp P F ND) (hR : rOK P F R) {f d : Nat} (hf : f < F) (h0 : 0 < d) (hd : d < dem (P 11 f)) : rOK P F (upR R f d (bE P R f d)) := by
  intro q hq e e0 e1 r hr k hk
  unfold upR at hr
  by_cases h : q = f ∧ e = d
  · rw [if_pos h] at hr
    obtain ⟨rfl, rfl⟩ := h
    exact bE_ok hW hR hf h0 hd r hr k hk
  · rw [if_neg h] at hr
    exact hR q hq e e0 e1 r hr k hk
theorem dl_rf {t a : Nat} (ht : t < 6) (ha : a < dem t) : ei t a a = a := (tg_row ht ha ha).2.2.2.2.2.2.2
theorem ans6 (hW : WFp P F ND) {f : Nat} (hf : f < F) : P 11 f < 6 := by
  have := (hW.2.2.2 f hf).2.2.2.1
  omega
/-- below a table that comes down by Jacobi's step -/
theorem XM_up (hW : WFp P F ND) (hR : rOK P F R) (hU : rOK P F U) (hX : XM P F R U) (hU' : XM P F (fun q d => bE P U q d) U) {f d : Nat} (hf : f < F) (h0 : 0 < d) (hd : d < dem (P 11 f)) : XM P F (upR R f d (bE P R f d)) U := by
  intro q hq e e' e0 e1 e2 hle
  unfold upR
  by_cases h : q = f ∧ e = d
  · rw [if_pos h]
    obtain ⟨rfl, rfl⟩ := h
    have e'0 : e' ≠ 0 := (le_row (ans6 hW hf) hd e2 hle).2.2 (by omega)
    exact xle_tr (ht_p hW hf) (bE_ok hW hR hf h0 hd) (bE_ok hW hU hf (by omega) e2) (rOK_v hU hf (by omega) e2) (bE_mono hW hR hU hX hf h0 hd e2 hle) (hU' q hq e' e' (by omega) e2 e2 (dl_rf (ans6 hW hf) e2))
  · rw [if_neg h]
    exact hX q hq e e' e0 e1 e2 hle
/-- above a table that stands -/
theorem XM_dn (hW : WFp P F ND) (hR : rOK P F R) (hL : rOK P F L) (hX : XM P F L R) (hL' : XM P F L (fun q d => bE P L q d)) {f d : Nat} (hf : f < F) (h0 : 0 < d) (hd : d < dem (P 11 f)) : XM P F L (upR R f d (bE P R f d)) := by
  intro q hq e e' e0 e1 e2 hle
  unfold upR
  by_cases h : q = f ∧ e' = d
  · rw [if_pos h]
    obtain ⟨rfl, rfl⟩ := h
    exact xle_tr (ht_p hW hf) (rOK_v hL hf e0 e1) (bE_ok hW hL hf e0 e1) (bE_ok hW hR hf h0 hd) (hL' q hq e e e0 e1 e1 (dl_rf (ans6 hW hf) e1)) (bE_mono hW hL hR hX hf e0 e1 hd hle)
  · rw [if_neg h]
    exact hX q hq e e' e0 e1 e2 hle
theorem rd1_inv (hW : WFp P F ND) {f : Nat} (hf : f < F) {I : (Nat → Nat → Option (Nat → Nat)) → Prop} (hI : ∀ R d, rOK P F R → I R → 0 < d → d < dem (P 11 f) → I (upR R f d (bE P R f d))) : ∀ n d R, d + n ≤ dem (P 11 f) → 0 < d → rOK P F R → I R → rOK P F (rd1 P f n d R) ∧ I (rd1 P f n d R) := by
  intro n
  induction n with
  | zero => intro d R _ _ h1 h2; exact ⟨h1, h2⟩
  | succ n ih =>
    intro d R hd h0 h1 h2
    exact ih (d + 1) _ (by omega) (by omega) (rOK_up hW h1 hf h0 (by omega)) (hI R d h1 h2 h0 (by omega))
theorem rdF_inv (hW : WFp P F ND) {I : (Nat → Nat → Option (Nat → Nat)) → Prop} (hI : ∀ R f d, f < F → rOK P F R → I R → 0 < d → d < dem (P 11 f) → I (upR R f d (bE P R f d))) : ∀ n f R, f + n = F → rOK P F R → I R → rOK P F (rdF P n f R) ∧ I (rdF P n f R) := by
  intro n
  induction n with
  | zero => intro f R _ h1 h2; exact ⟨h1, h2⟩
  | succ n ih =>
    intro f R hf h1 h2
    have hd : 0 < dem (P 11 f) := dem_pos
    obtain ⟨a1, a2⟩ := rd1_inv hW (show f < F by omega) (fun R d u1 u2 u3 u4 => hI R f d (by omega) u1 u2 u3 u4) (dem (P 11 f) - 1) 1 R (by omega) (by omega) h1 h2
    exact ih (f + 1) _ (by omega) a1 a2
/-- rows that were renewed in a round stand below the next table -/
theorem rdF_next (hW : WFp P F ND) (hU : rOK P F U) (hU' : XM P F (fun q d => bE P U q d) U) (hR : rOK P F R) (hX : XM P F R U) : XM P F (rdF P F 0 R) (fun q d => bE P U q d) := by
  -- with what is done so far
  have key1 : ∀ f, f < F → ∀ n d R, d + n = dem (P 11 f) → 0 < d → rOK P F R → XM P F R U → (∀ q, q < F → ∀ e e', (q < f ∨ (q = f ∧ e < d)) → 0 < e → e < dem (P 11 q) → e' < dem (P 11 q) → ei (P 11 q) e e' = e → xle (fun k => P 13 (16 * q + k)) (P 9 q) (R q e) (bE P U q e')) → rOK P F (rd1 P f n d R) ∧ XM P F (rd1 P f n d R) U ∧ ∀ q, q < F → ∀ e e', q < f + 1 → 0 < e → e < dem (P 11 q) → e' < dem (P 11 q) → ei (P 11 q) e e' = e → xle (fun k => P 13 (16 * q + k)) (P 9 q) (rd1 P f n d R q e) (bE P U q e') := by
    intro f hf n
    induction n with
    | zero =>
      intro d R hd h0 h1 h2 h3
      refine ⟨h1, h2, fun q hq e e' hqf e0 e1 e2 hle => h3 q hq e e' ?_ e0 e1 e2 hle⟩
      by_cases hqe : q = f
      · subst hqe; exact .inr ⟨rfl, by omega⟩
      · exact .inl (by omega)
    | succ n ih =>
      intro d R hd h0 h1 h2 h3
      refine ih (d + 1) _ (by omega) (by omega) (rOK_up hW h1 hf h0 (by omega)) (XM_up hW h1 hU h2 hU' hf h0 (by omega)) (fun q hq e e' hqe e0 e1 e2 hle => ?_)
      unfold upR
      by_cases h : q = f ∧ e = d
      · rw [if_pos h]
        obtain ⟨rfl, rfl⟩ := h
        exact bE_mono hW h1 hU h2 hf e0 e1 e2 hle
      · rw [if_neg h]
        exact h3 q hq e e' (by omega) e0 e1 e2 hle
  have key2 : ∀ n f R, f + n = F → rOK P F R → XM P F R U → (∀ q, q < F → ∀ e e', q < f → 0 < e → e < dem (P 11 q) → e' < dem (P 11 q) → ei (P 11 q) e e' = e → xle (fun k => P 13 (16 * q + k)) (P 9 q) (R q e) (bE P U q e')) → XM P F (rdF P n f R) (fun q d => bE P U q d) := by
    intro n
    induction n with
    | zero =>
      intro f R hf h1 h2 h3 q hq e e' e0 e1 e2 hle
      exact h3 q hq e e' (by omega) e0 e1 e2 hle
    | succ n ih =>
      intro f R hf h1 h2 h3
      have hd : 0 < dem (P 11 f) := dem_pos
      obtain ⟨a1, a2, a3⟩ := key1 f (by omega) (dem (P 11 f) - 1) 1 R (by omega) (by omega) h1 h2 (fun q hq e e' hqe e0 e1 e2 hle => h3 q hq e e' (by omega) e0 e1 e2 hle)
      exact ih (f + 1) _ (by omega) a1 a2 a3
  exact key2 F 0 R (by omega) hR hX (fun q hq e e' hqf => by omega)
theorem rOK_0 : rOK P F (fun _ _ => none) := fun q _ d _ _ r hr => by cases hr
theorem XM_0 : XM P F R (fun _ _ => none) := fun q _ d d' _ _ _ _ y hy => by cases hy
theorem Tk_ok (hW : WFp P F ND) : ∀ k, rOK P F (Tk P k) ∧ XM P F (Tk P k) (Tk P k) ∧ XM P F (Tk P (k + 1)) (Tk P k) := by
  intro k
  induction k with
  | zero => exact ⟨rOK_0, XM_0, XM_0⟩
  | succ k ih =>
    obtain ⟨i1, i2, i3⟩ := ih
    have o1 : rOK P F (Tk P (k + 1)) := fun q hq d d0 d1 r hr j hj => bE_ok hW i1 hq d0 d1 r hr j hj
    refine ⟨o1, fun q hq d d' d0 d1 d2 hle => bE_mono hW i1 i1 i2 hq d0 d1 d2 hle, fun q hq d d' d0 d1 d2 hle => ?_⟩
    exact bE_mono hW o1 i1 i3 hq d0 d1 d2 hle
theorem Rk_ok (hW : WFp P F ND) : ∀ k, rOK P F (Rk P F k) ∧ XM P F (Rk P F k) (Tk P k) := by
  intro k
  induction k with
  | zero => exact ⟨rOK_0, XM_0⟩
  | succ k ih =>
    obtain ⟨t1, t2, t3⟩ := Tk_ok hW k
    refine ⟨(rdF_inv (I := fun _ => True) hW (fun _ _ _ _ _ _ _ _ => trivial) F 0 _ (by omega) ih.1 trivial).1, ?_⟩
    exact rdF_next hW t1 t3 ih.1 ih.2
theorem wT_bd (hW : WFp P F ND) (hR : rOK P F R) : wT P F R ≤ 62400 := by
  have h1 := sm_bd (g := fun q => sm (fun d => if 0 < d ∧ d < dem (P 11 q) then wR P (R q d) q else 0) 26) (B := 5200) F (fun q hq => by
    have h2 := sm_bd (g := fun d => if 0 < d ∧ d < dem (P 11 q) then wR P (R q d) q else 0) (B := 200) 26 (fun d hd => by
      show (if 0 < d ∧ d < dem (P 11 q) then wR P (R q d) q else 0) ≤ 200
      by_cases h : 0 < d ∧ d < dem (P 11 q)
      · rw [if_pos h]
        unfold wR
        cases hr : R q d with
        | none => exact Nat.le_refl _
        | some r =>
          have h3 := sm_bd (g := r) (B := 25) (P 9 q) (fun k hk => by
            have := hR q hq d h.1 h.2 r hr k hk
            have := dem_le (t := P 13 (16 * q + k))
            omega)
          have := (hW.2.2.2 q hq).1
          have : P 9 q * 25 ≤ 4 * 25 := Nat.mul_le_mul_right _ this
          show sm r (P 9 q) ≤ 200
          omega
      · rw [if_neg h]; omega)
    show sm _ 26 ≤ 5200
    omega)
  have : F * 5200 ≤ 12 * 5200 := Nat.mul_le_mul_right _ hW.2.1
  unfold wT
  omega
theorem wR_le {q : Nat} (hW : WFp P F ND) (hq : q < F) (vX : vOK (fun k => P 13 (16 * q + k)) (P 9 q) X) (vY : vOK (fun k => P 13 (16 * q + k)) (P 9 q) Y) (h : xle (fun k => P 13 (16 * q + k)) (P 9 q) X Y) : wR P X q ≤ wR P Y q ∧ (¬ rsame (P 9 q) X Y → wR P X q < wR P Y q) := by
  have hp := (hW.2.2.2 q hq).1
  cases Y with
  | none =>
    cases X with
    | none => exact ⟨Nat.le_refl _, fun z => absurd (.inl ⟨rfl, rfl⟩) z⟩
    | some x =>
      have h3 := sm_bd (g := x) (B := 25) (P 9 q) (fun k hk => by
        have : x k < dem (P 13 (16 * q + k)) := vX x rfl k hk
        have := dem_le (t := P 13 (16 * q + k))
        omega)
      have : P 9 q * 25 ≤ 4 * 25 := Nat.mul_le_mul_right _ hp
      show sm x (P 9 q) ≤ 200 ∧ (_ → sm x (P 9 q) < 200)
      omega
  | some y =>
    obtain ⟨x, rfl, hx⟩ := h y rfl
    have hle : ∀ k, k < P 9 q → x k ≤ y k := fun k hk => (le_row (ht_p hW hq k hk) (vX x rfl k hk) (vY y rfl k hk) (hx k hk)).1
    refine ⟨sm_le _ hle, fun z => sm_lt _ hle ?_⟩
    apply Classical.byContradiction
    intro hno
    apply z
    refine .inr ⟨x, y, rfl, rfl, fun k hk => ?_⟩
    have := hle k hk
    apply Classical.byContradiction
    intro hne
    exact hno ⟨k, hk, by omega⟩
/-- somewhere Jacobi's tables stand still -/
theorem Tk_stop (hW : WFp P F ND) : ∃ K, K ≤ 62400 ∧ ∀ q, q < F → ∀ d, 0 < d → d < dem (P 11 q) → rsame (P 9 q) (Tk P (K + 1) q d) (Tk P K q d) := by
  apply Classical.byContradiction
  intro hno
  have key : ∀ k, k ≤ 62401 → wT P F (Tk P k) + k ≤ wT P F (Tk P 0) := by
    intro k
    induction k with
    | zero => intro _; omega
    | succ k ih =>
      intro hk
      have h1 := ih (by omega)
      obtain ⟨t1, t2, t3⟩ := Tk_ok hW k
      obtain ⟨t1', _⟩ := Tk_ok hW (k + 1)
      have h2 : wT P F (Tk P (k + 1)) < wT P F (Tk P k) := by
        have hs : ∃ q, q < F ∧ ∃ d, 0 < d ∧ d < dem (P 11 q) ∧ ¬ rsame (P 9 q) (Tk P (k + 1) q d) (Tk P k q d) := by
          apply Classical.byContradiction
          intro hn
          apply hno
          refine ⟨k, by omega, fun q hq d d0 d1 => ?_⟩
          apply Classical.byContradiction
          intro hr
          exact hn ⟨q, hq, d, d0, d1, hr⟩
        obtain ⟨q, hq, d, d0, d1, hr⟩ := hs
        have step : ∀ q, q < F → ∀ d, 0 < d → d < dem (P 11 q) → wR P (Tk P (k + 1) q d) q ≤ wR P (Tk P k q d) q ∧ (¬ rsame (P 9 q) (Tk P (k + 1) q d) (Tk P k q d) → wR P (Tk P (k + 1) q d) q < wR P (Tk P k q d) q) := fun q hq d d0 d1 => wR_le hW hq (rOK_v t1' hq d0 d1) (rOK_v t1 hq d0 d1) (t3 q hq d d d0 d1 d1 (dl_rf (ans6 hW hq) d1))
        have row : ∀ q, q < F → ∀ d, (if 0 < d ∧ d < dem (P 11 q) then wR P (Tk P (k + 1) q d) q else 0) ≤ (if 0 < d ∧ d < dem (P 11 q) then wR P (Tk P k q d) q else 0) := by
          intro q hq d
          by_cases h : 0 < d ∧ d < dem (P 11 q)
          · rw [if_pos h, if_pos h]; exact (step q hq d h.1 h.2).1
          · rw [if_neg h, if_neg h]; exact Nat.le_refl _
        unfold wT
        refine sm_lt _ (fun q hq => sm_le _ (fun d _ => row q hq d)) ⟨q, hq, sm_lt _ (fun d _ => row q hq d) ⟨d, by have := dem_le (t := P 11 q); omega, ?_⟩⟩
        show (if 0 < d ∧ d < dem (P 11 q) then wR P (Tk P (k + 1) q d) q else 0) < (if 0 < d ∧ d < dem (P 11 q) then wR P (Tk P k q d) q else 0)
        rw [if_pos ⟨d0, d1⟩, if_pos ⟨d0, d1⟩]
        exact (step q hq d d0 d1).2 hr
      omega
  have h1 := key 62401 (by omega)
  have h2 := wT_bd (R := Tk P 0) hW rOK_0
  omega
/-- the rounds come to an end -/
theorem Rk_stop (hW : WFp P F ND) : ∃ K, K ≤ 62400 ∧ ¬ cgF P F 0 (Rk P F K) := by
  obtain ⟨K, hK, hs⟩ := Tk_stop hW
  obtain ⟨t1, t2, t3⟩ := Tk_ok hW K
  obtain ⟨r1, r2⟩ := Rk_ok hW K
  have o1 : rOK P F (fun q d => bE P (Tk P K) q d) := fun q hq d d0 d1 r hr j hj => bE_ok hW t1 hq d0 d1 r hr j hj
  -- the table stands
  have hLu : XM P F (fun q d => bE P (Tk P K) q d) (Tk P K) := t3
  have hLd : XM P F (Tk P K) (fun q d => bE P (Tk P K) q d) := by
    intro q hq d d' d0 d1 d2 hle
    have d'0 : d' ≠ 0 := (le_row (ans6 hW hq) d1 d2 hle).2.2 (by omega)
    have e1 := (same_xle (ht_p hW hq) (rOK_v o1 hq (by omega) d2) (hs q hq d' (by omega) d2)).2
    exact xle_tr (ht_p hW hq) (rOK_v t1 hq d0 d1) (rOK_v t1 hq (by omega) d2) (rOK_v o1 hq (by omega) d2) (t2 q hq d d' d0 d1 d2 hle) e1
  -- rows from below
  have low : ∀ k, XM P F (Tk P K) (Rk P F k) := by
    intro k
    induction k with
    | zero => exact XM_0
    | succ k ih =>
      have := (rdF_inv (P := P) (F := F) (I := fun R => XM P F (Tk P K) R) hW (fun R f d hf u1 u2 u3 u4 => XM_dn hW u1 t1 u2 hLd hf u3 u4) F 0 (Rk P F k) (by omega) (Rk_ok hW k).1 ih).2
      exact this
  refine ⟨K, hK, ?_⟩
  have still : ∀ f, f < F → ∀ n d R, d + n ≤ dem (P 11 f) → 0 < d → rOK P F R → XM P F R (Tk P K) → XM P F (Tk P K) R → ¬ cg1 P f n d R := by
    intro f hf n
    induction n with
    | zero => intro d R _ _ _ _ _ h; exact h
    | succ n ih =>
      intro d R hd h0 u1 u2 u3 h
      rcases h with h | h
      · apply h
        have a1 := u2 f hf d d h0 (by omega) (by omega) (dl_rf (ans6 hW hf) (by omega))
        have a2 := hLd f hf d d h0 (by omega) (by omega) (dl_rf (ans6 hW hf) (by omega))
        have a3 := bE_mono hW t1 u1 u3 hf h0 (show d < dem (P 11 f) by omega) (show d < dem (P 11 f) by omega) (dl_rf (ans6 hW hf) (by omega))
        have b1 := bE_mono hW u1 t1 u2 hf h0 (show d < dem (P 11 f) by omega) (show d < dem (P 11 f) by omega) (dl_rf (ans6 hW hf) (by omega))
        have b2 := hLu f hf d d h0 (by omega) (by omega) (dl_rf (ans6 hW hf) (by omega))
        have b3 := u3 f hf d d h0 (by omega) (by omega) (dl_rf (ans6 hW hf) (by omega))
        have vR := rOK_v u1 hf h0 (show d < dem (P 11 f) by omega)
        have vL := rOK_v t1 hf h0 (show d < dem (P 11 f) by omega)
        have vbR := bE_ok hW u1 hf h0 (show d < dem (P 11 f) by omega)
        have vbL := bE_ok hW t1 hf h0 (show d < dem (P 11 f) by omega)
        exact xle_same (ht_p hW hf) vR vbR (xle_tr (ht_p hW hf) vR vL vbR a1 (xle_tr (ht_p hW hf) vL vbL vbR a2 a3)) (xle_tr (ht_p hW hf) vbR vbL vR b1 (xle_tr (ht_p hW hf) vbL vL vR b2 b3))
      · exact ih (d + 1) _ (by omega) (by omega) (rOK_up hW u1 hf h0 (by omega)) (XM_up hW u1 t1 u2 hLu hf h0 (by omega)) (XM_dn hW u1 t1 u3 hLd hf h0 (by omega)) h
  have stillF : ∀ n f R, f + n = F → rOK P F R → XM P F R (Tk P K) → XM P F (Tk P K) R → ¬ cgF P n f R := by
    intro n
    induction n with
    | zero => intro f R _ _ _ _ h; exact h
    | succ n ih =>
      intro f R hf u1 u2 u3 h
      have hd : 0 < dem (P 11 f) := dem_pos
      rcases h with h | h
      · exact still f (by omega) _ 1 R (by omega) (by omega) u1 u2 u3 h
      · obtain ⟨a1, a2⟩ := rd1_inv (I := fun R => XM P F R (Tk P K) ∧ XM P F (Tk P K) R) hW (show f < F by omega) (fun R d w1 w2 w3 w4 => ⟨XM_up hW w1 t1 w2.1 hLu (by omega) w3 w4, XM_dn hW w1 t1 w2.2 hLd (by omega) w3 w4⟩) (dem (P 11 f) - 1) 1 R (by omega) (by omega) u1 ⟨u2, u3⟩
        exact ih (f + 1) _ (by omega) a1 a2.1 a2.2 h
  exact stillF F 0 (Rk P F K) (by omega) r1 r2 (low K)
end RO
