/-! TYPES: what is typed, what stays -/
/-- name nm is bound by the node that the ghost names -/
def BD (b : Nat) (M0 : mv_M) (g : Nat → Nat → Nat) (nm : Nat) : Prop := (M0.1 (b + 8) (g 2 nm) = nI 304 ∧ M0.1 (b + 11) (g 2 nm) = nI nm) ∨ (M0.1 (b + 8) (g 2 nm) = nI 306 ∧ (M0.1 (b + 11) (g 2 nm) = nI nm ∨ (0 < nm ∧ M0.1 (b + 11) (g 2 nm) = nI (nm - 1))))
/-- name nm stands at node a -/
def IS (g : Nat → Nat → Nat) (p hi a nm : Nat) : Prop := nm < p ∨ (p ≤ nm ∧ g 2 nm < hi ∧ g 1 (g 2 nm) ≤ g 1 (g 2 nm - 1) ∧ g 1 (g 2 nm - 1) ≤ a ∧ a < g 2 nm ∧ g 3 nm = 1)
def nt (b h f p m hi F : Nat) (g : Nat → Nat → Nat) (M0 M N : mv_M) (a y : Nat) : Prop :=
  (M0.1 (b + 8) a = nI 3 ∧ y = 0) ∨ M0.1 (b + 8) a = nI 308
  ∨ (M0.1 (b + 8) a = nI 2 ∧ ∃ nm, nm < m ∧ IS g p hi a nm ∧ M.1 (b + 9) a = nI nm ∧ N.1 72 (g 0 a) = nI nm ∧ M.1 (b + 7) (f * 16 + nm) = nI y ∧ N.1 70 (16 * (12 * h + f) + nm) = nI y)
  ∨ (M0.1 (b + 8) a = nI 5 ∧ ∃ q pq, ∃ e : Nat → Nat, q < F ∧ M.1 (b + 9) a = nI q ∧ N.1 74 (g 0 a) = nI (12 * h + q) ∧ M0.1 (b + 4) q = nI y ∧ M0.1 (b + 2) q = nI pq ∧ M0.1 (b + 11) a = nI pq ∧ pq ≤ 4 ∧ (0 < pq → M0.1 (b + 10) a = nI (e 0)) ∧ (∀ k, k + 1 < pq → M0.1 (b + 12) (e k) = nI (e (k + 1))) ∧ ∀ k, k < pq → e k < a ∧ g 1 a ≤ e k ∧ ∃ yk, yk ≤ 4 ∧ M.1 (b + 13) (e k) = nI yk ∧ M0.1 (b + 7) (q * 16 + k) = nI yk)
  ∨ (∃ c1 c2, c2 + 1 = a ∧ c1 < c2 ∧ g 1 a ≤ c1 ∧ M0.1 (b + 9) a = nI c1 ∧ M0.1 (b + 10) a = nI c2 ∧ (((∃ s, (s = 43 ∨ s = 45 ∨ s = 42 ∨ s = 60 ∨ s = 4) ∧ M0.1 (b + 8) a = nI s) ∧ y = 0 ∧ M.1 (b + 13) c1 = nI 0 ∧ M.1 (b + 13) c2 = nI 0) ∨ (M0.1 (b + 8) a = nI 6 ∧ ∃ y1 y2, y1 ≤ 1 ∧ y2 ≤ 1 ∧ y = 1 + 2 * y1 + y2 ∧ M.1 (b + 13) c1 = nI y1 ∧ M.1 (b + 13) c2 = nI y2) ∨ (M0.1 (b + 8) a = nI 304 ∧ ∃ m0 y1, p ≤ m0 ∧ m0 < m ∧ M0.1 (b + 11) a = nI m0 ∧ g 2 m0 = a ∧ y1 ≤ 4 ∧ M.1 (b + 13) c1 = nI y1 ∧ M.1 (b + 7) (f * 16 + m0) = nI y1 ∧ N.1 70 (16 * (12 * h + f) + m0) = nI y1 ∧ M.1 (b + 13) c2 = nI y) ∨ (M0.1 (b + 8) a = nI 306 ∧ ∃ m0 y1, p ≤ m0 ∧ m0 + 1 < m ∧ M0.1 (b + 11) a = nI m0 ∧ g 2 m0 = a ∧ g 2 (m0 + 1) = a ∧ 0 < y1 ∧ y1 ≤ 4 ∧ M.1 (b + 13) c1 = nI y1 ∧ M.1 (b + 7) (f * 16 + m0) = nI ((y1 - 1) / 2) ∧ N.1 70 (16 * (12 * h + f) + m0) = nI ((y1 - 1) / 2) ∧ M.1 (b + 7) (f * 16 + (m0 + 1)) = nI ((y1 - 1) % 2) ∧ N.1 70 (16 * (12 * h + f) + (m0 + 1)) = nI ((y1 - 1) % 2) ∧ M.1 (b + 13) c2 = nI y)))
  ∨ (∃ c1 c2 c3, c3 + 1 = a ∧ c2 < c3 ∧ c1 < c2 ∧ g 1 a ≤ c1 ∧ M0.1 (b + 8) a = nI 301 ∧ M0.1 (b + 9) a = nI c1 ∧ M0.1 (b + 10) a = nI c2 ∧ M0.1 (b + 11) a = nI c3 ∧ M.1 (b + 13) c1 = nI 0 ∧ M.1 (b + 13) c2 = nI y ∧ M.1 (b + 13) c3 = nI y)
def NTy (b h f p m hi F : Nat) (g : Nat → Nat → Nat) (M0 M N : mv_M) (a : Nat) : Prop := ∃ y, y ≤ 4 ∧ M.1 (b + 13) a = nI y ∧ N.1 76 (g 0 a) = nI y ∧ nt b h f p m hi F g M0 M N a y
/-- what typing a segment may change -/
def yF (b h f p : Nat) (g : Nat → Nat → Nat) (nd e : Nat) (M N M' N' : mv_M) : Prop :=
  (∀ k, ¬ (nd ≤ k ∧ k < e) → M'.1 (b + 13) k = M.1 (b + 13) k ∧ M'.1 (b + 9) k = M.1 (b + 9) k)
  ∧ (∀ j, (∀ nm, p ≤ nm → nm < 16 → nd ≤ g 2 nm → g 2 nm < e → j ≠ f * 16 + nm) → M'.1 (b + 7) j = M.1 (b + 7) j)
  ∧ (∀ j, (∀ nm, p ≤ nm → nm < 16 → nd ≤ g 2 nm → g 2 nm < e → j ≠ 16 * (12 * h + f) + nm) → N'.1 70 j = N.1 70 j)
  ∧ (∀ x, (∀ k, nd ≤ k → k < e → x ≠ g 0 k) → N'.1 76 x = N.1 76 x ∧ N'.1 72 x = N.1 72 x ∧ N'.1 74 x = N.1 74 x)
def yP (b h F : Nat) (M0 N0 M N : mv_M) : Prop :=
  (∀ k, M0.1 (b + 8) k ≠ nI 2 → M0.1 (b + 8) k ≠ nI 5 → M.1 (b + 9) k = M0.1 (b + 9) k) ∧ (∀ k, M0.1 (b + 8) k = nI 308 → M.1 (b + 13) k = M0.1 (b + 13) k)
  ∧ (∀ x, N0.1 71 x ≠ nI 7 → N.1 72 x = N0.1 72 x) ∧ (∀ x, N0.1 71 x ≠ nI 8 → N.1 74 x = N0.1 74 x)
  ∧ (∀ q k pq, q < F → M0.1 (b + 2) q = nI pq → pq ≤ 4 → k < pq → M.1 (b + 7) (q * 16 + k) = M0.1 (b + 7) (q * 16 + k) ∧ N.1 70 (16 * (12 * h + q) + k) = N0.1 70 (16 * (12 * h + q) + k))
def ySc (b h f p m hi : Nat) (g : Nat → Nat → Nat) (M N : mv_M) (sc : Nat) (S : Nat → Nat) (a : Nat) : Prop := (∀ k, k < sc → S k < m ∧ IS g p hi a (S k) ∧ ∃ y, y ≤ 4 ∧ M.1 (b + 7) (f * 16 + S k) = nI y ∧ N.1 70 (16 * (12 * h + f) + S k) = nI y) ∧ ∀ j k, j < k → k < sc → S j ≠ S k
/-- all functions -/
def yG (b h : Nat) (M0 N0 : mv_M) (T : Nat → Nat) (n cnt F nd : Nat) : Prop := yX b M0 T n cnt F nd ∧ h ≤ 1 ∧ (∀ q, q < F → ∃ pq mq, M0.1 (b + 2) q = nI pq ∧ N0.1 66 (12 * h + q) = nI pq ∧ pq ≤ 4 ∧ pq ≤ mq ∧ M0.1 (b + 3) q = nI mq ∧ mq ≤ 16 ∧ (∃ y, y ≤ 4 ∧ M0.1 (b + 4) q = nI y ∧ N0.1 65 (12 * h + q) = nI y) ∧ ∀ k, k < pq → ∃ y, y ≤ 4 ∧ M0.1 (b + 7) (q * 16 + k) = nI y ∧ N0.1 70 (16 * (12 * h + q) + k) = nI y) ∧ (∀ j, j < F → M0.2.1 (b + 1) j = N0.2.1 64 (12 * h + j)) ∧ (∀ j k, j < k → k < F → M0.2.1 (b + 1) j ≠ M0.2.1 (b + 1) k) ∧ N0.1 62 27 = nI h ∧ N0.1 62 28 = nI F
/-- one function -/
def yU (b h : Nat) (M0 N0 : mv_M) (T : Nat → Nat) (n F ND f lo hi xl xh an p m : Nat) (g : Nat → Nat → Nat) (lab : Nat → Nat) : Prop := f < F ∧ hi ≤ ND ∧ (1001 * h ≤ xl ∧ xh ≤ 1001 * h + 1001 ∧ an ≤ 1001 * h + 1001) ∧ M0.1 (b + 2) f = nI p ∧ M0.1 (b + 3) f = nI m ∧ p ≤ 4 ∧ p ≤ m ∧ m ≤ 16 ∧ NM b h f 0 m M0 N0 ∧ TI b T n g lo hi xl xh p m an M0 N0 ∧ (∀ k, lo ≤ k → k < hi → lab k ≤ 80) ∧ (∀ a k, lo ≤ k → k < a → a < hi → g 1 a ≤ k → lab k < lab a) ∧ ∀ nm, BD b M0 g nm ↔ g 3 nm = 1
section TX
variable {b h n cnt f m nd F ND sc lo hi xl xh an p : Nat} {M M' M0 M1 N N' N0 N1 : mv_M} {T S : Nat → Nat} {g : Nat → Nat → Nat} {lab : Nat → Nat}
/-- subtrees lie in one another -/
theorem lam (a : TI b T n g lo hi xl xh p m an M N) : ∀ c, lo ≤ c → c < hi → ∀ k, g 1 c ≤ k → k ≤ c → g 1 c ≤ g 1 k := by
  intro c
  induction c using Nat.strongRecOn with
  | _ c ih =>
  intro h1 h2 k k1 k2
  obtain ⟨_, _, _, a4, a5, t, _, _, _, a9⟩ := a c h1 h2
  by_cases hkc : k = c
  · subst hkc; exact Nat.le_refl _
  rcases a9 with a9 | a9 | a9 | a9
  · have := a9.1; omega
  · obtain ⟨_, _, _, _, q, a', e, _, _, _, _, _, v6, v7, v8, v9⟩ := a9
    by_cases hq : q = 0
    · have := v6 hq; omega
    · have v7 := v7 (by omega)
      have key : ∀ j, j < q → k ≤ e j → ∃ i, i < q ∧ g 1 (e i) ≤ k ∧ k ≤ e i ∧ g 1 c ≤ g 1 (e i) := by
        intro j
        induction j with
        | zero =>
          intro j1 j2
          exact ⟨0, j1, by omega, j2, by omega⟩
        | succ j ihj =>
          intro j1 j2
          have v8j := v8 j (by omega)
          have v9j := v9 j (by omega)
          by_cases hj : g 1 (e (j + 1)) ≤ k
          · exact ⟨j + 1, j1, hj, j2, by omega⟩
          · exact ihj (by omega) (by omega)
      obtain ⟨i, i1, i2, i3, i4⟩ := key (q - 1) (by omega) (by omega)
      have v9i := v9 i i1
      exact Nat.le_trans i4 (ih (e i) v9i.1 (by omega) (by omega) k i2 i3)
  · obtain ⟨c1, c2, v1, v2, v3, v4, v5, _⟩ := a9
    by_cases hk : k ≤ c1
    · have := ih c1 (by omega) (by omega) (by omega) k (by omega) hk
      omega
    · have := ih c2 (by omega) (by omega) (by omega) k (by omega) (by omega)
      omega
  · obtain ⟨c1, c2, c3, v1, v2, v3, v4, v5, v6, v7, _⟩ := a9
    by_cases hk : k ≤ c1
    · have := ih c1 (by omega) (by omega) (by omega) k (by omega) hk
      omega
    · by_cases hk2 : k ≤ c2
      · have := ih c2 (by omega) (by omega) (by omega) k (by omega) hk2
        omega
      · have := ih c3 (by omega) (by omega) (by omega) k (by omega) (by omega)
        omega
theorem IS_in (a : TI b T n g lo hi xl xh p m an M N) {c k nm : Nat} (h1 : lo ≤ c) (k1 : g 1 c ≤ k) (k2 : k ≤ c) (hi' : IS g p hi c nm) : IS g p hi k nm := by
  rcases hi' with z | ⟨z1, z2, z3, z4, z5⟩
  · exact .inl z
  · refine .inr ⟨z1, z2, z3, ?_, by omega⟩
    have := lam a (g 2 nm - 1) (by omega) (by omega) c z4 (by omega)
    omega
/-- the types of names at a node are not changed by what comes behind it -/
theorem IS_out (a : TI b T n g lo hi xl xh p m an M N) {c k nm : Nat} (h1 : lo ≤ c) (h2 : c < hi) (hk : k < g 1 c) (hi' : IS g p hi k nm) (hp : p ≤ nm) : ¬ (g 1 c ≤ g 2 nm ∧ g 2 nm < c + 1) := by
  intro z
  rcases hi' with w | ⟨z1, z2, z3, z4, z5⟩
  · omega
  · have := lam a c h1 h2 (g 2 nm) z.1 (by omega)
    omega
theorem yF_refl {e : Nat} : yF b h f p g nd e M N M N := ⟨fun _ _ => ⟨rfl, rfl⟩, fun _ _ => rfl, fun _ _ => rfl, fun _ _ => ⟨rfl, rfl, rfl⟩⟩
theorem yF_mono {e nd' e' : Nat} (a : yF b h f p g nd e M N M' N') (h1 : nd' ≤ nd) (h2 : e ≤ e') : yF b h f p g nd' e' M N M' N' := ⟨fun k z => a.1 k (by omega), fun j z => a.2.1 j (fun nm u1 u2 u3 u4 => z nm u1 u2 (by omega) (by omega)), fun j z => a.2.2.1 j (fun nm u1 u2 u3 u4 => z nm u1 u2 (by omega) (by omega)), fun x z => a.2.2.2 x (fun k u1 u2 => z k (by omega) (by omega))⟩
theorem yF_trans {e : Nat} (a : yF b h f p g nd e M N M1 N1) (d : yF b h f p g nd e M1 N1 M' N') : yF b h f p g nd e M N M' N' := ⟨fun k z => ⟨(d.1 k z).1.trans (a.1 k z).1, (d.1 k z).2.trans (a.1 k z).2⟩, fun j z => (d.2.1 j z).trans (a.2.1 j z), fun j z => (d.2.2.1 j z).trans (a.2.2.1 j z), fun x z => ⟨(d.2.2.2 x z).1.trans (a.2.2.2 x z).1, (d.2.2.2 x z).2.1.trans (a.2.2.2 x z).2.1, (d.2.2.2 x z).2.2.trans (a.2.2.2 x z).2.2⟩⟩
/-- no more names stand at a node than there are -/
theorem pigeon : ∀ (m sc : Nat) (S : Nat → Nat), (∀ k, k < sc → S k < m) → (∀ j k, j < k → k < sc → S j ≠ S k) → sc ≤ m := by
  intro m
  induction m with
  | zero =>
    intro sc S h1 h2
    by_cases hs : sc = 0
    · omega
    · have := h1 0 (by omega); omega
  | succ m ih =>
    intro sc S h1 h2
    by_cases hs : sc = 0
    · omega
    -- the last one is taken out
    have key : sc - 1 ≤ m := by
      refine ih (sc - 1) (fun k => if S k = m then S (sc - 1) else S k) (fun k hk => ?_) (fun j k hj hk => ?_)
      · show (if S k = m then S (sc - 1) else S k) < m
        have a1 := h1 k (by omega)
        have a2 := h1 (sc - 1) (by omega)
        have a3 := h2 k (sc - 1) (by omega) (by omega)
        by_cases e : S k = m
        · rw [if_pos e]; omega
        · rw [if_neg e]; omega
      · show (if S j = m then S (sc - 1) else S j) ≠ (if S k = m then S (sc - 1) else S k)
        have a1 := h2 j k hj (by omega)
        have a2 := h2 j (sc - 1) (by omega) (by omega)
        have a3 := h2 k (sc - 1) (by omega) (by omega)
        by_cases e1 : S j = m
        · rw [if_pos e1]
          by_cases e2 : S k = m
          · omega
          · rw [if_neg e2]; omega
        · rw [if_neg e1]
          by_cases e2 : S k = m
          · rw [if_pos e2]; omega
          · rw [if_neg e2]; omega
    omega
end TX
