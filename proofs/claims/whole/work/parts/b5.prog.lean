/-! PROGRAMS that are read and typed, as numbers: P 0 kind, 1 2 3 parts, 4 next, 5 type, 6 the reference's node, 7 where the subtree begins, 8 label, 16 the arguments' place (of a node); 9 parameters, 10 names, 11 type, 12 body, 15 first node (of a function); 13 a name's type, 14 where it is bound (16 f + name). -/
def sgK (s : Nat) : Prop := s = 43 ∨ s = 45 ∨ s = 42 ∨ s = 60 ∨ s = 4
def rk (s : Nat) : Nat := if s = 3 then 5 else if s = 308 then 6 else if s = 2 then 7 else if s = 5 then 8 else if s = 6 then 9 else if s = 301 then 2 else if s = 304 then 3 else if s = 306 then 4 else 1
def ar (P : Nat → Nat → Nat) (c : Nat) : Nat → Nat
  | 0 => P 2 c
  | k + 1 => P 4 (ar P c k)
/-- name nm of function f stands at node a -/
def pS (P : Nat → Nat → Nat) (f a nm : Nat) : Prop := nm < P 9 f ∨ (P 9 f ≤ nm ∧ P 14 (16 * f + nm) ≤ P 12 f ∧ P 7 (P 14 (16 * f + nm)) ≤ P 7 (P 14 (16 * f + nm) - 1) ∧ P 7 (P 14 (16 * f + nm) - 1) ≤ a ∧ a < P 14 (16 * f + nm))
/-- node c' is in node c -/
def pC (P : Nat → Nat → Nat) (c c' : Nat) : Prop := P 7 c ≤ c' ∧ c' < c ∧ P 8 c' < P 8 c
/-- a node is well made -/
def pN (P : Nat → Nat → Nat) (F f c : Nat) : Prop :=
  (P 0 c = 3 ∧ P 5 c = 0) ∨ P 0 c = 308 ∨ (P 0 c = 2 ∧ P 1 c < P 10 f ∧ P 13 (16 * f + P 1 c) = P 5 c ∧ pS P f c (P 1 c))
  ∨ (P 0 c = 5 ∧ P 1 c < F ∧ P 3 c = P 9 (P 1 c) ∧ P 5 c = P 11 (P 1 c) ∧ ∀ k, k < P 3 c → pC P c (ar P c k) ∧ P 5 (ar P c k) = P 13 (16 * P 1 c + k))
  ∨ (sgK (P 0 c) ∧ pC P c (P 1 c) ∧ pC P c (P 2 c) ∧ P 5 (P 1 c) = 0 ∧ P 5 (P 2 c) = 0 ∧ P 5 c = 0)
  ∨ (P 0 c = 6 ∧ pC P c (P 1 c) ∧ pC P c (P 2 c) ∧ P 5 (P 1 c) ≤ 1 ∧ P 5 (P 2 c) ≤ 1 ∧ P 5 c = 1 + 2 * P 5 (P 1 c) + P 5 (P 2 c))
  ∨ (P 0 c = 304 ∧ pC P c (P 1 c) ∧ pC P c (P 2 c) ∧ P 5 (P 2 c) = P 5 c ∧ P 9 f ≤ P 3 c ∧ P 3 c < P 10 f ∧ P 13 (16 * f + P 3 c) = P 5 (P 1 c) ∧ P 14 (16 * f + P 3 c) = c ∧ P 2 c + 1 = c ∧ P 7 (P 2 c) = P 1 c + 1)
  ∨ (P 0 c = 306 ∧ pC P c (P 1 c) ∧ pC P c (P 2 c) ∧ P 5 (P 2 c) = P 5 c ∧ P 9 f ≤ P 3 c ∧ P 3 c + 1 < P 10 f ∧ 0 < P 5 (P 1 c) ∧ P 13 (16 * f + P 3 c) = (P 5 (P 1 c) - 1) / 2 ∧ P 13 (16 * f + (P 3 c + 1)) = (P 5 (P 1 c) - 1) % 2 ∧ P 14 (16 * f + P 3 c) = c ∧ P 14 (16 * f + (P 3 c + 1)) = c ∧ P 2 c + 1 = c ∧ P 7 (P 2 c) = P 1 c + 1)
  ∨ (P 0 c = 301 ∧ pC P c (P 1 c) ∧ pC P c (P 2 c) ∧ pC P c (P 3 c) ∧ P 5 (P 1 c) = 0 ∧ P 5 (P 2 c) = P 5 c ∧ P 5 (P 3 c) = P 5 c)
def WFp (P : Nat → Nat → Nat) (F ND : Nat) : Prop := 0 < F ∧ F ≤ 12 ∧ ND ≤ 1000 ∧ (∀ f, f < F → P 9 f ≤ 4 ∧ P 9 f ≤ P 10 f ∧ P 10 f ≤ 16 ∧ P 11 f ≤ 4 ∧ P 15 f ≤ P 12 f ∧ P 12 f < ND ∧ P 5 (P 12 f) = P 11 f ∧ (∀ k, k < P 9 f → P 13 (16 * f + k) ≤ 4) ∧ (∀ k, k < P 10 f → P 13 (16 * f + k) ≤ 5) ∧ ∀ c, P 15 f ≤ c → c ≤ P 12 f → P 5 c ≤ 4 ∧ P 8 c ≤ 80 ∧ P 15 f ≤ P 7 c ∧ P 7 c ≤ c ∧ (∀ k, P 7 c ≤ k → k ≤ c → P 7 c ≤ P 7 k) ∧ pN P F f c)
/-- the node that binds a name -/
def bD (P : Nat → Nat → Nat) (f nm : Nat) : Prop := (P 0 (P 14 (16 * f + nm)) = 304 ∧ P 3 (P 14 (16 * f + nm)) = nm) ∨ (P 0 (P 14 (16 * f + nm)) = 306 ∧ (P 3 (P 14 (16 * f + nm)) = nm ∨ P 3 (P 14 (16 * f + nm)) + 1 = nm))
/-- parts lie side by side -/
def pD (P : Nat → Nat → Nat) (f c : Nat) : Prop := (P 0 c = 2 → P 9 f ≤ P 1 c → bD P f (P 1 c)) ∧ (sgK (P 0 c) ∨ P 0 c = 6 → P 2 c + 1 = c ∧ P 7 (P 2 c) = P 1 c + 1) ∧ (P 0 c = 301 → P 3 c + 1 = c ∧ P 7 (P 3 c) = P 2 c + 1 ∧ P 7 (P 2 c) = P 1 c + 1) ∧ (P 0 c = 5 → 0 < P 3 c → ar P c (P 3 c - 1) + 1 = c ∧ ∀ k, k + 1 < P 3 c → P 7 (ar P c (k + 1)) = ar P c k + 1)
def WSc (P : Nat → Nat → Nat) (F : Nat) : Prop := ∀ f, f < F → ∀ c, P 15 f ≤ c → c ≤ P 12 f → pD P f c
/-- the reference's half -/
def Hf (h : Nat) (P : Nat → Nat → Nat) (F : Nat) : Prop := ∀ f, f < F → ∀ c, P 15 f ≤ c → c ≤ P 12 f → (1001 * h ≤ P 6 c ∧ P 6 c < 1001 * h + 1001) ∧ (P 0 c = 5 → 1001 * h ≤ P 16 c ∧ P 16 c + P 3 c ≤ 1001 * h + 1001)
/-- a node in both memories -/
def mN (b h : Nat) (P : Nat → Nat → Nat) (c : Nat) (M N : mv_M) : Prop := M.1 (b + 8) c = nI (P 0 c) ∧ M.1 (b + 13) c = nI (P 5 c) ∧ P 6 c < 2002 ∧ N.1 71 (P 6 c) = nI (rk (P 0 c)) ∧ N.1 76 (P 6 c) = nI (P 5 c)
  ∧ (P 0 c = 3 → M.1 (b + 9) c = N.1 72 (P 6 c))
  ∧ (P 0 c = 2 → M.1 (b + 9) c = nI (P 1 c) ∧ N.1 72 (P 6 c) = nI (P 1 c))
  ∧ (P 0 c = 5 → M.1 (b + 9) c = nI (P 1 c) ∧ N.1 74 (P 6 c) = nI (12 * h + P 1 c) ∧ M.1 (b + 11) c = nI (P 3 c) ∧ N.1 73 (P 6 c) = nI (P 3 c) ∧ N.1 72 (P 6 c) = nI (P 16 c) ∧ P 16 c + P 3 c ≤ 2002 ∧ (0 < P 3 c → M.1 (b + 10) c = nI (ar P c 0)) ∧ (∀ k, k + 1 < P 3 c → M.1 (b + 12) (ar P c k) = nI (ar P c (k + 1))) ∧ ∀ k, k < P 3 c → N.1 78 (P 16 c + k) = nI (P 6 (ar P c k)))
  ∧ (sgK (P 0 c) ∨ P 0 c = 6 ∨ P 0 c = 304 ∨ P 0 c = 306 ∨ P 0 c = 301 → M.1 (b + 9) c = nI (P 1 c) ∧ M.1 (b + 10) c = nI (P 2 c) ∧ N.1 72 (P 6 c) = nI (P 6 (P 1 c)) ∧ N.1 73 (P 6 c) = nI (P 6 (P 2 c)))
  ∧ (sgK (P 0 c) → N.1 74 (P 6 c) = nI (lx_tk (P 0 c)))
  ∧ (P 0 c = 301 → M.1 (b + 11) c = nI (P 3 c) ∧ N.1 74 (P 6 c) = nI (P 6 (P 3 c)))
  ∧ (P 0 c = 304 ∨ P 0 c = 306 → M.1 (b + 11) c = nI (P 3 c) ∧ N.1 74 (P 6 c) = nI (P 3 c))
/-- a program in both memories -/
def PR (b h : Nat) (P : Nat → Nat → Nat) (F ND : Nat) (M N : mv_M) : Prop := (b = 9 ∨ b = 24) ∧ h ≤ 1 ∧ M.1 b 0 = nI F ∧ M.1 b 8 = nI ND ∧ N.1 79 h = nI F ∧ ∀ f, f < F → (M.1 (b + 2) f = nI (P 9 f) ∧ M.1 (b + 3) f = nI (P 10 f) ∧ M.1 (b + 4) f = nI (P 11 f) ∧ M.1 (b + 5) f = nI (P 12 f)) ∧ (N.1 66 (12 * h + f) = nI (P 9 f) ∧ N.1 67 (12 * h + f) = nI (P 10 f) ∧ N.1 65 (12 * h + f) = nI (P 11 f) ∧ N.1 68 (12 * h + f) = nI (P 6 (P 12 f))) ∧ (∀ k, k < P 10 f → P 13 (16 * f + k) ≤ 4 → M.1 (b + 7) (f * 16 + k) = nI (P 13 (16 * f + k)) ∧ N.1 70 (16 * (12 * h + f) + k) = nI (P 13 (16 * f + k))) ∧ ∀ c, P 15 f ≤ c → c ≤ P 12 f → mN b h P c M N
/-- which function a node is of -/
def fno (lo : Nat → Nat) : Nat → Nat → Nat
  | 0, _ => 0
  | k + 1, x => if lo k ≤ x then k else fno lo k x
theorem fno_eq {lo : Nat → Nat} {f x : Nat} (h1 : lo f ≤ x) : ∀ F, f < F → (∀ k, f < k → k < F → x < lo k) → fno lo F x = f := by
  intro F
  induction F with
  | zero => intro hf; omega
  | succ F ih =>
    intro hf h2
    unfold fno
    by_cases e : f = F
    · subst e; rw [if_pos h1]
    · rw [if_neg (by have := h2 F (by omega) (by omega); omega)]
      exact ih (by omega) (fun k u1 u2 => h2 k u1 (by omega))
noncomputable def nTy (b h : Nat) (M N : mv_M) (f k : Nat) : Nat := @dite Nat (∃ y, y ≤ 4 ∧ M.1 (b + 7) (f * 16 + k) = nI y ∧ N.1 70 (16 * (12 * h + f) + k) = nI y) (Classical.propDecidable _) (fun h0 => h0.choose) (fun _ => 5)
theorem nTy_eq {b h f k y : Nat} {M N : mv_M} (hy : y ≤ 4) (h1 : M.1 (b + 7) (f * 16 + k) = nI y) (h2 : N.1 70 (16 * (12 * h + f) + k) = nI y) : nTy b h M N f k = y := by
  have h0 : ∃ y, y ≤ 4 ∧ M.1 (b + 7) (f * 16 + k) = nI y ∧ N.1 70 (16 * (12 * h + f) + k) = nI y := ⟨y, hy, h1, h2⟩
  unfold nTy
  rw [dif_pos h0]
  obtain ⟨a1, a2, a3⟩ := h0.choose_spec
  rw [a2, k_eq (by omega) (by omega)] at h1
  exact h1
theorem nTy_le {b h f k : Nat} {M N : mv_M} : nTy b h M N f k ≤ 5 ∧ (nTy b h M N f k ≤ 4 → M.1 (b + 7) (f * 16 + k) = nI (nTy b h M N f k) ∧ N.1 70 (16 * (12 * h + f) + k) = nI (nTy b h M N f k)) := by
  by_cases h0 : ∃ y, y ≤ 4 ∧ M.1 (b + 7) (f * 16 + k) = nI y ∧ N.1 70 (16 * (12 * h + f) + k) = nI y
  · obtain ⟨y, h1, h2, h3⟩ := h0
    rw [nTy_eq h1 h2 h3]
    exact ⟨by omega, fun _ => ⟨h2, h3⟩⟩
  · unfold nTy
    rw [dif_neg h0]
    exact ⟨by omega, fun z => by omega⟩
noncomputable def mkP (b h F : Nat) (lo pf mf : Nat → Nat) (G : Nat → Nat → Nat → Nat) (lab : Nat → Nat → Nat) (M N : mv_M) : Nat → Nat → Nat
  | 0, x => (M.1 (b + 8) x).toNatClampNeg
  | 1, x => (M.1 (b + 9) x).toNatClampNeg
  | 2, x => (M.1 (b + 10) x).toNatClampNeg
  | 3, x => (M.1 (b + 11) x).toNatClampNeg
  | 4, x => (M.1 (b + 12) x).toNatClampNeg
  | 5, x => (M.1 (b + 13) x).toNatClampNeg
  | 6, x => G (fno lo F x) 0 x
  | 7, x => G (fno lo F x) 1 x
  | 8, x => lab (fno lo F x) x
  | 9, x => pf x
  | 10, x => mf x
  | 11, x => (M.1 (b + 4) x).toNatClampNeg
  | 12, x => lo (x + 1) - 1
  | 13, x => nTy b h M N (x / 16) (x % 16)
  | 14, x => G (x / 16) 2 (x % 16)
  | 15, x => lo x
  | 16, x => (N.1 72 (G (fno lo F x) 0 x)).toNatClampNeg
  | _, _ => 0
