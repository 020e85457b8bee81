/-! TYPES: the class's typing against the reference's judging. M0, N0: the memories as it began. -/
def yA (b c k : Nat) : Prop := (c = 1 ∧ k ≤ 1) ∨ (c = 4 ∧ (k = 3 ∨ k = 5)) ∨ c = 43 ∨ c = b + 7 ∨ c = b + 9 ∨ c = b + 13
def yW (b : Nat) (M0 M : mv_M) : Prop := (∀ c k, ¬ yA b c k → M.1 c k = M0.1 c k) ∧ M.2 = M0.2
def zA (h c k : Nat) : Prop := (c = 62 ∧ (k = 9 ∨ k = 10 ∨ k = 33 ∨ k = 36 ∨ k = 44)) ∨ (c = 70 ∧ 192 * h ≤ k ∧ k < 192 * h + 192) ∨ ((c = 72 ∨ c = 74 ∨ c = 76) ∧ 1001 * h ≤ k ∧ k < 1001 * h + 1001) ∨ c = 81 ∨ c = 82 ∨ c = 85 ∨ c = 86
def zW (h : Nat) (N0 N : mv_M) : Prop := (∀ c k, ¬ zA h c k → N.1 c k = N0.1 c k) ∧ N.2 = N0.2
def sk3 (N : mv_M) : List (Nat × Int32 × Int32) → Prop
  | [] => True
  | p :: L => N.1 81 L.length = nI p.1 ∧ N.1 82 L.length = p.2.1 ∧ N.1 85 L.length = p.2.2 ∧ sk3 N L
def zO (h : Nat) (N0 : mv_M) (f : Nat) (L : List (Nat × Int32 × Int32)) (sc : Nat) (S : Nat → Nat) (N : mv_M) : Prop := zW h N0 N ∧ N.1 62 9 = nI 0 ∧ N.1 62 33 = nI (12 * h + f) ∧ (N.1 62 36 = nI L.length ∧ sk3 N L) ∧ N.1 62 44 = nI sc ∧ sc ≤ 16 ∧ ∀ k, k < sc → N.1 86 k = nI (S k)
def yO (b : Nat) (M0 : mv_M) (f sc : Nat) (S : Nat → Nat) (M : mv_M) : Prop := yW b M0 M ∧ M.1 1 0 = nI 0 ∧ M.1 4 3 = nI f ∧ M.1 4 5 = nI sc ∧ sc ≤ 16 ∧ ∀ k, k < sc → M.1 43 k = nI (S k)
def yD (b : Nat) (M0 : mv_M) (f nb pl : Nat) (M : mv_M) : Prop := yW b M0 M ∧ M.1 1 0 = nI nb ∧ 0 < nb ∧ nb ≤ 6 ∧ M.1 1 1 = nI pl ∧ M.1 4 3 = nI f ∧ ∃ s, s ≤ 16 ∧ M.1 4 5 = nI s
def zD (h : Nat) (N0 : mv_M) (f nb pl : Nat) (N : mv_M) : Prop := zW h N0 N ∧ N.1 62 9 = nI nb ∧ 0 < nb ∧ nb ≤ 6 ∧ N.1 62 10 = nI pl ∧ N.1 62 33 = nI (12 * h + f)
def yX (b : Nat) (M0 : mv_M) (T : Nat → Nat) (n cnt F nd : Nat) : Prop := (b = 9 ∨ b = 24) ∧ M0.2.2 4 2 = some b ∧ c_toks M0 T n cnt ∧ (M0.1 b 0 = nI F ∧ F ≤ 12) ∧ (M0.1 b 8 = nI nd ∧ nd ≤ 1000) ∧ ∀ q, q < F → ∃ m, m ≤ 16 ∧ M0.1 (b + 3) q = nI m
def JT {α : Type} (b h : Nat) (M0 N0 : mv_M) (f : Nat) (N : mv_M) (o : Option (α × mv_M)) (Q : α → mv_M → mv_M → Prop) : Prop :=
  mv_ok o (fun r M' => (∃ nb pl N', fX11_judge_71 N = some ((), N') ∧ yD b M0 f nb pl M' ∧ zD h N0 f nb pl N') ∨ ∃ N', fX11_judge_71 N = fX11_judge_71 N' ∧ Q r M' N')
section TY
variable {α β : Type} {b h n cnt f i m nd nb pl F sc t c q k : Nat} {M M' M0 N N' N0 N1 N2 : mv_M} {T S : Nat → Nat} {o : Option (α × mv_M)} {Q : α → mv_M → mv_M → Prop} {L : List (Nat × Int32 × Int32)}
-- the combinators
theorem JT_some {r : α} (h1 : Q r M N) : JT b h M0 N0 f N (some (r, M)) Q := .inr ⟨N, rfl, h1⟩
theorem JT_step (e : fX11_judge_71 N = fX11_judge_71 N') (h1 : JT b h M0 N0 f N' o Q) : JT b h M0 N0 f N o Q := by
  unfold JT at h1 ⊢
  rw [e]
  exact h1
theorem JT_dead (h1 : mv_ok o (fun _ M' => yD b M0 f nb pl M')) (e : fX11_judge_71 N = some ((), N')) (h2 : zD h N0 f nb pl N') : JT b h M0 N0 f N o Q := ok_mono h1 (fun _ _ z => .inl ⟨nb, pl, N', e, z, h2⟩)
theorem JT_mono {Q' : α → mv_M → mv_M → Prop} (h1 : JT b h M0 N0 f N o Q) (hq : ∀ r M' N', Q r M' N' → Q' r M' N') : JT b h M0 N0 f N o Q' := ok_mono h1 (fun r M' z => z.elim (fun z => .inl z) (fun ⟨N', e, z⟩ => .inr ⟨N', e, hq r M' N' z⟩))
theorem JT_bind {g : α → mv_M → Option (β × mv_M)} {Q' : β → mv_M → mv_M → Prop} (h1 : JT b h M0 N0 f N o Q) (hd : ∀ nb pl r M', yD b M0 f nb pl M' → mv_ok (g r M') (fun _ M'' => yD b M0 f nb pl M'')) (hq : ∀ r M' N', Q r M' N' → JT b h M0 N0 f N' (g r M') Q') : JT b h M0 N0 f N (mv_bind o g) Q' := by
  refine ok_bind (ok_mono h1 (fun r M' z => ?_))
  rcases z with ⟨nb, pl, N', z1, z2, z3⟩ | ⟨N', e, z⟩
  · exact JT_dead (hd nb pl r M' z2) z1 z3
  · exact JT_step e (hq r M' N' z)
theorem JT_bs {g : α → mv_M → Option (β × mv_M)} {r : α} {Q' : β → mv_M → mv_M → Prop} (e : o = some (r, M')) (hq : JT b h M0 N0 f N (g r M') Q') : JT b h M0 N0 f N (mv_bind o g) Q' := by
  subst e
  exact hq
theorem JT_T {c : Prop} [Decidable c] {x y : Option (α × mv_M)} (hc : c) (hq : JT b h M0 N0 f N x Q) : JT b h M0 N0 f N (if c then x else y) Q := by
  rw [if_pos hc]; exact hq
theorem JT_F {c : Prop} [Decidable c] {x y : Option (α × mv_M)} (hc : ¬ c) (hq : JT b h M0 N0 f N y Q) : JT b h M0 N0 f N (if c then x else y) Q := by
  rw [if_neg hc]; exact hq
theorem T_go (e : gX11_judge_71 N = some (.inl (), N')) : fX11_judge_71 N = fX11_judge_71 N' := by
  unfold fX11_judge_71
  exact lp_go (s' := ()) e
theorem T_fault (h1 : zD h N0 f nb pl N) : fX11_judge_71 N = some ((), N) := by
  obtain ⟨a0, a1, a2, a3, _⟩ := h1
  unfold fX11_judge_71
  refine lp_out (t := ()) ?_
  show gX11_judge_71 N = _
  unfold gX11_judge_71
  by_cases h0 : N.1 62 36 ≤ 0
  · rw [if_pos h0]
  · rw [if_neg h0, a1, if_neg (by rw [kM, k_eq (by omega) (by omega)]; omega)]
theorem T_end (e : N.1 62 36 = nI 0) : fX11_judge_71 N = some ((), N) := by
  unfold fX11_judge_71
  refine lp_out (t := ()) ?_
  show gX11_judge_71 N = _
  unfold gX11_judge_71
  simp (disch := omega) only [e, k_iT, k_iF, Bool.false_eq_true, eq_self, Nat.add_zero, k_lt', k_bs, k_T, k_F, k_inb, k_ck, k_nz, ↓kN, kL, k_lt, k_le, k_eq, kn_le, kn_lt, kn_eq, kn_le', kn_lt', kn_eq', nI_clamp, nI_add, k_sub, k_mul, k_div, rd_hi, rd_mi, rd_hl, rd_ml, rd_hr, rd_mr, rd_si2, rd_sl1, rd_sl2, rd_sr1, rd_sr2]
-- frames
theorem yW_refl : yW b M0 M0 := ⟨fun _ _ _ => rfl, rfl⟩
theorem yW_si {k : Nat} {v : Int32} (a : yW b M0 M) (hc : yA b c k) : yW b M0 (mv_si M c k v) := by
  refine ⟨fun c' k' z => ?_, a.2⟩
  rw [rd_mi (by rintro ⟨rfl, rfl⟩; exact z hc)]
  exact a.1 c' k' z
theorem zW_si {k : Nat} {v : Int32} (a : zW h N0 N) (hc : zA h c k) : zW h N0 (mv_si N c k v) := by
  refine ⟨fun c' k' z => ?_, a.2⟩
  rw [rd_mi (by rintro ⟨rfl, rfl⟩; exact z hc)]
  exact a.1 c' k' z
theorem sk3_congr : ∀ {L : List (Nat × Int32 × Int32)}, sk3 N L → (∀ c k, c = 81 ∨ c = 82 ∨ c = 85 → k < L.length → N'.1 c k = N.1 c k) → sk3 N' L
  | [], _, _ => trivial
  | p :: L, s, e => by
    obtain ⟨s1, s2, s3, s4⟩ := s
    have hl : L.length < (p :: L).length := by simp
    exact ⟨(e 81 _ (by omega) hl).trans s1, (e 82 _ (by omega) hl).trans s2, (e 85 _ (by omega) hl).trans s3, sk3_congr s4 (fun c k hc hk => e c k hc (by omega))⟩
/-- nothing but the stack changes -/
def zS (N N' : mv_M) : Prop := (∀ c k, ¬ ((c = 62 ∧ k = 36) ∨ c = 81 ∨ c = 82 ∨ c = 85) → N'.1 c k = N.1 c k) ∧ N'.2 = N.2
theorem zS_refl : zS N N := ⟨fun _ _ _ => rfl, rfl⟩
theorem zS_trans (a : zS N N1) (d : zS N1 N2) : zS N N2 := ⟨fun c k z => (d.1 c k z).trans (a.1 c k z), d.2.trans a.2⟩
theorem z_push {s : Nat} {a w : Int32} (hr : zO h N0 f L sc S N) (hl : L.length < 3000) : ∃ N', fX11_task (nI s) a w N = some ((), N') ∧ zO h N0 f ((s, a, w) :: L) sc S N' ∧ zS N N' := by
  obtain ⟨a1, a2, a3, ⟨a4, a5⟩, a6, a7, a8⟩ := hr
  refine ⟨mv_si (mv_si (mv_si (mv_si N 85 L.length w) 81 L.length (nI s)) 82 L.length a) 62 36 (nI (L.length + 1)), ?_, ⟨zW_si (zW_si (zW_si (zW_si a1 (by unfold zA; omega)) (by unfold zA; omega)) (by unfold zA; omega)) (by unfold zA; omega), by simp (disch := omega) only [rd_hi, rd_mi, rd_hl, rd_ml, rd_hr, rd_mr, rd_si2, rd_sl1, rd_sl2, rd_sr1, rd_sr2]; exact a2, by simp (disch := omega) only [rd_hi, rd_mi, rd_hl, rd_ml, rd_hr, rd_mr, rd_si2, rd_sl1, rd_sl2, rd_sr1, rd_sr2]; exact a3, ⟨by simp (disch := omega) only [rd_hi, rd_mi, rd_hl, rd_ml, rd_hr, rd_mr, rd_si2, rd_sl1, rd_sl2, rd_sr1, rd_sr2]; rw [List.length_cons], by simp (disch := omega) only [rd_hi, rd_mi, rd_hl, rd_ml, rd_hr, rd_mr, rd_si2, rd_sl1, rd_sl2, rd_sr1, rd_sr2], by simp (disch := omega) only [rd_hi, rd_mi, rd_hl, rd_ml, rd_hr, rd_mr, rd_si2, rd_sl1, rd_sl2, rd_sr1, rd_sr2], by simp (disch := omega) only [rd_hi, rd_mi, rd_hl, rd_ml, rd_hr, rd_mr, rd_si2, rd_sl1, rd_sl2, rd_sr1, rd_sr2], sk3_congr a5 (fun c k hc hk => by simp (disch := omega) only [rd_hi, rd_mi, rd_hl, rd_ml, rd_hr, rd_mr, rd_si2, rd_sl1, rd_sl2, rd_sr1, rd_sr2])⟩, by simp (disch := omega) only [rd_hi, rd_mi, rd_hl, rd_ml, rd_hr, rd_mr, rd_si2, rd_sl1, rd_sl2, rd_sr1, rd_sr2]; exact a6, a7, fun k hk => by simp (disch := omega) only [rd_hi, rd_mi, rd_hl, rd_ml, rd_hr, rd_mr, rd_si2, rd_sl1, rd_sl2, rd_sr1, rd_sr2]; exact a8 k hk⟩, ⟨fun c k z => by simp (disch := omega) only [rd_hi, rd_mi, rd_hl, rd_ml, rd_hr, rd_mr, rd_si2, rd_sl1, rd_sl2, rd_sr1, rd_sr2], rfl⟩⟩
  unfold fX11_task fX11_push
  simp (disch := omega) only [a4, k_iT, k_iF, Bool.false_eq_true, eq_self, Nat.add_zero, k_lt', k_bs, k_T, k_F, k_inb, k_ck, k_nz, ↓kN, kL, k_lt, k_le, k_eq, kn_le, kn_lt, kn_eq, kn_le', kn_lt', kn_eq', nI_clamp, nI_add, k_sub, k_mul, k_div, rd_hi, rd_mi, rd_hl, rd_ml, rd_hr, rd_mr, rd_si2, rd_sl1, rd_sl2, rd_sr1, rd_sr2]
theorem z_pop {s : Nat} {a w : Int32} (hr : zO h N0 f ((s, a, w) :: L) sc S N) : zO h N0 f L sc S (mv_si N 62 36 (nI L.length)) ∧ zS N (mv_si N 62 36 (nI L.length)) := by
  obtain ⟨a1, a2, a3, ⟨a4, a5⟩, a6, a7, a8⟩ := hr
  exact ⟨⟨zW_si a1 (by unfold zA; omega), by simp (disch := omega) only [rd_hi, rd_mi, rd_hl, rd_ml, rd_hr, rd_mr, rd_si2, rd_sl1, rd_sl2, rd_sr1, rd_sr2]; exact a2, by simp (disch := omega) only [rd_hi, rd_mi, rd_hl, rd_ml, rd_hr, rd_mr, rd_si2, rd_sl1, rd_sl2, rd_sr1, rd_sr2]; exact a3, ⟨by simp (disch := omega) only [rd_hi, rd_mi, rd_hl, rd_ml, rd_hr, rd_mr, rd_si2, rd_sl1, rd_sl2, rd_sr1, rd_sr2], sk3_congr a5.2.2.2 (fun c k hc hk => by simp (disch := omega) only [rd_hi, rd_mi, rd_hl, rd_ml, rd_hr, rd_mr, rd_si2, rd_sl1, rd_sl2, rd_sr1, rd_sr2])⟩, by simp (disch := omega) only [rd_hi, rd_mi, rd_hl, rd_ml, rd_hr, rd_mr, rd_si2, rd_sl1, rd_sl2, rd_sr1, rd_sr2]; exact a6, a7, fun k hk => by simp (disch := omega) only [rd_hi, rd_mi, rd_hl, rd_ml, rd_hr, rd_mr, rd_si2, rd_sl1, rd_sl2, rd_sr1, rd_sr2]; exact a8 k hk⟩, ⟨fun c k z => by simp (disch := omega) only [rd_hi, rd_mi, rd_hl, rd_ml, rd_hr, rd_mr, rd_si2, rd_sl1, rd_sl2, rd_sr1, rd_sr2], rfl⟩⟩
/-- a place of the nodes, or of the names' types, is written -/
theorem zO_si {v : Int32} (hr : zO h N0 f L sc S N) (hc : zA h c k) (hc2 : c = 70 ∨ c = 72 ∨ c = 74 ∨ c = 76) : zO h N0 f L sc S (mv_si N c k v) := by
  obtain ⟨a1, a2, a3, ⟨a4, a5⟩, a6, a7, a8⟩ := hr
  exact ⟨zW_si a1 hc, by simp (disch := omega) only [rd_hi, rd_mi, rd_hl, rd_ml, rd_hr, rd_mr, rd_si2, rd_sl1, rd_sl2, rd_sr1, rd_sr2]; exact a2, by simp (disch := omega) only [rd_hi, rd_mi, rd_hl, rd_ml, rd_hr, rd_mr, rd_si2, rd_sl1, rd_sl2, rd_sr1, rd_sr2]; exact a3, ⟨by simp (disch := omega) only [rd_hi, rd_mi, rd_hl, rd_ml, rd_hr, rd_mr, rd_si2, rd_sl1, rd_sl2, rd_sr1, rd_sr2]; exact a4, sk3_congr a5 (fun c k hc hk => by simp (disch := omega) only [rd_hi, rd_mi, rd_hl, rd_ml, rd_hr, rd_mr, rd_si2, rd_sl1, rd_sl2, rd_sr1, rd_sr2])⟩, by simp (disch := omega) only [rd_hi, rd_mi, rd_hl, rd_ml, rd_hr, rd_mr, rd_si2, rd_sl1, rd_sl2, rd_sr1, rd_sr2]; exact a6, a7, fun k hk => by simp (disch := omega) only [rd_hi, rd_mi, rd_hl, rd_ml, rd_hr, rd_mr, rd_si2, rd_sl1, rd_sl2, rd_sr1, rd_sr2]; exact a8 k hk⟩
theorem z_g1 {a w : Int32} (hr : zO h N0 f ((1, a, w) :: L) sc S N) (hl : L.length < 3000) : gX11_judge_71 N = mv_bind (fX11_onJudge a w (mv_si N 62 36 (nI L.length))) fun _ M30 => some (.inl (), M30) := by
  obtain ⟨a1, a2, a3, ⟨a4, a5⟩, a6, a7, a8⟩ := hr
  obtain ⟨s1, s2, s3, _⟩ := a5
  have e : (L.length + 1) - 1 = L.length := by omega
  rw [List.length_cons] at a4
  unfold gX11_judge_71 fX11_judge_271
  simp (disch := omega) only [a4, a2, e, s1, s2, s3, k_iT, k_iF, Bool.false_eq_true, eq_self, Nat.add_zero, k_lt', k_bs, k_T, k_F, k_inb, k_ck, k_nz, ↓kN, kL, k_lt, k_le, k_eq, kn_le, kn_lt, kn_eq, kn_le', kn_lt', kn_eq', nI_clamp, nI_add, k_sub, k_mul, k_div, rd_hi, rd_mi, rd_hl, rd_ml, rd_hr, rd_mr, rd_si2, rd_sl1, rd_sl2, rd_sr1, rd_sr2]
theorem z_g4 {a w : Int32} (hr : zO h N0 f ((4, a, w) :: L) sc S N) (hl : L.length < 3000) : gX11_judge_71 N = mv_bind (fX11_onShut a w (mv_si N 62 36 (nI L.length))) fun _ M30 => some (.inl (), M30) := by
  obtain ⟨a1, a2, a3, ⟨a4, a5⟩, a6, a7, a8⟩ := hr
  obtain ⟨s1, s2, s3, _⟩ := a5
  have e : (L.length + 1) - 1 = L.length := by omega
  rw [List.length_cons] at a4
  unfold gX11_judge_71 fX11_judge_271
  simp (disch := omega) only [a4, a2, e, s1, s2, s3, k_iT, k_iF, Bool.false_eq_true, eq_self, Nat.add_zero, k_lt', k_bs, k_T, k_F, k_inb, k_ck, k_nz, ↓kN, kL, k_lt, k_le, k_eq, kn_le, kn_lt, kn_eq, kn_le', kn_lt', kn_eq', nI_clamp, nI_add, k_sub, k_mul, k_div, rd_hi, rd_mi, rd_hl, rd_ml, rd_hr, rd_mr, rd_si2, rd_sl1, rd_sl2, rd_sr1, rd_sr2]
end TY
