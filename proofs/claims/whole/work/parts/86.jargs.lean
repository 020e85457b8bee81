/-- the state of a call's arguments: q + 1 of them are read, e k their nodes -/
def CI (H b h : Nat) (M0 N0 : mv_M) (T : Nat → Nat) (n cnt f i0 m0 nd0 an0 : Nat) (L : List (Nat × Int32)) (D W Y : List Int32) (ot : Nat) (g0 : Nat → Nat → Nat) (Ms Ns : mv_M) (i m xn an q x : Nat) (e : Nat → Nat) (g : Nat → Nat → Nat) (M N : mv_M) : Prop :=
  cO b M0 T n cnt f i m (e q + 1) M ∧ rO h N0 T n f i m xn an ((20, nI x) :: L) (nI (g 0 (e q)) :: D) (wl (fun k => g 0 (e k)) W q) Y ot N ∧ TI b T n g nd0 (e q + 1) (x + 1) xn m0 m an M N ∧ g 1 (e 0) = nd0 ∧ (∀ k, k < q → e k < e q ∧ g 1 (e (k + 1)) = e k + 1 ∧ M.1 (b + 12) (e k) = nI (e (k + 1))) ∧ (∀ k, k ≤ q → nd0 ≤ e k ∧ e k ≤ e q) ∧ N.1 71 x = nI 8 ∧ N.1 75 x = nI (lx_st T n i0) ∧ N.2.1 77 x = lx_tx T n (lx_st T n i0) ∧ N.1 73 x = nI W.length ∧ gA nd0 m0 g0 g ∧ NM b h f m0 m M N ∧ cE b f m0 nd0 Ms M ∧ rE h f m0 x an0 Ns N ∧ (i0 + q + 2 ≤ i ∧ e q + 1 + (i0 + 2) ≤ nd0 + i ∧ xn + (i0 + 2) ≤ x + 1 + i ∧ an + (q + 1) + (i0 + 2) ≤ an0 + i ∧ m0 ≤ m ∧ x < xn ∧ an0 ≤ an) ∧ LB g nd0 (e q + 1) H
section JG
variable {b h n cnt f i m nd nb pl xn an ot x K k o t q i0 m0 nd0 an0 : Nat} {L : List (Nat × Int32)} {D W Y : List Int32} {M M' M0 N N' N0 N1 N2 Ms Ns : mv_M} {T : Nat → Nat} {g g0 : Nat → Nat → Nat}
set_option maxHeartbeats 4000000 in
theorem j_close {H Hc : Nat} {x3 : Int32} (hx : pX b h M0 N0 T n cnt f) (ho : o < 20) (hL : L.length ≤ 20 * o + 8) (hB : 1001 * h ≤ x ∧ x ≤ 1001 * h + i0 ∧ 1001 * h ≤ an0 ∧ an0 + D.length + W.length ≤ 1001 * h + i0) (hkd : lx_k T n (lx_st T n i0) = 2) (hi0 : i0 ≤ 1000) (S : TI b T n g nd0 nd (x + 1) xn m0 m an M N) (e : Nat → Nat) (hq0 : q = 0 → nd0 = nd) (hq1 : 0 < q → x3 = nI (e 0) ∧ nd0 = g 1 (e 0) ∧ e (q - 1) + 1 = nd) (hq2 : ∀ k, k + 1 < q → e k + 1 < nd ∧ g 1 (e (k + 1)) = e k + 1 ∧ M.1 (b + 12) (e k) = nI (e (k + 1))) (hq3 : ∀ k, k < q → e k < nd ∧ nd0 ≤ e k) (hc : cO b M0 T n cnt f i m nd M) (hr : rO h N0 T n f i m xn an ((1, nI 15) :: (21, nI x) :: L) D (wl (fun k => g 0 (e k)) W q) Y ot N) (y1 : N.1 71 x = nI 8) (y2 : N.1 75 x = nI (lx_st T n i0)) (y3 : N.2.1 77 x = lx_tx T n (lx_st T n i0)) (y4 : N.1 73 x = nI W.length) (hg : gA nd0 m0 g0 g) (hnm : NM b h f m0 m M N) (hcE : cE b f m0 nd0 Ms M) (hrE : rE h f m0 x an0 Ns N) (hb : i0 + q + 1 ≤ i ∧ nd0 ≤ nd ∧ nd + i0 + 1 ≤ nd0 + i ∧ xn + i0 + 1 ≤ x + 1 + i ∧ an + q + i0 + 1 ≤ an0 + i ∧ m0 ≤ m ∧ x < xn ∧ an0 ≤ an) (hlb : LB g nd0 nd Hc) (hH : Hc < H) : J b h M0 N0 T n cnt f N (fX3_parseCall_97 (fun a0 M => RX3_parseE k 0 a0 0 M) (nI i0) x3 (nI q) M) (EQ H b h M0 N0 T n cnt f i0 m0 nd0 x an0 L D W Y ot g0 Ms Ns) := by
  have hh := hx.2.2.1
  have hbb := hx.1.1
  have hi1 := hc.2.2.2.1
  have hnd := hc.2.2.2.2.2.2.2.2.1
  unfold fX3_parseCall_97
  refine J_bind (j_take (w := 15) hx hc hr (by omega) (by omega) (by simp only [List.length_cons]; omega)) (by intros; (have hx1 := hx.1; have hx2 := hx.1.1; (repeat' first | with_reducible exact ok_some ‹_› | with_reducible refine cD_bindR (cD_take' hx1 ‹_› (by decide) (by decide)) (fun _ _ _ => ?_) | with_reducible refine cD_bindR (cD_E' hx1 ‹_› (by omega)) (fun _ _ _ => ?_) | with_reducible refine cD_bindR (cD_type' hx1 ‹_› (by omega)) (fun _ _ _ => ?_) | with_reducible refine cD_bindR (cD_sides' hx1 ‹_› (by omega) (by omega)) (fun _ _ _ => ?_) | with_reducible refine cD_bindR (cD_tType hx1 ‹_›) (fun _ _ _ => ?_) | with_reducible refine ok_pairOf (fun _ => ?_) | with_reducible refine cD_getp hx1 ‹_› ?_ | with_reducible refine cD_bind (cD_node hx1 ‹_›) (fun _ _ _ => ?_) | with_reducible refine cD_bind (cD_inner hx1 ‹_›) (fun _ _ _ => ?_) | with_reducible refine cD_textOf hx1 ‹_› (fun _ => ?_) | with_reducible refine cD_has hx1 ‹_› ?_ (fun _ => ?_) | with_reducible refine cD_kindB hx1 ‹_› (fun _ _ => ?_) | with_reducible refine cD_ifk ‹_› (by decide) (by decide) ?_ | with_reducible exact cD_call hx1 ‹_› | with_reducible exact ok_some (cD_si hx2 ‹_› (by omega))))) ?_
  rintro _ M3 NE ⟨a0, a1, a2, a3⟩
  obtain ⟨NF, b1, b2, b3, b4, b5, b6, b7⟩ := r_closed hh a2 ((a3.1 _ _ (by omega)).trans y4) (by omega) (by omega) (by omega) (by omega) (by omega)
  refine J_step b1 (J_getp hx a1.1.1 ?_)
  obtain ⟨M7, z1, z2, z3, z4, z5, z6, z7, z8, z9⟩ := c_node (kd := 5) (t := nI i0) (a1 := -1) (a2 := x3) (a3 := nI q) hbb a1 (by omega)
  refine J_bs z1 (J_some ?_)
  have C : cE b f m nd M M7 := cE_trans (cE_3 a0) z3 (by omega) (by omega)
  have R : ∀ c k, 71 ≤ c ∧ c ≤ 78 → ¬ (c = 72 ∧ k = x) → ¬ (c = 73 ∧ k = x) → ¬ (c = 78 ∧ an ≤ k) → NF.1 c k = N.1 c k := fun c k u1 u2 u3 u4 => (b6 c k (by omega) u2 u3 u4).trans (a3.1 c k (by omega))
  have R' : ∀ c k, ¬ (c = 62 ∧ k = 7) → NF.2.1 c k = N.2.1 c k := fun c k u => (b7 c k u).trans (a3.2 c k u)
  refine EQ_call (p := q) (a := an) (t := i0) (x := x) (e := e) (gz := g) rfl z2 b2 (by omega) (TI_mono (TI_congr S (fun c k u1 u2 u3 u4 _ => C.1 c k (by unfold cEa; omega)) (fun c k u1 u2 u3 u4 => R c k (by omega) (by omega) (by omega) (by omega)) (fun k u1 u2 => R' _ _ (by omega)) (fun k u => R _ _ (by omega) (by omega) (by omega) (by omega)) (fun _ _ _ => ⟨rfl, rfl⟩) (fun _ _ _ => rfl)) (Nat.le_refl _) (Nat.le_refl _) (by omega) (by omega) (Nat.le_refl _)) (fun c u1 u2 => by have := (S c u1 u2).1; omega) (by omega) ⟨hi0, kd_lt (T := T) (by omega)⟩ z5 ?_ z4 ?_ hkd ?_ (by omega) z8 b4 b3 (by omega) (fun z => hq0 z) (fun z => ?_) (fun k z => ?_) (fun k z => ?_) hg (fun k u1 u2 => ?_) (cE_trans hcE C (by omega) (by omega)) ?_ hlb hH
  · rw [R _ _ (by omega) (by omega) (by omega) (by omega)]; exact y2
  · rw [R _ _ (by omega) (by omega) (by omega) (by omega)]; exact y1
  · rw [R' _ _ (by omega)]; exact y3
  · obtain ⟨w1, w2, w3⟩ := hq1 z
    exact ⟨z7.trans w1, w2, w3⟩
  · obtain ⟨w1, w2, w3⟩ := hq2 k z
    exact ⟨w1, w2, (C.1 _ _ (by unfold cEa; omega)).trans w3⟩
  · exact ⟨(hq3 k z).1, (hq3 k z).2, b5 k z⟩
  · rw [C.2 _ _ (by omega), R' _ _ (by omega)]; exact hnm k u1 u2
  · refine rE_trans hrE ⟨fun c k u => ?_, fun c k u => ?_⟩ (Nat.le_refl _) (Nat.le_refl _) (Nat.le_refl _)
    · have u' := u
      unfold rEa at u'
      rw [b6 c k (by omega) (by omega) (by omega) (by omega), a3.1 c k (by omega)]
    · have u' := u
      unfold rEl at u'
      exact R' c k (by omega)
theorem J_loop {σ α : Type} {gg : σ → mv_M → Option ((σ ⊕ α) × mv_M)} {s : σ} {QI : σ → mv_M → mv_M → Prop} {QO Q : α → mv_M → mv_M → Prop} (h1 : J b h M0 N0 T n cnt f N (gg s M) (fun t M' N' => Sum.elim (fun s' => QI s' M' N') (fun r => QO r M' N') t)) (hd : ∀ (nb pl : Nat) (s' : σ) (M' : mv_M), cD b M0 T n cnt f nb pl M' → mv_ok (mv_loop gg s' M') (fun _ M'' => cD b M0 T n cnt f nb pl M'')) (hq : ∀ (s' : σ) (M' N' : mv_M), QI s' M' N' → J b h M0 N0 T n cnt f N' (mv_loop gg s' M') Q) (ho : ∀ (r : α) (M' N' : mv_M), QO r M' N' → Q r M' N') : J b h M0 N0 T n cnt f N (mv_loop gg s M) Q := by
  refine ok_loop (ok_mono h1 (fun t M' z => ?_))
  rcases z with ⟨nb, pl, z1, z2⟩ | ⟨N', e, z⟩
  · match t with
    | .inl s' => exact J_dead (hd nb pl s' M' z1) z2
    | .inr r => exact .inl ⟨nb, pl, z1, z2⟩
  · match t, z with
    | .inl s', w => exact J_step e (hq s' M' N' w)
    | .inr r, w => exact .inr ⟨N', e, ho r M' N' w⟩
theorem J_someL {σ α : Type} {s' : σ} {QI : σ → mv_M → mv_M → Prop} {QO : α → mv_M → mv_M → Prop} (h1 : QI s' M N) : J b h M0 N0 T n cnt f N (some (Sum.inl s', M)) (fun t M' N' => Sum.elim (fun s' => QI s' M' N') (fun r => QO r M' N') t) := J_some h1
theorem J_inr {σ α : Type} {oo : Option (α × mv_M)} {QI : σ → mv_M → mv_M → Prop} {QO : α → mv_M → mv_M → Prop} (h1 : J b h M0 N0 T n cnt f N oo QO) : J b h M0 N0 T n cnt f N (mv_inr (σ := σ) oo) (fun t M' N' => Sum.elim (fun s' => QI s' M' N') (fun r => QO r M' N') t) := ok_inr h1
set_option maxHeartbeats 4000000 in
theorem j_args (hx : pX b h M0 N0 T n cnt f) (HE : Sp b h M0 N0 T n cnt f (o + 1) (RX3_parseE k 0 (nI (o + 1)) 0) [(4, nI 0)] (20 * (o + 1))) (hk0 : 0 < k) (ho : o < 20) (hL : L.length ≤ 20 * o + 8) (hY : Y.length ≤ 4) (hB : 1001 * h ≤ x ∧ x ≤ 1001 * h + i0 ∧ 1001 * h ≤ an0 ∧ an0 + D.length + W.length ≤ 1001 * h + i0) (hkd : lx_k T n (lx_st T n i0) = 2) (hi0 : i0 ≤ 1000) : ∀ (d i m xn an q : Nat) (e : Nat → Nat) (g : Nat → Nat → Nat) (M N : mv_M), 1000 - i = d → CI (lbB (20 * (o + 1))) b h M0 N0 T n cnt f i0 m0 nd0 an0 L D W Y (o + 1) g0 Ms Ns i m xn an q x e g M N → J b h M0 N0 T n cnt f N (fX3_parseCall_30 (fun a0 M => RX3_parseE k 0 a0 0 M) (nI i0) (nI (o + 1)) (nI (e 0)) (nI (q + 1)) (nI (e q)) M) (EQ (lbB (20 * o + 8)) b h M0 N0 T n cnt f i0 m0 nd0 x an0 L D W Y (o + 1) g0 Ms Ns) := by
  have hh := hx.2.2.1
  have hbb := hx.1.1
  intro d
  induction d using Nat.strongRecOn with
  | _ d ih =>
  intro i m xn an q e g M N hd hC
  obtain ⟨hc, hr, S, ge0, he1, he2, y1, y2, y3, y4, hg, hnm, hcE, hrE, hb, hlb⟩ := hC
  have hi1 := hc.2.2.2.1
  have hnd := hc.2.2.2.2.2.2.2.2.1
  have ek := cO_kind hx.1 hc
  have hv := vk_k (T := T) (n := n) (s := lx_st T n i)
  have hv2 : lx_k T n (lx_st T n i) < 2 ^ 31 := by unfold vk at hv; omega
  have hwl := wl_len (v := fun k => g 0 (e k)) (W := W) q
  obtain ⟨A1, A2⟩ := r_arg hr (by omega) (by omega) (by rw [hwl]; omega) (by omega)
  have hdead : ∀ (nb pl : Nat) (s' : Int32 × Int32 × Int32 × Int32 × Int32) (M' : mv_M), cD b M0 T n cnt f nb pl M' → mv_ok (mv_loop (fun (s : Int32 × Int32 × Int32 × Int32 × Int32) M => gX3_parseCall_30 (fun a0 M => RX3_parseE k 0 a0 0 M) s.1 s.2.1 s.2.2.1 s.2.2.2.1 s.2.2.2.2 M) s' M') (fun _ M'' => cD b M0 T n cnt f nb pl M'') := by
    intro nb pl s' M' hd
    exact cD_call (x1 := s'.1) (x2 := s'.2.1) (x3 := s'.2.2.1) (x4 := s'.2.2.2.1) (x5 := s'.2.2.2.2) hx.1 hd
  unfold fX3_parseCall_30
  by_cases h44 : lx_k T n (lx_st T n i) = 44
  · obtain ⟨N2, a1, a2, a3⟩ := A1 h44
    obtain ⟨M3, N3, e1, e2, e3, e4⟩ := j_pass hx hc a1 (by omega)
    rw [h44] at ek
    refine J_loop (QI := fun s' M' N' => ∃ i m xn an e' g', s' = (nI i0, nI (o + 1), nI (e' 0), nI (q + 1 + 1), nI (e' (q + 1))) ∧ 1000 - i < d ∧ CI (lbB (20 * (o + 1))) b h M0 N0 T n cnt f i0 m0 nd0 an0 L D W Y (o + 1) g0 Ms Ns i m xn an (q + 1) x e' g' M' N') (QO := fun _ _ _ => False) ?_ hdead ?_ (fun _ _ _ z => absurd z id)
    · show J b h M0 N0 T n cnt f N (gX3_parseCall_30 (fun a0 M => RX3_parseE k 0 a0 0 M) (nI i0) (nI (o + 1)) (nI (e 0)) (nI (q + 1)) (nI (e q)) M) _
      unfold gX3_parseCall_30
      refine J_F (by rw [kM, k_le (by omega) (by omega)]; omega) (J_F (by rw [kM, k_lt (by omega) (by omega)]; omega) ?_)
      refine J_bs ek (J_T rfl (J_bs e1 (J_step (a3 _ e2) ?_)))
      have hbody : ∀ (nb pl : Nat) (r9 : Int32) (M10 : mv_M), cD b M0 T n cnt f nb pl M10 → mv_ok (mv_getp (M10.2.2 3 2) fun b11 => mv_bind (fX4_hasNode b11 (nI (e q)) M10) fun r12 M13 => if r12 = 0 then fX3_parseCall_87 (fun a0 M => RX3_parseE k 0 a0 0 M) (nI i0) (nI (o + 1)) (nI (e 0)) (nI (q + 1)) r9 M13 else mv_getp (M13.2.2 3 2) fun b14 => mv_chk (mv_inb (nI (e q)) 1000) <| mv_let (mv_si M13 (b14 + 12) (nI (e q)).toNatClampNeg r9) fun M16 => fX3_parseCall_87 (fun a0 M => RX3_parseE k 0 a0 0 M) (nI i0) (nI (o + 1)) (nI (e 0)) (nI (q + 1)) r9 M16) (fun _ M'' => cD b M0 T n cnt f nb pl M'') := by
        intro nb pl r9 M10 hd
        unfold fX3_parseCall_87
        refine cD_getp hx.1 hd ?_
        exact cD_has (A := fun M13 => mv_let (nI (q + 1) + 1) fun v21 => some ((Sum.inl (nI i0, nI (o + 1), nI (e 0), v21, r9) : (Int32 × Int32 × Int32 × Int32 × Int32) ⊕ Int32), M13)) (B := fun b14 M13 => mv_let (mv_si M13 (b14 + 12) (nI (e q)).toNatClampNeg r9) fun M16 => mv_let (nI (q + 1) + 1) fun v21 => some ((Sum.inl (nI i0, nI (o + 1), nI (e 0), v21, r9) : (Int32 × Int32 × Int32 × Int32 × Int32) ⊕ Int32), M16)) hx.1 hd (ok_let (ok_some hd)) (fun _ => ok_let (ok_let (ok_some (cD_si hbb hd (by omega)))))
      rcases e4 with ⟨nb, pl, d1, d2⟩ | ⟨d1, d2, d3⟩
      · exact J_dead (cD_bindR (cD_E' hx.1 d1 hk0) (fun r9 M10 hd => hbody nb pl r9 M10 hd)) (P_fault d2)
      refine J_bind (HE (i + 1) m (e q + 1) xn an _ D _ Y g M3 N3 (by simp only [List.length_cons]; omega) hY (by simp only [List.length_cons, hwl]; omega) d2 d3) (fun nb pl r9 M10 hd => hbody nb pl r9 M10 hd) ?_
      rintro r M4 NF ⟨i4, m4, c4, xn4, an4, g4, rfl, f1, f2, f3, f4, f5, f6, f7, f8, f9, fA⟩
      have hi4 := f1.2.2.2.1
      have hnd4 := f1.2.2.2.2.2.2.2.2.1
      have hnode : fX4_hasNode b (nI (e q)) M4 = some (1, M4) := by
        have := f1.2.2.2.2.2.2.2.1
        unfold fX4_hasNode
        simp (disch := omega) only [this, k_iT, k_iF, Bool.false_eq_true, eq_self, Nat.add_zero, k_lt', k_bs, k_T, k_F, k_inb, k_ck, k_nz, ↓kN, kL, k_lt, k_le, k_eq, kn_le, kn_lt, kn_eq, kn_le', kn_lt', kn_eq', nI_clamp, nI_add, k_sub, k_mul, k_div, rd_hi, rd_mi, rd_hl, rd_ml, rd_hr, rd_mr, rd_si2, rd_sl1, rd_sl2, rd_sr1, rd_sr2]
      refine J_getp hx f1.1.1 (J_bs hnode (J_F (by decide) (J_getp hx f1.1.1 ?_)))
      rw [k_inb (by omega) (by omega), k_ck, nI_clamp (by omega), k_lt']
      unfold fX3_parseCall_87
      rw [k_lt', kL, nI_add]
      refine J_someL ⟨i4, m4, xn4, an4, (fun k => if k ≤ q then e k else c4), g4, ?_, by omega, ?_⟩
      · simp only [Nat.zero_le, if_true, show ¬ (q + 1 ≤ q) by omega, if_false]
      have E1 : (fun k => if k ≤ q then e k else c4) (q + 1) = c4 := by show (if q + 1 ≤ q then _ else _) = _; rw [if_neg (by omega)]
      have E2 : ∀ k, k ≤ q → (fun k => if k ≤ q then e k else c4) k = e k := fun k hk => by show (if k ≤ q then _ else _) = _; rw [if_pos hk]
      generalize hE : (fun k => if k ≤ q then e k else c4) = e' at E1 E2 ⊢
      have R : ∀ c k, 71 ≤ c ∧ c ≤ 78 → (c ≤ 77 → k < xn) → (c = 78 → k < an) → NF.1 c k = N.1 c k := fun c k u1 u2 u3 => (f9.1 c k (by unfold rEa; omega)).trans ((e3.1 c k (by omega)).trans (a2.1 c k (by omega)))
      have R' : ∀ c k, ¬ ((c = 62 ∧ k = 7) ∨ (c = 69 ∧ 16 * (12 * h + f) + m ≤ k)) → (c = 77 → k < xn) → NF.2.1 c k = N.2.1 c k := fun c k u u2 => (f9.2 c k (by unfold rEl; omega)).trans ((e3.2.1 c k (by omega)).trans (a2.2 c k (by omega)))
      have C : cE b f m (e q + 1) M M4 := cE_trans (cE_3 d1) f8 (by omega) (by omega)
      have S1 : TI b T n g4 nd0 (e q + 1) (x + 1) xn m0 m an4 (mv_si M4 (b + 12) (e q) (nI c4)) NF := TI_mono (TI_congr S (fun c k u1 u2 u3 u4 u5 => by simp (disch := omega) only [rd_hi, rd_mi, rd_hl, rd_ml, rd_hr, rd_mr, rd_si2, rd_sl1, rd_sl2, rd_sr1, rd_sr2]; exact C.1 c k (by unfold cEa; omega)) (fun c k u1 u2 u3 u4 => R c k (by omega) (by omega) (by omega)) (fun k u1 u2 => R' _ _ (by omega) (by omega)) (fun k u => R _ _ (by omega) (by omega) (by omega)) (fun k _ u => f6.1 k u) (fun k _ u => f6.2 k u)) (Nat.le_refl _) (Nat.le_refl _) (by omega) (Nat.le_refl _) (Nat.le_refl _)
      have S2 : TI b T n g4 (e q + 1) (c4 + 1) xn xn4 m m4 an4 (mv_si M4 (b + 12) (e q) (nI c4)) NF := TI_congr f5 (fun c k u1 u2 u3 u4 u5 => by simp (disch := omega) only [rd_hi, rd_mi, rd_hl, rd_ml, rd_hr, rd_mr, rd_si2, rd_sl1, rd_sl2, rd_sr1, rd_sr2]) (fun _ _ _ _ _ _ => rfl) (fun _ _ _ => rfl) (fun _ _ => rfl) (fun _ _ _ => ⟨rfl, rfl⟩) (fun _ _ _ => rfl)
      refine ⟨?_, ?_, ?_, ?_, fun k hk => ?_, fun k hk => ?_, ?_, ?_, ?_, ?_, ?_, ?_, ?_, ?_, ?_, ?_⟩
      · rw [E1]
        obtain ⟨g1, g2, g3, g4', g5, g6, g7, g8, g9, g10⟩ := f1
        exact ⟨cB_si hbb g1 (by omega), by simp (disch := omega) only [rd_hi, rd_mi, rd_hl, rd_ml, rd_hr, rd_mr, rd_si2, rd_sl1, rd_sl2, rd_sr1, rd_sr2]; exact g2, g3, g4', g5, by simp (disch := omega) only [rd_hi, rd_mi, rd_hl, rd_ml, rd_hr, rd_mr, rd_si2, rd_sl1, rd_sl2, rd_sr1, rd_sr2]; exact g6, g7, by simp (disch := omega) only [rd_hi, rd_mi, rd_hl, rd_ml, rd_hr, rd_mr, rd_si2, rd_sl1, rd_sl2, rd_sr1, rd_sr2]; exact g8, g9, by simp (disch := omega) only [rd_hi, rd_mi, rd_hl, rd_ml, rd_hr, rd_mr, rd_si2, rd_sl1, rd_sl2, rd_sr1, rd_sr2]; exact g10⟩
      · rw [E1]
        have ew : wl (fun k => g4 0 (e' k)) W (q + 1) = nI (g 0 (e q)) :: wl (fun k => g 0 (e k)) W q := by
          show nI (g4 0 (e' q)) :: wl (fun k => g4 0 (e' k)) W q = _
          rw [E2 q (Nat.le_refl _), (f6.1 (e q) (by omega)).1, wl_congr (v := fun k => g 0 (e k)) q (fun k hk => ?_)]
          show g4 0 (e' k) = g 0 (e k)
          have := he2 k (by omega)
          rw [E2 k (by omega), (f6.1 (e k) (by omega)).1]
        rw [ew]
        exact f2
      · rw [E1]
        have := he2 q (Nat.le_refl _)
        exact TI_app S1 S2 (by omega) (by omega) (by omega) (by omega) (by omega)
      · have := he2 0 (by omega)
        rw [E2 0 (by omega), (f6.1 (e 0) (by omega)).2]
        exact ge0
      · rw [E1, E2 k (by omega)]
        by_cases hkq : k < q
        · obtain ⟨w1, w2, w3⟩ := he1 k hkq
          have := he2 (k + 1) (by omega)
          rw [E2 (k + 1) (by omega), (f6.1 (e (k + 1)) (by omega)).2]
          refine ⟨by omega, w2, ?_⟩
          simp (disch := omega) only [rd_hi, rd_mi, rd_hl, rd_ml, rd_hr, rd_mr, rd_si2, rd_sl1, rd_sl2, rd_sr1, rd_sr2]
          rw [C.1 _ _ (by unfold cEa; omega)]
          exact w3
        · obtain rfl : k = q := by omega
          rw [E1]
          exact ⟨by omega, f4, by simp (disch := omega) only [rd_hi, rd_mi, rd_hl, rd_ml, rd_hr, rd_mr, rd_si2, rd_sl1, rd_sl2, rd_sr1, rd_sr2]⟩
      · rw [E1]
        by_cases hkq : k ≤ q
        · have := he2 k hkq
          rw [E2 k hkq]
          omega
        · obtain rfl : k = q + 1 := by omega
          rw [E1]
          have := he2 0 (by omega)
          omega
      · rw [R _ _ (by omega) (by omega) (by omega)]; exact y1
      · rw [R _ _ (by omega) (by omega) (by omega)]; exact y2
      · rw [R' _ _ (by omega) (by omega)]; exact y3
      · rw [R _ _ (by omega) (by omega) (by omega)]; exact y4
      · have := he2 0 (by omega)
        exact gA_trans hg f6 (by omega) (by omega)
      · refine NM_app (m1 := m) (fun k u1 u2 => ?_) (fun k u1 u2 => ?_)
        · show M4.2.1 _ _ = _
          rw [C.2 _ _ (by omega), R' _ _ (by omega) (by omega)]; exact hnm k u1 u2
        · exact f7 k u1 u2
      · have := he2 q (by omega)
        exact cE_si (cE_trans hcE C (by omega) (by omega)) (by unfold cEa; omega)
      · refine rE_trans hrE ⟨fun c k u => ?_, fun c k u => ?_⟩ (Nat.le_refl _) (Nat.le_refl _) (Nat.le_refl _)
        · have u' := u
          unfold rEa at u'
          rw [f9.1 c k (by unfold rEa; omega), e3.1 c k (by omega), a2.1 c k (by omega)]
        · have u' := u
          unfold rEl at u'
          rw [f9.2 c k (by unfold rEl; omega), e3.2.1 c k (by omega), a2.2 c k (by omega)]
      · rw [E1]
        have := he2 0 (by omega)
        omega
      · rw [E1]
        have := he2 q (Nat.le_refl _)
        exact LB_app (LB_congr hlb (fun k _ z => (f6.1 k z).2)) fA (fun k z1 z2 => (S2 k z1 z2).2.2.2.1)
    · rintro s' M' N' ⟨i2, m2, xn2, an2, e2, g2, h1, h2, h3⟩
      subst h1
      exact ih (1000 - i2) h2 i2 m2 xn2 an2 (q + 1) e2 g2 M' N' rfl h3
  · obtain ⟨N2, a1, a2, a3⟩ := A2 h44
    refine J_loop (QI := fun _ _ _ => False) (QO := EQ (lbB (20 * o + 8)) b h M0 N0 T n cnt f i0 m0 nd0 x an0 L D W Y (o + 1) g0 Ms Ns) ?_ hdead (fun _ _ _ z => absurd z id) (fun _ _ _ z => z)
    · show J b h M0 N0 T n cnt f N (gX3_parseCall_30 (fun a0 M => RX3_parseE k 0 a0 0 M) (nI i0) (nI (o + 1)) (nI (e 0)) (nI (q + 1)) (nI (e q)) M) _
      unfold gX3_parseCall_30
      refine J_F (by rw [kM, k_le (by omega) (by omega)]; omega) (J_F (by rw [kM, k_lt (by omega) (by omega)]; omega) ?_)
      refine J_bs ek (J_F (by rw [kM, k_eq hv2 (by omega)]; exact h44) (J_step a1 (J_inr ?_)))
      have he0 := he2 0 (by omega)
      refine j_close (q := q + 1) (e := e) (g := g) hx ho hL hB hkd hi0 (TI_congr S (fun _ _ _ _ _ _ _ => rfl) (fun c k _ _ _ _ => a3.1 c k (by omega)) (fun k _ _ => a3.2 _ _ (by omega)) (fun k _ => a3.1 _ _ (by omega)) (fun _ _ _ => ⟨rfl, rfl⟩) (fun _ _ _ => rfl)) (fun z => by omega) (fun _ => ⟨rfl, ge0.symm, by simp⟩) (fun k hk => ?_) (fun k hk => ?_) hc a2 ((a3.1 _ _ (by omega)).trans y1) ((a3.1 _ _ (by omega)).trans y2) ((a3.2 _ _ (by omega)).trans y3) ((a3.1 _ _ (by omega)).trans y4) hg (fun k u1 u2 => ?_) hcE (rE_trans hrE (rS_E (m := m0) (xn := x) (an := an0) a3) (Nat.le_refl _) (Nat.le_refl _) (Nat.le_refl _)) (by omega) hlb (by unfold lbB; omega)
      · obtain ⟨w1, w2, w3⟩ := he1 k (by omega)
        exact ⟨by omega, w2, w3⟩
      · have := he2 k (by omega)
        omega
      · rw [a3.2 _ _ (by omega)]; exact hnm k u1 u2
end JG
