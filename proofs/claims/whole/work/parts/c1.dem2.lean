/-! DEMANDS: parts; the class's reckoning and the reference's -/
theorem dm_ptB : allN 5 (fun t => decide (t = 0) || allN (dem t) fun d => decide (d = 0) || (decide (af t d < dem ((t - 1) / 2)) && (decide (as t d < dem ((t - 1) % 2)) && (decide (pd t (af t d) (as t d) = d) && (allN (dem t) fun e => decide (ei t d e = d → ei ((t - 1) / 2) (af t d) (af t e) = af t d ∧ ei ((t - 1) % 2) (as t d) (as t e) = as t d)))))) = true := by decide +kernel
theorem dm_pdB : allN 5 (fun t => decide (t = 0) || allN (dem ((t - 1) / 2)) fun x => allN (dem ((t - 1) % 2)) fun y => decide (0 < pd t x y) && (decide (pd t x y < dem t) && (decide (af t (pd t x y) = x) && (decide (as t (pd t x y) = y) && (allN (dem ((t - 1) / 2)) fun x' => !(decide (ei ((t - 1) / 2) x x' = x)) || allN (dem ((t - 1) % 2)) fun y' => decide (ei ((t - 1) % 2) y y' = y → ei t (pd t x y) (pd t x' y') = pd t x y)))))) = true := by decide +kernel
theorem pu_dem (x : Int32) : PU (fX6_demandsOf x) := by
  unfold fX6_demandsOf fX6_demandsOf_12
  exact PU_if PU_some (PU_if (PU_chk PU_some) PU_some)
theorem pu_fst (x : Int32) : PU (fX6_firstOf x) := by
  unfold fX6_firstOf
  exact PU_if PU_some PU_some
theorem pu_snd (x : Int32) : PU (fX6_secondOf x) := by
  unfold fX6_secondOf
  exact PU_if PU_some PU_some
theorem pu_af (x y : Int32) : PU (fX6_askedOfFirst x y) := by
  unfold fX6_askedOfFirst fX6_askedOfFirst_16
  exact PU_bind (pu_snd x) (fun v => PU_bind (pu_dem v) (fun w => PU_if PU_some (PU_if (PU_chk PU_some) PU_some)))
theorem pu_as (x y : Int32) : PU (fX6_askedOfSecond x y) := by
  unfold fX6_askedOfSecond fX6_askedOfSecond_16
  exact PU_bind (pu_snd x) (fun v => PU_bind (pu_dem v) (fun w => PU_if PU_some (PU_if (PU_chk PU_some) PU_some)))
theorem pu_pd (x y z : Int32) : PU (fX6_pairDemand x y z) := by
  unfold fX6_pairDemand
  exact PU_bind (pu_snd x) (fun v => PU_bind (pu_dem v) (fun w => PU_some))
theorem pu_tg : ∀ (n s : Nat) (x y z : Int32), PU (RX6_together n s x y z) := by
  intro n
  induction n with
  | zero => intro s x y z; exact PU_none
  | succ n ih =>
    intro s x y z
    show PU (fun M => RX6_together (n + 1) s x y z M)
    simp only [RX6_together]
    unfold fX6_together fX6_together_8
    exact PU_if PU_some (PU_if PU_some (PU_if (PU_bind (pu_fst x) fun v1 => PU_bind (pu_af x y) fun v2 => PU_bind (pu_af x z) fun v3 => PU_bind (ih 0 v1 v2 v3) fun v4 => PU_bind (pu_snd x) fun v5 => PU_bind (pu_as x y) fun v6 => PU_bind (pu_as x z) fun v7 => PU_bind (ih 0 v5 v6 v7) fun v8 => PU_bind (pu_pd x v4 v8) fun v9 => PU_some) PU_some))
theorem pu_ei : ∀ (n s : Nat) (x y z : Int32), PU (RX6_either n s x y z) := by
  intro n
  induction n with
  | zero => intro s x y z; exact PU_none
  | succ n ih =>
    intro s x y z
    show PU (fun M => RX6_either (n + 1) s x y z M)
    simp only [RX6_either]
    unfold fX6_either
    exact PU_if PU_some (PU_if PU_some (PU_if (PU_bind (pu_fst x) fun v1 => PU_bind (pu_af x y) fun v2 => PU_bind (pu_af x z) fun v3 => PU_bind (ih 0 v1 v2 v3) fun v4 => PU_bind (pu_snd x) fun v5 => PU_bind (pu_as x y) fun v6 => PU_bind (pu_as x z) fun v7 => PU_bind (ih 0 v5 v6 v7) fun v8 => PU_bind (pu_pd x v4 v8) fun v9 => PU_some) PU_some))
theorem pu_rdem (x : Int32) : PU (fX11_demands x) := by
  unfold fX11_demands
  exact PU_if PU_some (PU_if PU_some (PU_if PU_some PU_some))
theorem pu_rfst (x : Int32) : PU (fX11_firstOf x) := by
  unfold fX11_firstOf
  exact PU_if PU_some PU_some
theorem pu_rsnd (x : Int32) : PU (fX11_secondOf x) := by
  unfold fX11_secondOf fX11_secondOf_10
  exact PU_if PU_some (PU_if PU_some PU_some)
def ev (g : mv_M → Option (Int32 × mv_M)) : Option Int32 := (g mz).map Prod.fst
theorem dm_clB : allN 5 (fun t => allN (dem t) fun a => decide (ev (fX6_demandsOf (nI t)) = some (nI (dem t))) && (decide (ev (fX11_demands (nI t)) = some (nI (dem t))) && (decide (a = 0 ∨ t = 0 ∨ ev (fX6_askedOfFirst (nI t) (nI a)) = some (nI (af t a))) && (decide (a = 0 ∨ t = 0 ∨ ev (fX6_askedOfSecond (nI t) (nI a)) = some (nI (as t a))) && allN (dem t) fun b => decide (ev (tX6_together (nI t) (nI a) (nI b)) = some (nI (tg t a b))) && decide (ev (tX6_either (nI t) (nI a) (nI b)) = some (nI (ei t a b))))))) = true := by decide +kernel
