/-! THE LAW AS A FUNCTION gives 1 -/
theorem Iv_M0 (L : Nat) (xs : Nat → Int32) : Iv (mv_M0 L xs) := by
  refine ⟨⟨0, by omega, rfl, rfl, fun k hk => by omega⟩, rfl, ⟨0, fun _ => 0, fun _ => 0, by omega, rfl, rfl, fun i hi => by omega⟩, 9, 24, ⟨.inl ⟨rfl, rfl⟩, rfl, rfl⟩, .inl ⟨rfl, rfl, ⟨0, by omega, rfl⟩, ⟨rfl, rfl⟩, ⟨rfl, rfl, rfl, rfl, rfl, rfl, rfl, rfl⟩⟩⟩
theorem pure_main : ∀ (L : Nat) (xs : Nat → Int32), L ≤ 3072 → mv_ok (fL_law (mv_M0 L xs)) (fun r _ => r = 1) := by
  intro L xs hL
  unfold fL_law
  have hs : pm_scr L xs (mv_M0 L xs) := ⟨rfl, rfl⟩
  exact pm_loop (L := L) (xs := xs) H0 H1 H2 H3 H4 H5 H6 H7 H8 H9 H10 H11 H12 H13 H14 H15 hL 520 0 (mv_M0 L xs) (by omega) (by omega) (Iv_M0 L xs) hs
