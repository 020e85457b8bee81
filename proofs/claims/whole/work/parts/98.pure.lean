theorem pure_main : ∀ (L : Nat) (xs : Nat → Int32), L ≤ 3072 → mv_ok (fL_law (mv_M0 L xs)) (fun r _ => r = 1) := by
  sorry
