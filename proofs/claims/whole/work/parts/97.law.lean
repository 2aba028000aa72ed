theorem law_pure (L : Nat) (xs : Nat → Int32) (hL : L ≤ 2560) : ∃ (N : Nat) (sF : vS), F_L_law N L xs s0 = some (1, sF) ∧ sn sF ≤ 600000 ∧ sz sF ≤ 7302250 := by
  sorry
