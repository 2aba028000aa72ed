theorem law_pure (L : Nat) (xs : Nat → Int32) (hL : L ≤ 2560) : ∃ (N : Nat) (sF : vS), F_L_law N L xs s0 = some (1, sF) ∧ sn sF ≤ 600000 ∧ sz sF ≤ 7302250 := by
  obtain ⟨m, hR, h⟩ := law_start (N := 6000) (L := L) (xs := xs) (by omega)
  obtain ⟨m', hE⟩ := law_loop (N := 6000) (L := L) (xs := xs) (by omega) hL (fun m x hR => call_read (by omega) hR x) 520 0 6000 m (by omega) (by omega) (by omega) hR
  refine ⟨6000, S m', h.trans hE, ?_, ?_⟩
  · show 354 ≤ 600000
    omega
  · show 6966 ≤ 7302250
    omega
