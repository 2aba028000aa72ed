section ALGI
variable {N k : Nat} {m m' : vM} {s : vS} {κ κ' : (Nat × Nat) × (Nat → Nat × Nat) × (Nat → Nat → Option Nat)}
theorem g_take {a f i : Nat} {p : Int64 × Int64} (ho : oG κ a 6 = true) (r1 : κ.2.2 a 1 = some (a + 1)) (r2 : κ.2.2 a 2 = some (a + 2)) (a1 : a + 1 < κ.1.1 ∧ κ.2.1 (a + 1) = (2, 29)) (a2 : a + 2 < κ.1.1 ∧ κ.2.1 (a + 2) = (2, 29)) (hf : oG κ f 2 = true) (hne : f ≠ a + 1) (hi : i < 29) (h0 : rJ m f 0 = p.1) (h1 : rJ m f 1 = p.2) : F_X6_take N a (nI i) f (G κ m) = some ((), G κ (wJ (wJ m (a + 1) i p.1) (a + 2) i p.2)) := by
  unfold F_X6_take
  refine k_rcv ho ?_
  refine e_f (nI_pos (by omega)) ?_
  refine e_f (by rw [leL (by decide) (by omega)]; show ¬ 29 ≤ i; omega) ?_
  refine k_ldR ho r1 ?_
  refine k_ldJV hf h0 ?_
  refine k_asJ (aGat a1) rfl (by omega) ?_
  refine k_ldR ho r2 ?_
  refine k_ldJV hf (show _ = p.2 by rw [rJ_n _ _ (by omega)]; exact h1) ?_
  refine k_asJ (aGat a2) rfl (by omega) ?_
  rfl
theorem g_become {f : Nat} {a b : Int64} (hf : oG κ f 2 = true) (hN : 100 ≤ N) (hb : 0 < b.toInt) : F_X2_become N f a b (G κ m) = some ((), G κ (wF m f (red a b))) := by
  have hb1 : (1 : Int64) ≤ b := by rw [Int64.le_iff_toInt_le]; show (1 : Int) ≤ _; omega
  unfold F_X2_become
  refine k_rcv hf ?_
  refine e_t (lgx.mpr hb1) ?_
  refine e_bnd (c_greatestIn hN hb) ?_
  refine e_nzJ (fg_n0 hb) ?_
  refine k_stJ hf ?_
  refine e_nzJ (fg_n0 hb) ?_
  refine k_stJ hf ?_
  rfl
end ALGI
