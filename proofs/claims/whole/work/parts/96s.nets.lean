section NETS
variable {N k : Nat} {m m' : vM} {s : vS} {κ κ' : (Nat × Nat) × (Nat → Nat × Nat) × (Nat → Nat → Option Nat)}
/-- a family's references, but for its nets -/
def Cq (q : Bool) (κ : (Nat × Nat) × (Nat → Nat × Nat) × (Nat → Nat → Option Nat)) : Prop := ∀ a j v, (a = fo q ∨ a = aNn q ∨ a = aOo q) → RRf a j = some v → κ.2.2 a j = some v
theorem Cq.kp {q : Bool} (h : Cq q κ) (g : Kp κ κ') : Cq q κ' := fun a j v e1 e2 => g a j v (h a j v e1 e2)
theorem shq : ∀ q, (isOc (fo q) 1 = true ∧ SHf (aNn q) = (6, 5) ∧ SHf (aSz q) = (1, mny q) ∧ SHf (aCd q) = (1, mny q) ∧ SHf (aFs q) = (1, 6) ∧ SHf (aRe q) = (1, 24) ∧ SHf (aNs q) = (4, mny q) ∧ SHf (aOo q) = (6, mny q)) ∧ (∀ k, k < 5 → SHf (aNu q + k) = (1, 64)) ∧ (∀ k, k < mny q → SHf (aOn q + k) = (1, 16)) := by decide +kernel
theorem netS : ∀ q k, k < mny q → (aNt q + 3 * k + 2 < 354 ∧ isOc (aNt q + 3 * k) 3 = true ∧ SHf (aNt q + 3 * k + 1) = (1, 8) ∧ SHf (aNt q + 3 * k + 2) = (1, 8) ∧ rrL.getD (aNt q + 3 * k) [] = [none, some (aNt q + 3 * k + 1), some (aNt q + 3 * k + 2)] ∧ rrL.getD (aNt q + 3 * k + 1) [] = [] ∧ rrL.getD (aNt q + 3 * k + 2) [] = []) ∧ SHf (aNt q + 3 * k) = (0, 3) := by decide +kernel
theorem FA_of {q : Bool} (h : Pr k κ) (hk : aNt q ≤ k) (hc : Cq q κ) : FA κ q := by
  have ad := adr2 q
  have ae := adr3 q
  obtain ⟨⟨s1, s2, s3, s4, s5, s6, s7, s8⟩, s9, s10⟩ := shq q
  refine ⟨⟨h.o (by omega) s1, hc _ _ _ (Or.inl rfl) gR7, h.at (by omega) s2, fun j hj => ⟨hc _ _ _ (Or.inr (Or.inl rfl)) (gNnR q j hj), h.at (by omega) (s9 j hj)⟩⟩, ⟨hc _ _ _ (Or.inl rfl) gR3, hc _ _ _ (Or.inl rfl) gR4, hc _ _ _ (Or.inl rfl) gR6, hc _ _ _ (Or.inl rfl) gR9⟩, h.at (by omega) s3, h.at (by omega) s4, h.at (by omega) s5, h.at (by omega) s6⟩
theorem g_net_l {q : Bool} (hN : 100 ≤ N) : ∀ (d k n : Nat) (κ : (Nat × Nat) × (Nat → Nat × Nat) × (Nat → Nat → Option Nat)) (m : vM), k + d = mny q → d < n → Pr (aNt q + 3 * k) κ → Cq q κ → (∀ j, j < k → κ.2.2 (aNs q) j = some (aNt q + 3 * j)) → Cp (aNt q) (aNt q + 3 * k) κ → HdG q m → NuG q m → (∀ j, j < k → NetIs m (aNt q + 3 * j) (sz_ q j) (rowT q j) ∧ ∀ i, i < 2 ^ sz_ q j → rI m (aOn q + j) i = onv q j i) →
    ∃ κ' m', H_X1_init_111 N n (fo q) (nI (sh_ q)) (nI (mny q)) (nI k) (G κ m) = some ((), G κ' m') ∧ Pr (aNt q + 3 * mny q) κ' ∧ Kp κ κ' ∧ (∀ j, j < mny q → κ'.2.2 (aNs q) j = some (aNt q + 3 * j)) ∧ Cp (aNt q) (aNt q + 3 * mny q) κ' ∧ Fz (aOn q) m m' ∧ ∀ j, j < mny q → NetIs m' (aNt q + 3 * j) (sz_ q j) (rowT q j) ∧ ∀ i, i < 2 ^ sz_ q j → rI m' (aOn q + j) i = onv q j i
  | _, _, 0, _, _, _, h, _, _, _, _, _, _, _ => by omega
  | 0, k, n + 1, κ, m, hk, _, hP, hC, hR, hp, hH, hU, hI => by
    have ad := adr2 q
    obtain rfl : k = mny q := by omega
    refine ⟨κ, m, ?_, hP, fun _ _ _ e => e, hR, hp, fun _ _ _ => ⟨rfl, rfl⟩, hI⟩
    refine Eq.trans u_H_X1_init_111 ?_
    exact e_t (Int32.le_refl _) rfl
  | d + 1, k, n + 1, κ, m, hk, hd, hP, hC, hR, hp, hH, hU, hI => by
    have ad := adr2 q
    have ae := adr3 q
    have hkm : k < mny q := by omega
    have zz' := szc q k hkm
    have hz4 := zz'.1
    obtain ⟨nS, n0⟩ := netS q k hkm
    obtain ⟨⟨s1, s2, s3, s4, s5, s6, s7, s8⟩, s9, s10⟩ := shq q
    obtain ⟨p1, k1⟩ := hP.new (d := (0, 3)) (w := 3) n0 rfl
    obtain ⟨κ2, m2, x1, p2, k2, c2, z2, -, -⟩ := i_X3 (N := N) (m := zM m (aNt q + 3 * k)) (show NetS (aNt q + 3 * k) from nS) p1
    obtain ⟨p3, k3, r3⟩ := p2.ref (a := aNs q) (j := k) (v := aNt q + 3 * k) (by omega) (gNsR q k hkm)
    have kk : Kp κ (kR κ2 (aNs q) k (aNt q + 3 * k)) := (k1.tr k2).tr k3
    have hC3 := hC.kp kk
    have hF3 : FA (kR κ2 (aNs q) k (aNt q + 3 * k)) q := FA_of p3 (by omega) hC3
    have nS' : NetS (aNt q + 3 * k) := nS
    have hNet : NetG (kR κ2 (aNs q) k (aNt q + 3 * k)) (aNt q + 3 * k) := ⟨⟨p3.o (by omega) nS.2.1, k3 _ _ _ (c2 _ _ _ (Nat.le_refl _) (by omega) nS'.r1), k3 _ _ _ (c2 _ _ _ (Nat.le_refl _) (by omega) nS'.r2)⟩, p3.at (by omega) nS.2.2.1, p3.at (by omega) nS.2.2.2.1⟩
    have hNt : NtG (kR κ2 (aNs q) k (aNt q + 3 * k)) q k := ⟨⟨hC3 _ _ _ (Or.inl rfl) gR5, hC3 _ _ _ (Or.inl rfl) gR8⟩, p3.at (by omega) s7, p3.at (by omega) s8, r3, hC3 _ _ _ (Or.inr (Or.inr rfl)) (gOoR q k hkm), p3.at (by omega) (s10 k hkm), hNet⟩
    have z02 : Fz (aNt q + 3 * k) m m2 := (Fz_z (Nat.le_refl _)).tr z2 (Nat.le_refl _)
    obtain ⟨m3, y1, y2, y3⟩ := g_unfold (N := N) (κ := kR κ2 (aNs q) k (aNt q + 3 * k)) (m := m2) (size := sz_ q k) (code := cd_ q k) hN hNet zz'.1 zz'.2.2.2.1
    have z03 : Fz (aNt q + 3 * k) m m3 := fun b j hb => by
      rw [y2.i (by omega), y2.j (by omega)]
      exact z02 b j hb
    have hI3 : NetIs m3 (aNt q + 3 * k) (sz_ q k) (rowT q k) := ⟨y3.1, y3.2.1, fun i hi => by
      have e := uf_rowT q k hkm i (by omega) hi
      rw [← e]
      exact y3.2.2 i hi⟩
    have hT3 : TabG q m3 := ⟨by rw [(z03 _ _ (by omega)).1]; exact hH.1, by rw [(z03 _ _ (by omega)).1]; exact hH.2.1, fun size code a1 a2 a3 => by rw [(z03 _ _ (by omega)).1]; exact hU.2.1 size code a1 a2 a3⟩
    have hsz3 : rI m3 (aSz q) k = nI (sz_ q k) := by rw [(z03 _ _ (by omega)).1]; exact (hU.1 k hkm).1
    have h2 : (2 : Nat) ^ sz_ q k ≤ 2 ^ 4 := Nat.pow_le_pow_right (by decide) hz4
    obtain ⟨m4, w1, w2, w3, w4⟩ := g_on_l (N := N) (k111 := H_X1_init_111 N n) hN hkm hF3 hNt (2 ^ sz_ q k) 0 N m3 (by omega) (by omega) hT3 hsz3 hI3 (fun j hj => absurd hj (Nat.not_lt_zero _))
    -- what stays
    have st : ∀ b j, (b < aOn q ∨ (aOn q + mny q ≤ b ∧ b < aNt q + 3 * k) ∨ (aOn q ≤ b ∧ b < aOn q + mny q ∧ b ≠ aOn q + k)) → rI m4 b j = rI m b j ∧ rJ m4 b j = rJ m b j := fun b j hb => by
      rw [w2.i (by unfold onP; omega), w2.j (by unfold onP; omega)]
      exact z03 b j (by omega)
    have hH4 : HdG q m4 := ⟨by rw [(st _ _ (by omega)).1]; exact hH.1, by rw [(st _ _ (by omega)).1]; exact hH.2.1, by rw [(st _ _ (by omega)).1]; exact hH.2.2.1, fun j hj => by rw [(st _ _ (by omega)).1]; exact hH.2.2.2 j hj⟩
    have hU4 : NuG q m4 := ⟨fun j hj => by rw [(st _ _ (by omega)).1, (st _ _ (by omega)).1]; exact hU.1 j hj, fun size code a1 a2 a3 => by rw [(st _ _ (by omega)).1]; exact hU.2.1 size code a1 a2 a3, fun j hj => by rw [(st _ _ (by omega)).1]; exact hU.2.2 j hj⟩
    obtain ⟨κ', m', j1, j2, j3, j4, j5, j6, j7⟩ := g_net_l hN d (k + 1) n (kR κ2 (aNs q) k (aNt q + 3 * k)) m4 (by omega) (by omega) p3 hC3 (fun j hj => by
      by_cases v : j = k
      · rw [v]; exact r3
      · exact kk _ _ _ (hR j (by omega))) (fun b j v h1 h2 e => by
      by_cases w : b < aNt q + 3 * k
      · exact kk _ _ _ (hp b j v h1 w e)
      · exact k3 _ _ _ (c2 b j v (by omega) (by omega) e)) hH4 hU4 (fun j hj => by
      by_cases v : j = k
      · rw [v]
        exact ⟨w3, w4⟩
      · have hh := hI j (by omega)
        exact ⟨⟨by rw [(st _ _ (by omega)).1]; exact hh.1.1, hh.1.2.1, fun i hi => by rw [(st _ _ (by omega)).1]; exact hh.1.2.2 i hi⟩, fun i hi => by rw [(st _ _ (by omega)).1]; exact hh.2 i hi⟩)
    refine ⟨κ', m', ?_, j2, kk.tr j3, j4, j5, fun b j hb => by rw [(j6 b j hb).1, (j6 b j hb).2]; exact st b j (Or.inl hb), j7⟩
    refine Eq.trans u_H_X1_init_111 ?_
    refine e_f (by rw [nI_leI (by omega) (by omega)]; omega) ?_
    refine k_ldR (hP.o (by omega) s1) (hC _ _ _ (Or.inl rfl) gR5) ?_
    refine k_nwO ?_
    rw [hP.n]
    refine e_bnd x1 ?_
    refine k_asR (aGat (p2.at (by omega) s7)) (p2.o (by omega) nS.2.1) (Or.inl ⟨rfl, rfl⟩) rfl (by omega) ?_
    refine k_ldR hF3.1.1 hNt.1.1 ?_
    refine k_alR (aGat hNt.2.1) (by decide) rfl (by omega) r3 ?_
    refine k_ldR hF3.1.1 hF3.2.1.1 ?_
    refine k_alIV (aGat hF3.2.2.1) rfl (by omega) (show rI m2 (aSz q) k = nI (sz_ q k) by rw [(z02 _ _ (by omega)).1]; exact (hU.1 k hkm).1) ?_
    refine k_ldR hF3.1.1 hF3.2.1.2.1 ?_
    refine k_alIV (aGat hF3.2.2.2.1) rfl (by omega) (show rI m2 (aCd q) k = nI (cd_ q k) by rw [(z02 _ _ (by omega)).1]; exact (hU.1 k hkm).2) ?_
    refine e_bnd y1 ?_
    exact w1.trans j1
end NETS
