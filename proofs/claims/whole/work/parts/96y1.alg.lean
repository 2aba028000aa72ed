section UROWS
theorem u_J_X0_init_174 {N : Nat} {k97 : Nat → Nat → Nat → Int32 → vS → Option (Unit × vS)} {k140 : Nat → Nat → Nat → Int32 → Nat → Int32 → Int32 → vS → Option (Unit × vS)} {a0 : Nat} {a1 : Nat} {a2 : Nat} {l3 : Int32} {a4 : Nat} {l5 : Int32} {l6 : Int32} {s : vS} : J_X0_init_174 N k97 k140 a0 a1 a2 l3 a4 l5 l6 s = (nm (l6 + (1 : Int32)) (fun l6_27 => k140 a0 a1 a2 l3 a4 l5 l6_27 s)) := rfl
theorem u_H_X0_init_140 {N : Nat} {k97 : Nat → Nat → Nat → Int32 → vS → Option (Unit × vS)} {n : Nat} {a0 : Nat} {a1 : Nat} {a2 : Nat} {l3 : Int32} {a4 : Nat} {l5 : Int32} {l6 : Int32} {s : vS} : H_X0_init_140 N k97 (n + 1) a0 a1 a2 l3 a4 l5 l6 s = (ldI s a4 3 0 (fun v22 => if v22 ≤ l6 then (nm (l3 + (1 : Int32)) (fun l3_23 => k97 a0 a1 a2 l3_23 s)) else (bnd (F_X1_numberOn N a2 a4 l5 l6 s) (fun v24 s => if v24 = l3 then (ldR s a0 0 3 (fun r25 => alI s r25 l3 (fun v26 => asI s r25 l3 (v26 + (1 : Int32)) (fun s => J_X0_init_174 N k97 (H_X0_init_140 N k97 n) a0 a1 a2 l3 a4 l5 l6 s)))) else (J_X0_init_174 N k97 (H_X0_init_140 N k97 n) a0 a1 a2 l3 a4 l5 l6 s))))) := rfl
theorem u_H_X0_init_97 {N : Nat} {n : Nat} {a0 : Nat} {a1 : Nat} {a2 : Nat} {l3 : Int32} {s : vS} : H_X0_init_97 N (n + 1) a0 a1 a2 l3 s = (if (29 : Int32) ≤ l3 then (some ((), s)) else (ldR s a2 1 5 (fun r16 => alR s r16 4 l3 (fun r17 => ldI s r17 3 0 (fun v18 => nm ((((1 : Int32) <<< (v18 &&& 31)) - (1 : Int32))) (fun l5_19 => ldR s a0 0 2 (fun r20 => bnd (F_X1_numberOn N a1 r17 l5_19 (-1 : Int32) s) (fun v21 s => asI s r20 l3 v21 (fun s => H_X0_init_140 N (H_X0_init_97 N n) N a0 a1 a2 l3 r17 l5_19 (0 : Int32) s))))))))) := rfl
theorem u_F_X0_init {N : Nat} {a0 : Nat} {a1 : Nat} {a2 : Nat} {s : vS} : F_X0_init N a0 a1 a2 s = (rcv s a0 0 (nwA s 1 (29 : Int32) (fun q1 s => stR s a0 0 2 q1 (fun s => nwA s 1 (29 : Int32) (fun q2 s => stR s a0 0 3 q2 (fun s => nwO s 6 (fun q3 s => bnd (F_X6_init N q3 s) (fun v4 s => stR s a0 0 4 q3 (fun s => nwO s 2 (fun q5 s => bnd (F_X2_init N q5 s) (fun v6 s => stR s a0 0 5 q5 (fun s => nwO s 2 (fun q7 s => bnd (F_X2_init N q7 s) (fun v8 s => stR s a0 0 6 q7 (fun s => nwO s 6 (fun q9 s => bnd (F_X6_init N q9 s) (fun v10 s => stR s a0 0 7 q9 (fun s => stR s a0 0 0 a1 (fun s => stR s a0 0 1 a2 (fun s => ldR s a0 0 6 (fun r11 => bnd (F_X2_become N r11 (1 : Int64) (1 : Int64) s) (fun v12 s => ldR s a0 0 7 (fun r13 => ldR s a0 0 6 (fun r14 => bnd (F_X6_take N r13 (0 : Int32) r14 s) (fun v15 s => H_X0_init_97 N N a0 a1 a2 (0 : Int32) s))))))))))))))))))))))))) := rfl
end UROWS
section ALG2
variable {N k : Nat} {m m' : vM} {s : vS} {κ κ' : (Nat × Nat) × (Nat → Nat × Nat) × (Nat → Nat → Option Nat)}
/-- the tables of a family, of both -/
def FmQ (q : Bool) (m : vM) : Prop := HdG q m ∧ NuG q m ∧ ∀ j, j < mny q → NetIs m (aNt q + 3 * j) (sz_ q j) (rowT q j) ∧ ∀ i, i < 2 ^ sz_ q j → rI m (aOn q + j) i = onv q j i
def FmG (m : vM) : Prop := ∀ q, FmQ q m
theorem foq (q : Bool) : (fo q = 1 ∧ mny q = 19) ∨ (fo q = 92 ∧ mny q = 29) := by
  cases q
  · exact Or.inl ⟨rfl, rfl⟩
  · exact Or.inr ⟨rfl, rfl⟩
theorem FmQ.fr {q : Bool} (h : FmQ q m) (f : ∀ b j, fo q ≤ b → b < aNt q + 3 * mny q → (∀ k, b ≠ 138 + 3 * k) → rI m' b j = rI m b j) : FmQ q m' := by
  obtain ⟨⟨d1, d2, d3, d4, d5, d6⟩, d7⟩ := adr2 q
  obtain ⟨b1, b2', b3, b4⟩ := adr3 q
  have hq := foq q
  obtain ⟨⟨h1, h2, h3, h4⟩, ⟨h5, h6, h7⟩, h8⟩ := h
  refine ⟨⟨?_, ?_, ?_, fun j hj => ?_⟩, ⟨fun k hk => ⟨?_, ?_⟩, fun size code a1 a2 a3 => ?_, fun j hj => ?_⟩, fun j hj => ⟨⟨?_, (h8 j hj).1.2.1, fun i hi => ?_⟩, fun i hi => ?_⟩⟩
  · rw [f _ _ (by omega) (by omega) (fun k => by omega)]; exact h1
  · rw [f _ _ (by omega) (by omega) (fun k => by omega)]; exact h2
  · rw [f _ _ (by omega) (by omega) (fun k => by omega)]; exact h3
  · rw [f _ _ (by omega) (by omega) (fun k => by omega)]; exact h4 j hj
  · rw [f _ _ (by omega) (by omega) (fun k => by omega)]; exact (h5 k hk).1
  · rw [f _ _ (by omega) (by omega) (fun k => by omega)]; exact (h5 k hk).2
  · rw [f _ _ (by omega) (by omega) (fun k => by omega)]; exact h6 size code a1 a2 a3
  · rw [f _ _ (by omega) (by omega) (fun k => by omega)]; exact h7 j hj
  · rw [f _ _ (by omega) (by omega) (fun k => by omega)]; exact (h8 j hj).1.1
  · rw [f _ _ (by omega) (by omega) (fun k => by omega)]; exact (h8 j hj).1.2.2 i hi
  · rw [f _ _ (by omega) (by omega) (fun k => by omega)]; exact (h8 j hj).2 i hi
theorem FmG.fr (h : FmG m) (f : ∀ b j, 0 < b → b < 223 → (∀ k, b ≠ 138 + 3 * k) → rI m' b j = rI m b j) : FmG m' := fun q => (h q).fr (fun b j h1 h2 h3 => f b j (by
  have hq := foq q
  omega) (by
  obtain ⟨⟨d1, d2, d3, d4, d5, d6⟩, d7⟩ := adr2 q
  obtain ⟨b1, b2', b3, b4⟩ := adr3 q
  have hq := foq q
  omega) h3)
theorem wyk2 : ∀ r, r < 29 → cnt (fun i => nOn true (sz_ true r) (rowT true r) (2 ^ sz_ true r - 1) (some i) = r) (sz_ true r) = wy_ r := by decide +kernel
theorem bak2 : ∀ r, r < 29 → (nOn false (sz_ true r) (rowT true r) (2 ^ sz_ true r - 1) none = ba_ r ∧ pop (2 ^ sz_ true r - 1) = sz_ true r ∧ 1 ≤ sz_ true r ∧ sz_ true r ≤ 4) ∧ ∀ i, i < sz_ true r → rootIn (2 ^ sz_ true r - 1) (some i) = true ∧ nOn true (sz_ true r) (rowT true r) (2 ^ sz_ true r - 1) (some i) < 29 := by decide +kernel
theorem algS : (isOc 223 0 = true ∧ SHf 224 = (1, 29) ∧ SHf 225 = (1, 29) ∧ SHf 226 = (0, 6) ∧ SHf 229 = (0, 2) ∧ SHf 230 = (0, 2) ∧ SHf 231 = (0, 6) ∧ isOc 229 2 = true ∧ isOc 230 2 = true ∧ isOc 231 6 = true) ∧ rrL.getD 223 [] = [some 1, some 92, some 224, some 225, some 226, some 229, some 230, some 231] ∧ rrL.getD 224 [] = [] ∧ rrL.getD 225 [] = [] ∧ rrL.getD 229 [] = [] ∧ rrL.getD 230 [] = [] := by decide +kernel
theorem ssh226 : SumSh 226 := by
  unfold SumSh
  decide +kernel
theorem ssh231 : SumSh 231 := by
  unfold SumSh
  decide +kernel
/-- what the algebra's loops rest on -/
theorem al_net (hP : Pr k κ) (hk : 226 ≤ k) (hC : Cp 1 k κ) {r : Nat} (hr : r < 29) : NetG κ (136 + 3 * r) ∧ κ.2.2 92 5 = some 103 ∧ (103 < κ.1.1 ∧ κ.2.1 103 = (4, 29)) ∧ κ.2.2 103 r = some (136 + 3 * r) ∧ oG κ 92 1 = true := by
  have nS : NetS (136 + 3 * r) := (netS true r hr).1
  obtain ⟨s1, s2, s3, s4, s5⟩ := id nS
  obtain ⟨t1, t2⟩ := shq true
  refine ⟨⟨⟨hP.o (by omega) s2, hC _ _ _ (by omega) (by omega) nS.r1, hC _ _ _ (by omega) (by omega) nS.r2⟩, hP.at (by omega) s3, hP.at (by omega) s4⟩, hC _ _ _ (by omega) (by omega) rfl, hP.at (by omega) t1.2.2.2.2.2.2.1, hC _ _ _ (by omega) (by omega) (gNsR true r hr), hP.o (by omega) t1.1⟩
theorem al_fam (hP : Pr k κ) (hk : 226 ≤ k) (hC : Cp 1 k κ) (q : Bool) : FamG κ q := by
  obtain ⟨⟨d1, d2, d3, d4, d5, d6⟩, d7⟩ := adr2 q
  obtain ⟨b1, b2', b3, b4⟩ := adr3 q
  have hq := foq q
  exact (FA_of hP (by omega) (fun a j v ha e => hC a j v (by omega) (by omega) e)).1
theorem FmG.tab (h : FmG m) (q : Bool) : TabG q m := ⟨(h q).1.1, (h q).1.2.1, (h q).2.1.2.1⟩
theorem g_ways_l {r : Nat} {k97 : Nat → Nat → Nat → Int32 → vS → Option (Unit × vS)} (hN : 100 ≤ N) (hr : r < 29) (hP : Pr k κ) (hk : 226 ≤ k) (hC : Cp 1 k κ) : ∀ (d i n : Nat) (m : vM), i + d = sz_ true r → d < n → FmG m → rI m 225 r = nI (cnt (fun i => nOn true (sz_ true r) (rowT true r) (2 ^ sz_ true r - 1) (some i) = r) i) →
    ∃ m', H_X0_init_140 N k97 n 223 1 92 (nI r) (136 + 3 * r) (nI (2 ^ sz_ true r - 1)) (nI i) (G κ m) = k97 223 1 92 (nI (r + 1)) (G κ m') ∧ Fr (fun b j => (b = 225 ∧ j = r) ∨ b = 138 + 3 * r) m m' ∧ rI m' 225 r = nI (wy_ r)
  | _, _, 0, _, _, h, _, _ => by omega
  | 0, i, n + 1, m, hi, _, hF, hc => by
    obtain ⟨nG, r5, a103, r103, o92⟩ := al_net hP hk hC hr
    refine ⟨m, ?_, Fr.rf, ?_⟩
    · refine Eq.trans u_H_X0_init_140 ?_
      refine k_ldIV nG.o (show rI m (136 + 3 * r) 0 = nI (sz_ true r) from ((hF true).2.2 r hr).1.1) ?_
      refine e_t (by rw [show i = sz_ true r by omega]; exact Int32.le_refl _) ?_
      refine e_nm ?_
      rw [addR]
    · rw [hc, show i = sz_ true r by omega, wyk2 r hr]
  | d + 1, i, n + 1, m, hi, hd, hF, hc => by
    obtain ⟨nG, r5, a103, r103, o92⟩ := al_net hP hk hC hr
    obtain ⟨⟨z1, z2, z3, z4⟩, z5⟩ := bak2 r hr
    have zi := z5 i (by omega)
    have hp2 : (2 : Nat) ^ sz_ true r ≤ 2 ^ 4 := Nat.pow_le_pow_right (by decide) (by omega)
    have hp1 : 1 ≤ (2 : Nat) ^ sz_ true r := Nat.one_le_two_pow
    have hnet : NetIs m (136 + 3 * r) (sz_ true r) (rowT true r) := ((hF true).2.2 r hr).1
    obtain ⟨m1, g1, g2⟩ := gc_numberOn (N := N) (q := true) (a := 136 + 3 * r) (set := 2 ^ sz_ true r - 1) (root := some i) hN (al_fam hP hk hC true) (hF.tab true) (by
      show 136 + 3 * r + 2 ≠ 92 ∧ ∀ k, k < 5 → 136 + 3 * r + 2 ≠ 95 + k
      exact ⟨by omega, fun k _ => by omega⟩) nG hnet (by omega) rfl (fun x hx => by cases hx; omega)
    rw [if_pos ⟨by rw [z2]; exact z3, by rw [z2]; exact z4, zi.1⟩] at g1
    have g1 : F_X1_numberOn N 92 (136 + 3 * r) (nI (2 ^ sz_ true r - 1)) (nI i) (G κ m) = some (nI (nOn true (sz_ true r) (rowT true r) (2 ^ sz_ true r - 1) (some i)), G κ m1) := g1
    have hc1 : rI m1 225 r = nI (cnt (fun i => nOn true (sz_ true r) (rowT true r) (2 ^ sz_ true r - 1) (some i) = r) i) := by rw [g2.i (by omega)]; exact hc
    have hF1 : FmG m1 := hF.fr (fun b j _ hb hk => g2.i (by have := hk r; omega))
    have hsz : rI m (136 + 3 * r) 0 = nI (sz_ true r) := hnet.1
    by_cases z : nOn true (sz_ true r) (rowT true r) (2 ^ sz_ true r - 1) (some i) = r
    · obtain ⟨m', j1, j2, j3⟩ := g_ways_l (k97 := k97) hN hr hP hk hC d (i + 1) n (wI m1 225 r (nI (cnt (fun i => nOn true (sz_ true r) (rowT true r) (2 ^ sz_ true r - 1) (some i) = r) i) + 1)) (by omega) (by omega) (hF1.fr (fun b j _ hb hk => rI_n _ _ (by omega))) (by rw [rI_s, addR, cnt, if_pos z])
      refine ⟨m', ?_, (g2.mo (fun b j h => Or.inr (by omega))).tr (j2.pI (Or.inl ⟨rfl, rfl⟩)), j3⟩
      refine Eq.trans u_H_X0_init_140 ?_
      refine k_ldIV nG.o hsz ?_
      refine e_f (by rw [nI_leI (by omega) (by omega)]; omega) ?_
      refine e_bnd g1 ?_
      refine e_t (by rw [z]) ?_
      refine k_ldR (hP.o (by omega) algS.1.1) (hC _ _ _ (by omega) (by omega) rfl) ?_
      refine k_alIV (aGat (hP.at (a := 225) (by omega) algS.1.2.2.1)) rfl (by omega) hc1 ?_
      refine k_asI (aGat (hP.at (a := 225) (by omega) algS.1.2.2.1)) rfl (by omega) ?_
      unfold J_X0_init_174
      refine e_nm ?_
      rw [addR 1 i]
      exact j1
    · obtain ⟨m', j1, j2, j3⟩ := g_ways_l (k97 := k97) hN hr hP hk hC d (i + 1) n m1 (by omega) (by omega) hF1 (by rw [hc1, cnt, if_neg z]; rfl)
      refine ⟨m', ?_, (g2.mo (fun b j h => Or.inr (by omega))).tr j2, j3⟩
      refine Eq.trans u_H_X0_init_140 ?_
      refine k_ldIV nG.o hsz ?_
      refine e_f (by rw [nI_leI (by omega) (by omega)]; omega) ?_
      refine e_bnd g1 ?_
      refine e_f (by rw [nI_eq (by omega) (by omega)]; exact z) ?_
      unfold J_X0_init_174
      refine e_nm ?_
      rw [addR 1 i]
      exact j1
def agP (b : Nat) : Prop := b = 224 ∨ b = 225 ∨ ∃ k, b = 138 + 3 * k ∧ k < 29
theorem g_algi_l (hN : 100 ≤ N) (hP : Pr k κ) (hk : 226 ≤ k) (hC : Cp 1 k κ) : ∀ (d r n : Nat) (m : vM), r + d = 29 → d < n → FmG m → (∀ j, j < r → rI m 224 j = nI (ba_ j) ∧ rI m 225 j = nI (wy_ j)) → (∀ j, r ≤ j → rI m 225 j = 0) →
    ∃ m', H_X0_init_97 N n 223 1 92 (nI r) (G κ m) = some ((), G κ m') ∧ Fr (fun b _ => agP b) m m' ∧ ∀ j, j < 29 → rI m' 224 j = nI (ba_ j) ∧ rI m' 225 j = nI (wy_ j)
  | _, _, 0, _, _, h, _, _, _ => by omega
  | 0, r, n + 1, m, hr, _, hF, h1, h2 => by
    refine ⟨m, ?_, Fr.rf, fun j hj => h1 j (by omega)⟩
    refine Eq.trans u_H_X0_init_97 ?_
    exact e_t (by rw [leL (by decide) (by omega)]; show 29 ≤ r; omega) rfl
  | d + 1, r, n + 1, m, hr, hd, hF, h1, h2 => by
    have hr29 : r < 29 := by omega
    obtain ⟨nG, r5, a103, r103, o92⟩ := al_net hP hk hC hr29
    obtain ⟨⟨z1, z2, z3, z4⟩, z5⟩ := bak2 r hr29
    have hp2 : (2 : Nat) ^ sz_ true r ≤ 2 ^ 4 := Nat.pow_le_pow_right (by decide) (by omega)
    have hp1 : 1 ≤ (2 : Nat) ^ sz_ true r := Nat.one_le_two_pow
    have hnet : NetIs m (136 + 3 * r) (sz_ true r) (rowT true r) := ((hF true).2.2 r hr29).1
    obtain ⟨m1, g1, g2⟩ := gc_numberOn (N := N) (q := false) (a := 136 + 3 * r) (set := 2 ^ sz_ true r - 1) (root := none) hN (al_fam hP hk hC false) (hF.tab false) (by
      show 136 + 3 * r + 2 ≠ 1 ∧ ∀ k, k < 5 → 136 + 3 * r + 2 ≠ 4 + k
      exact ⟨by omega, fun k _ => by omega⟩) nG hnet (by omega) rfl (fun x hx => by cases hx)
    rw [if_pos ⟨Nat.zero_le _, by rw [z2]; exact z4, rfl⟩, z1] at g1
    have g1 : F_X1_numberOn N 1 (136 + 3 * r) (nI (2 ^ sz_ true r - 1)) (-1) (G κ m) = some (nI (ba_ r), G κ m1) := g1
    have hF1 : FmG m1 := hF.fr (fun b j _ hb hk => g2.i (by have := hk r; omega))
    obtain ⟨m2, j1, j2, j3⟩ := g_ways_l (N := N) (k97 := H_X0_init_97 N n) hN hr29 hP hk hC (sz_ true r) 0 N (wI m1 224 r (nI (ba_ r))) (by omega) (by omega) (hF1.fr (fun b j _ hb hk => rI_n _ _ (by omega))) (by rw [rI_n _ _ (by omega), g2.i (by omega), h2 r (Nat.le_refl _)]; rfl)
    have hF2 : FmG m2 := hF1.fr (fun b j _ hb hk => by rw [j2.i (by have := hk r; omega), rI_n _ _ (by omega)])
    obtain ⟨m', i1, i2, i3⟩ := g_algi_l hN hP hk hC d (r + 1) n m2 (by omega) (by omega) hF2 (fun j hj => by
      by_cases w : j = r
      · rw [w]
        exact ⟨by rw [j2.i (by omega), rI_s], j3⟩
      · rw [j2.i (by omega), j2.i (by omega), rI_n _ _ (by omega), rI_n _ _ (by omega), g2.i (by omega), g2.i (by omega)]
        exact h1 j (by omega)) (fun j hj => by
      rw [j2.i (by omega), rI_n _ _ (by omega), g2.i (by omega)]
      exact h2 j (by omega))
    have q2 : Fr (fun b _ => agP b) m m1 := g2.mo (fun b j h => Or.inr (Or.inr ⟨r, by omega, hr29⟩))
    have q3 : Fr (fun b _ => agP b) (wI m1 224 r (nI (ba_ r))) m2 := j2.mo (fun b j h => by
      rcases h with h | h
      · exact Or.inr (Or.inl h.1)
      · exact Or.inr (Or.inr ⟨r, h, hr29⟩))
    refine ⟨m', ?_, (q2.tr (q3.pI (Or.inl rfl))).tr i2, i3⟩
    refine Eq.trans u_H_X0_init_97 ?_
    refine e_f (by rw [leL (by decide) (by omega)]; show ¬ 29 ≤ r; omega) ?_
    refine k_ldR o92 r5 ?_
    refine k_alR (aGat a103) (by decide) rfl (by omega) r103 ?_
    refine k_ldIV nG.o hnet.1 ?_
    refine e_nm ?_
    rw [shl1 _ (by omega), subR (by show 1 ≤ _; omega)]
    refine k_ldR (hP.o (by omega) algS.1.1) (hC _ _ _ (by omega) (by omega) rfl) ?_
    refine e_bnd g1 ?_
    refine k_asI (aGat (hP.at (a := 224) (by omega) algS.1.2.1)) rfl (by omega) ?_
    exact j1.trans i1
theorem red11 : red 1 1 = (1, 1) := by decide +kernel
theorem i_X0 (hN : 1000 ≤ N) (h : Pr 224 κ) (hC : Cp 1 223 κ) (hF : FmG m) : ∃ κ' m', F_X0_init N 223 1 92 (G κ m) = some ((), G κ' m') ∧ Pr 234 κ' ∧ Kp κ κ' ∧ Cp 223 234 κ' ∧ Fr (fun b _ => 223 ≤ b ∨ ∃ k, b = 138 + 3 * k ∧ k < 29) m m' ∧ (∀ r, r < 29 → rI m' 224 r = nI (ba_ r) ∧ rI m' 225 r = nI (wy_ r)) ∧ rI m' 231 0 = 0 ∧ ∀ k, k < 29 → rowC m' 231 k = (if k = 0 then 1 else 0, 1) := by
  obtain ⟨⟨s1, s2, s3, s4, s5, s6, s7, s8, s9, s10⟩, sr, s224, s225, s229, s230⟩ := algS
  obtain ⟨p1, k1⟩ := h.new (d := (1, 29)) (w := 29) s2 rfl
  obtain ⟨p2, k2, r2⟩ := p1.ref (a := 223) (j := 2) (v := 224) (by omega) rfl
  obtain ⟨p3, k3⟩ := p2.new (d := (1, 29)) (w := 29) s3 rfl
  obtain ⟨p4, k4, r4⟩ := p3.ref (a := 223) (j := 3) (v := 225) (by omega) rfl
  obtain ⟨p5, k5⟩ := p4.new (d := (0, 6)) (w := vN 6) s4 rfl
  obtain ⟨κ6, m6, x6, p6, k6, c6, z6, y6⟩ := i_X6 (N := N) (a := 226) (m := zM (zM (zM m 224) 225) 226) (by omega) ssh226 p5
  obtain ⟨p7, k7, r7⟩ := p6.ref (a := 223) (j := 4) (v := 226) (by omega) rfl
  obtain ⟨p8, k8⟩ := p7.new (d := (0, 2)) (w := vN 2) s5 rfl
  have x8 := i_X2 (N := N) (a := 229) (m := zM m6 229) s8 p8
  obtain ⟨p9, k9, r9⟩ := p8.ref (a := 223) (j := 5) (v := 229) (by omega) rfl
  obtain ⟨p10, k10⟩ := p9.new (d := (0, 2)) (w := vN 2) s6 rfl
  obtain ⟨mA, hmA⟩ : ∃ mA, mA = wJ (wJ (zM (wJ (wJ (zM m6 229) 229 0 0) 229 1 1) 230) 230 0 0) 230 1 1 := ⟨_, rfl⟩
  have x10 := i_X2 (N := N) (a := 230) (m := zM (wJ (wJ (zM m6 229) 229 0 0) 229 1 1) 230) s9 p10
  rw [← hmA] at x10
  obtain ⟨p11, k11, r11⟩ := p10.ref (a := 223) (j := 6) (v := 230) (by omega) rfl
  obtain ⟨p12, k12⟩ := p11.new (d := (0, 6)) (w := vN 6) s7 rfl
  obtain ⟨κ13, m13, x13, p13, k13, c13, z13, y13⟩ := i_X6 (N := N) (a := 231) (m := zM mA 231) (by omega) ssh231 p12
  obtain ⟨p14, k14, r14⟩ := p13.ref (a := 223) (j := 7) (v := 231) (by omega) rfl
  obtain ⟨p15, k15, r15⟩ := p14.ref (a := 223) (j := 0) (v := 1) (by omega) rfl
  obtain ⟨p16, k16, r16⟩ := p15.ref (a := 223) (j := 1) (v := 92) (by omega) rfl
  have t14 := k15.tr k16
  have t12 := (k13.tr k14).tr t14
  have t11 := k12.tr t12
  have t9 := (k10.tr k11).tr t11
  have t7 := (k8.tr k9).tr t9
  have t5 := (k6.tr k7).tr t7
  have t4 := k5.tr t5
  have t2 := (k3.tr k4).tr t4
  have tt := (k1.tr k2).tr t2
  have cc : Cp 223 234 (kR (kR (kR κ13 223 7 231) 223 0 1) 223 1 92) := fun a j v h1 h2 e => by
    rcases (show a = 223 ∨ a = 224 ∨ a = 225 ∨ (226 ≤ a ∧ a < 229) ∨ a = 229 ∨ a = 230 ∨ 231 ≤ a by omega) with rfl | rfl | rfl | w | rfl | rfl | w
    · have hl := rr_in sr e
      match j, hl with
      | 0, hl => rw [← Option.some.inj hl.2]; exact k16 _ _ _ r15
      | 1, hl => rw [← Option.some.inj hl.2]; exact r16
      | 2, hl => rw [← Option.some.inj hl.2]; exact t2 _ _ _ r2
      | 3, hl => rw [← Option.some.inj hl.2]; exact t4 _ _ _ r4
      | 4, hl => rw [← Option.some.inj hl.2]; exact t7 _ _ _ r7
      | 5, hl => rw [← Option.some.inj hl.2]; exact t9 _ _ _ r9
      | 6, hl => rw [← Option.some.inj hl.2]; exact t11 _ _ _ r11
      | 7, hl => rw [← Option.some.inj hl.2]; exact t14 _ _ _ r14
      | n + 8, hl => exact absurd hl.1 (by show ¬ n + 8 < 8; omega)
    · exact absurd e (rr_0 s224)
    · exact absurd e (rr_0 s225)
    · exact (k7.tr t7) _ _ _ (c6 a j v w.1 w.2 e)
    · exact absurd e (rr_0 s229)
    · exact absurd e (rr_0 s230)
    · exact (k14.tr t14) _ _ _ (c13 a j v w h2 e)
  have ca : Cp 1 234 (kR (kR (kR κ13 223 7 231) 223 0 1) 223 1 92) := fun a j v h1 h2 e => by
    by_cases w : a < 223
    · exact tt _ _ _ (hC a j v h1 w e)
    · exact cc a j v (by omega) h2 e
  -- the unit
  obtain ⟨mB, hmB⟩ : ∃ mB, mB = wJ (wJ (wF m13 230 (1, 1)) 232 0 1) 233 0 1 := ⟨_, rfl⟩
  have zA : Fz 226 (zM (zM m 224) 225) mA := by
    rw [hmA]
    exact ((((((Fz_z (k := 226) (by omega)).tr z6 (Nat.le_refl _)).tr (Fz_z (k := 226) (by omega)) (Nat.le_refl _)).tr (Fz_J (k := 226) (by omega)) (Nat.le_refl _)).tr (Fz_J (k := 226) (by omega)) (Nat.le_refl _)).tr (Fz_z (k := 226) (by omega)) (Nat.le_refl _)).tr ((Fz_J (k := 226) (by omega)).tr (Fz_J (k := 226) (by omega)) (Nat.le_refl _)) (Nat.le_refl _)
  have zB : Fz 226 (zM (zM m 224) 225) mB := by
    rw [hmB]
    exact ((((zA.tr (Fz_z (k := 226) (by omega)) (Nat.le_refl _)).tr z13 (by omega)).tr ((Fz_J (k := 226) (by omega)).tr (Fz_J (k := 226) (by omega)) (Nat.le_refl _)) (Nat.le_refl _)).tr (Fz_J (k := 226) (by omega)) (Nat.le_refl _)).tr (Fz_J (k := 226) (by omega)) (Nat.le_refl _)
  have eB : ∀ b j, b < 224 → rI mB b j = rI m b j ∧ rJ mB b j = rJ m b j := fun b j hb => by
    rw [(zB b j (by omega)).1, (zB b j (by omega)).2, zM_I, if_neg (by omega), zM_I, if_neg (by omega), zM_J, if_neg (by omega), zM_J, if_neg (by omega)]
    exact ⟨rfl, rfl⟩
  obtain ⟨m', l1, l2, l3⟩ := g_algi_l (N := N) (by omega) p16 (by omega) ca 29 0 N mB rfl (by omega) (hF.fr (fun b j _ hb _ => (eB b j (by omega)).1)) (fun j hj => absurd hj (Nat.not_lt_zero _)) (fun j _ => by rw [(zB _ _ (by omega)).1, zM_I, if_pos rfl])
  refine ⟨_, m', ?_, p16, tt, cc, fun b j hb => ?_, l3, ?_, fun k hk => ?_⟩
  · unfold F_X0_init
    refine k_rcv (h.o (by omega) s1) ?_
    refine k_nwA (n := 29) rfl (by omega) ?_
    rw [h.n]
    refine k_stR (p1.o (by omega) s1) ?_
    refine k_nwA (n := 29) rfl (by omega) ?_
    rw [p2.n]
    refine k_stR (p3.o (by omega) s1) ?_
    refine k_nwO ?_
    rw [p4.n]
    refine e_bnd x6 ?_
    refine k_stR (p6.o (by omega) s1) ?_
    refine k_nwO ?_
    rw [p7.n]
    refine e_bnd x8 ?_
    refine k_stR (p8.o (by omega) s1) ?_
    refine k_nwO ?_
    rw [p9.n]
    refine e_bnd x10 ?_
    refine k_stR (p10.o (by omega) s1) ?_
    refine k_nwO ?_
    rw [p11.n]
    refine e_bnd x13 ?_
    refine k_stR (p13.o (by omega) s1) ?_
    refine k_stR (p14.o (by omega) s1) ?_
    refine k_stR (p15.o (by omega) s1) ?_
    refine k_ldR (p16.o (by omega) s1) (t11 _ _ _ r11) ?_
    refine e_bnd (g_become (p16.o (by omega) s9) (by omega) (by decide)) ?_
    rw [red11]
    refine k_ldR (p16.o (by omega) s1) (t14 _ _ _ r14) ?_
    refine k_ldR (p16.o (by omega) s1) (t11 _ _ _ r11) ?_
    refine e_bnd (g_take (a := 231) (f := 230) (i := 0) (p := (1, 1)) (p16.o (by omega) s10) (cc _ _ _ (by omega) (by omega) ssh231.r1) (cc _ _ _ (by omega) (by omega) ssh231.r2) (p16.at (by omega) ssh231.2.2.1) (p16.at (by omega) ssh231.2.2.2.1) (p16.o (by omega) s9) (by omega) (by omega) (by
      show rJ (wJ (wJ m13 230 0 1) 230 1 1) 230 0 = 1
      rw [rJ_n _ _ (by omega), rJ_s]) (by
      show rJ (wJ (wJ m13 230 0 1) 230 1 1) 230 1 = 1
      rw [rJ_s])) ?_
    rw [hmB] at l1
    exact l1
  · have hb1 : b < 223 := by
      rcases Nat.lt_or_ge b 223 with w | w
      · exact w
      · exact absurd (Or.inl w) hb
    have hb2 : ¬ agP b := fun w => by
      rcases w with w | w | w
      · omega
      · omega
      · exact hb (Or.inr w)
    rw [l2.i hb2, l2.j hb2]
    exact eB b j (by omega)
  · have na : ¬ agP 231 := fun w => by
      rcases w with w | w | ⟨k, w, w2⟩ <;> omega
    rw [l2.i na, hmB]
    show rI m13 231 0 = 0
    rw [y13.1]
    rfl
  · have na : ¬ agP 232 ∧ ¬ agP 233 := ⟨fun w => by rcases w with w | w | ⟨k, w, w2⟩ <;> omega, fun w => by rcases w with w | w | ⟨k, w, w2⟩ <;> omega⟩
    have y := y13.2 k hk
    have y1 : rJ m13 232 k = 0 := congrArg Prod.fst y
    have y2 : rJ m13 233 k = 1 := congrArg Prod.snd y
    show (rJ m' 232 k, rJ m' 233 k) = _
    rw [l2.j na.1, l2.j na.2, hmB]
    show (rJ (wJ (wJ (wJ (wJ m13 230 0 1) 230 1 1) 232 0 1) 233 0 1) 232 k, rJ (wJ (wJ (wJ (wJ m13 230 0 1) 230 1 1) 232 0 1) 233 0 1) 233 k) = _
    by_cases w : k = 0
    · subst w
      rw [rJ_n _ _ (by omega), rJ_s, rJ_s]
      rfl
    · rw [rJ_n _ _ (by omega), rJ_n _ _ (by omega), rJ_n _ _ (by omega), rJ_n _ _ (by omega), rJ_n _ _ (by omega), rJ_n _ _ (by omega), rJ_n _ _ (by omega), rJ_n _ _ (by omega), y1, y2, if_neg w]
end ALG2
