section UROWS
theorem u_J_X9_greatest_40 {N : Nat} {k5 : Nat → Int32 → Int32 → Int32 → vS → Option (Int32 × vS)} {a0 : Nat} {l1 : Int32} {l3 : Int32} {k0 : Int32} {s : vS} : J_X9_greatest_40 N k5 a0 l1 l3 k0 s = (nm (l3 + (1 : Int32)) (fun l3_4 => k5 a0 l1 k0 l3_4 s)) := rfl
theorem u_J_X9_greatest_39 {N : Nat} {k5 : Nat → Int32 → Int32 → Int32 → vS → Option (Int32 × vS)} {a0 : Nat} {l1 : Int32} {l2 : Int32} {l3 : Int32} {s : vS} : J_X9_greatest_39 N k5 a0 l1 l2 l3 s = (J_X9_greatest_40 N k5 a0 l1 l3 l2 s) := rfl
theorem u_H_X9_greatest_5 {N : Nat} {n : Nat} {a0 : Nat} {l1 : Int32} {l2 : Int32} {l3 : Int32} {s : vS} : H_X9_greatest_5 N (n + 1) a0 l1 l2 l3 s = (if (29 : Int32) ≤ l3 then (some (l2, s)) else (bnd (F_X9_isTerm N a0 l1 l3 s) (fun v1 s => if v1 = (0 : Int32) then (J_X9_greatest_39 N (H_X9_greatest_5 N n) a0 l1 l2 l3 s) else (bnd (F_X9_sizeIn N a0 l1 l3 s) (fun v2 s => if v2 ≤ l2 then (J_X9_greatest_39 N (H_X9_greatest_5 N n) a0 l1 l2 l3 s) else (bnd (F_X9_sizeIn N a0 l1 l3 s) (fun v3 s => J_X9_greatest_40 N (H_X9_greatest_5 N n) a0 l1 l3 v3 s))))))) := rfl
theorem u_F_X9_greatest {N : Nat} {a0 : Nat} {l1 : Int32} {s : vS} : F_X9_greatest N a0 l1 s = (rcv s a0 9 (H_X9_greatest_5 N N a0 l1 (-5 : Int32) (0 : Int32) s)) := rfl
theorem u_F_X9_plainOf {N : Nat} {a0 : Nat} {l1 : Int32} {s : vS} : F_X9_plainOf N a0 l1 s = (rcv s a0 9 (ldR s a0 9 2 (fun r1 => ldR s a0 9 0 (fun r2 => alI s r2 ((19 : Int32) + l1) (fun v3 => ldR s a0 9 1 (fun r4 => alI s r4 ((19 : Int32) + l1) (fun v5 => alI s r1 (((64 : Int32) * v3) + v5) (fun v6 => some (v6, s))))))))) := rfl
end UROWS
/-! averaged sums, the greatest size, what is too great -/
section AVGP
def rw_ (r : Nat) : Fc := red (lN (wy_ r)) (lN (sz_ true r))
abbrev astep (o : Row) : Nat → Option Row → Option Row := fun r X => if (o r).1 = 0 then X else stA (ba_ r) (fmul (o r).1 (o r).2 (rw_ r).1 (rw_ r).2) X
def avgX (o : Row) : Option Row := fld (astep o) 29 0 (some row0)
theorem astep_none {o : Row} (r : Nat) : astep o r none = none := by
  unfold astep
  split <;> rfl
theorem bac : ∀ r, r < 29 → (ba_ r < 19 ∧ sz_ false (ba_ r) = sz_ true r ∧ nu_ false (sz_ true r) (cd_ true r) = ba_ r ∧ 0 < sz_ true r ∧ sz_ true r < 5) := by decide +kernel
theorem wyk : ∀ r, r < 29 → cnt (fun i => nOn true (sz_ false (ba_ r)) (rowT false (ba_ r)) (2 ^ sz_ false (ba_ r) - 1) (some i) = r) (sz_ false (ba_ r)) = wy_ r := by decide +kernel
theorem allb : ∀ n, n < 5 → (pop (2 ^ n - 1) = n ∧ ∀ i, i < n → bt (2 ^ n - 1) i = 1) := by decide +kernel
/-- the greatest size and one more; 0: no terms -/
abbrev grs (q : Bool) (o : Row) : Nat → Nat → Nat := fun i g => if (o i).1 = 0 then g else max g (sz_ q i + 1)
def gr (q : Bool) (o : Row) : Nat := fld (grs q o) (mny q) 0 0
theorem gr_le {q : Bool} {o : Row} : ∀ (d i g : Nat), i + d ≤ mny q → g ≤ 5 → fld (grs q o) d i g ≤ 5 ∧ g ≤ fld (grs q o) d i g ∧ (∀ k, i ≤ k → k < i + d → (o k).1 ≠ 0 → sz_ q k + 1 ≤ fld (grs q o) d i g) ∧ (fld (grs q o) d i g = g ∨ ∃ k, i ≤ k ∧ k < i + d ∧ (o k).1 ≠ 0 ∧ sz_ q k + 1 = fld (grs q o) d i g)
  | 0, i, g, _, hg => ⟨hg, Nat.le_refl _, fun k h1 h2 => by omega, Or.inl rfl⟩
  | d + 1, i, g, hi, hg => by
    have hz := szc q i (by omega)
    have hs : grs q o i g ≤ 5 ∧ g ≤ grs q o i g ∧ ((o i).1 ≠ 0 → sz_ q i + 1 ≤ grs q o i g) ∧ (grs q o i g = g ∨ ((o i).1 ≠ 0 ∧ sz_ q i + 1 = grs q o i g)) := by
      unfold grs
      by_cases z : (o i).1 = 0
      · rw [if_pos z]; exact ⟨hg, Nat.le_refl _, fun w => absurd z w, Or.inl rfl⟩
      · rw [if_neg z]
        refine ⟨by omega, by omega, fun _ => by omega, ?_⟩
        by_cases w : g ≤ sz_ q i + 1
        · exact Or.inr ⟨z, by omega⟩
        · exact Or.inl (by omega)
    obtain ⟨h1, h2, h3, h4⟩ := gr_le (q := q) (o := o) d (i + 1) (grs q o i g) (by omega) hs.1
    rw [fld]
    refine ⟨h1, by omega, fun k k1 k2 kn => ?_, ?_⟩
    · by_cases z : k = i
      · subst z
        have := hs.2.2.1 kn
        omega
      · exact h3 k (by omega) (by omega) kn
    · rcases h4 with h4 | ⟨k, k1, k2, k3, k4⟩
      · rcases hs.2.2.2 with w | ⟨w1, w2⟩
        · exact Or.inl (by omega)
        · exact Or.inr ⟨i, Nat.le_refl _, by omega, w1, by omega⟩
      · exact Or.inr ⟨k, by omega, by omega, k3, k4⟩
theorem gr_5 {q : Bool} {o : Row} : gr q o ≤ 5 := (gr_le (mny q) 0 0 (by omega) (by omega)).1
theorem gr_ge {q : Bool} {o : Row} {k : Nat} (hk : k < mny q) (h : (o k).1 ≠ 0) : sz_ q k + 1 ≤ gr q o := (gr_le (mny q) 0 0 (by omega) (by omega)).2.2.1 k (Nat.zero_le _) (by omega) h
theorem gr_at {q : Bool} {o : Row} (h : 0 < gr q o) : ∃ k, k < mny q ∧ (o k).1 ≠ 0 ∧ sz_ q k + 1 = gr q o := by
  rcases (gr_le (q := q) (o := o) (mny q) 0 0 (by omega) (by omega)).2.2.2 with w | ⟨k, _, k2, k3, k4⟩
  · unfold gr at h; omega
  · exact ⟨k, by omega, k3, k4⟩
/-- too great a size -/
def TG (q : Bool) (a b : Nat) : Prop := 1 ≤ a ∧ 1 ≤ b ∧ 6 + sh_ q < a + b
theorem TG_iff {q : Bool} {o p : Row} (io : In q o) (ip : In q p) : TG q (gr q o) (gr q p) ↔ ∃ f g, f < 29 ∧ g < 29 ∧ (o f).1 ≠ 0 ∧ (p g).1 ≠ 0 ∧ 4 + sh_ q < sz_ q f + sz_ q g := by
  have ha := adr q
  constructor
  · rintro ⟨h1, h2, h3⟩
    obtain ⟨f, f1, f2, f3⟩ := gr_at h1
    obtain ⟨g, g1, g2, g3⟩ := gr_at h2
    exact ⟨f, g, by omega, by omega, f2, g2, by omega⟩
  · rintro ⟨f, g, h1, h2, h3, h4, h5⟩
    have e1 := gr_ge (io f h1 h3) h3
    have e2 := gr_ge (ip g h2 h4) h4
    exact ⟨by omega, by omega, by omega⟩
def gv (n : Nat) : Int32 := if n = 0 then -1 else nI (n - 1)
def gw (n : Nat) : Int32 := if n = 0 then -5 else nI (n - 1)
theorem gv_lt : ∀ a, a < 7 → ∀ b, b < 7 → (gv a < gv b ↔ a < b) := by decide +kernel
theorem gw_lt : ∀ a, a < 7 → ∀ b, b < 7 → (gw a < gw b ↔ a < b) := by decide +kernel
end AVGP
section AVG
variable {N : Nat} {m : vM} {s : vS}
theorem m_plainOf {r : Nat} (hT : Tab m) (hr : r < 29) : F_X9_plainOf N 322 (nI r) (S m) = some (nI (ba_ r), S m) := by
  have h := hT.2.1 true r hr
  have b := bac r hr
  have z := szc true r hr
  have e3 := (hT.2.2.1 false (sz_ true r) (cd_ true r) b.2.2.2.2 (Nat.zero_le _) z.2.2.1).2
  have h1 : rI m 323 (19 + r) = nI (sz_ true r) := h.2.2.2.1
  have h2 : rI m 324 (19 + r) = nI (cd_ true r) := h.2.2.2.2
  have e3 : rI m 325 (64 * sz_ true r + cd_ true r) = nI (nu_ false (sz_ true r) (cd_ true r)) := e3
  unfold F_X9_plainOf
  refine e_rcv fmO ?_
  refine e_ldR fmO fmR2 ?_
  refine e_ldR fmO fmR0 ?_
  rw [show (19 : Int32) + nI r = nI (19 + r) from nI_add 19 r]
  refine e_alIV fmA0 rfl (by omega) h1 ?_
  refine e_ldR fmO fmR1 ?_
  refine e_alIV fmA1 rfl (by omega) h2 ?_
  rw [mulL, nI_add]
  refine e_alIV fmA2 rfl (by omega) e3 ?_
  rw [b.2.2.1]
theorem m_roots_l {r nn : Nat} {ro : Nat → Nat} (hN : 1000 ≤ N) (hr : r < 29) (hn4 : nn < 5) (hf : ba_ r < 19) (hnn : nn = sz_ false (ba_ r)) (hy : Sym nn ro) : ∀ (d i n : Nat) (m : vM), i + d = nn → d < n → Tab m → LookIs m nn ro →
    ∃ m', H_X9_rootsOf_27 N n 322 (nI r) (nI (ba_ r)) (nI (cnt (fun i => nOn true nn ro (2 ^ nn - 1) (some i) = r) i)) (nI i) (S m) = some (nI (cnt (fun i => nOn true nn ro (2 ^ nn - 1) (some i) = r) nn), S m') ∧ Fr (fun b _ => b = 340) m m'
  | _, _, 0, _, _, h, _, _ => by omega
  | 0, i, n + 1, m, hi, _, hT, hl => by
    have h1 : rI m 323 (0 + ba_ r) = nI (sz_ false (ba_ r)) := (hT.2.1 false (ba_ r) hf).2.2.2.1
    rw [Nat.zero_add] at h1
    refine ⟨m, ?_, Fr.rf⟩
    refine Eq.trans u_H_X9_rootsOf_27 ?_
    refine e_ldR fmO fmR0 ?_
    refine e_alIV fmA0 rfl (by omega) h1 ?_
    refine e_t (by rw [← hnn, show i = nn by omega]; exact Int32.le_refl _) ?_
    rw [show i = nn by omega]
  | d + 1, i, n + 1, m, hi, hd, hT, hl => by
    have h1 : rI m 323 (0 + ba_ r) = nI (sz_ false (ba_ r)) := (hT.2.1 false (ba_ r) hf).2.2.2.1
    rw [Nat.zero_add] at h1
    have hab := allb nn hn4
    have hp2 : (2 : Nat) ^ nn ≤ 2 ^ 4 := Nat.pow_le_pow_right (by decide) (by omega)
    have hp1 : 1 ≤ (2 : Nat) ^ nn := Nat.one_le_two_pow
    obtain ⟨m1, g1, g2⟩ := m_numberOn (N := N) (m := m) (q := true) (set := 2 ^ nn - 1) (root := some i) (by omega) hT hl hy (by omega) rfl (fun x hx => by cases hx; omega) ⟨by show 1 ≤ _; omega, by omega, by show (bt (2 ^ nn - 1) i == 1) = true; rw [hab.2 i (by omega)]; rfl⟩
    have hT1 : Tab m1 := hT.fr (fun b j hb => g2 b j (fun (z : b = 340) => isP_tab hb (Or.inl z)))
    obtain ⟨m', j1, j2⟩ := m_roots_l hN hr hn4 hf hnn hy d (i + 1) n m1 (by omega) (by omega) hT1 ⟨by rw [g2.i (by omega)]; exact hl.1, hl.2.1, fun k hk => by rw [g2.i (by omega)]; exact hl.2.2 k hk⟩
    refine ⟨m', ?_, g2.tr j2⟩
    have hc := cnt_le (fun i => nOn true nn ro (2 ^ nn - 1) (some i) = r) i
    have hlt : nOn true nn ro (2 ^ nn - 1) (some i) < 29 := by
      have hh := cdo_lt (r := ro) (ch := (chs (2 ^ nn - 1) (some i) nn).2) (pop (2 ^ nn - 1)) (by omega)
      exact (nuc true (pop (2 ^ nn - 1)) _ (by omega) (by show 1 ≤ _; omega) hh).1
    refine Eq.trans u_H_X9_rootsOf_27 ?_
    refine e_ldR fmO fmR0 ?_
    refine e_alIV fmA0 rfl (by omega) h1 ?_
    refine e_f (by rw [← hnn, nI_leI (by omega) (by omega)]; omega) ?_
    refine e_ldR fmO fmR0 ?_
    refine e_alIV fmA0 rfl (by omega) h1 ?_
    rw [← hnn, shl1 _ (by omega), subR (by show 1 ≤ _; omega)]
    refine e_bnd g1 ?_
    rw [cnt] at j1
    by_cases z : nOn true nn ro (2 ^ nn - 1) (some i) = r
    · refine e_t (by rw [z]) ?_
      rw [if_pos z] at j1
      unfold J_X9_rootsOf_64
      refine e_nm ?_
      refine e_nm ?_
      rw [addR, addR]
      exact j1
    · refine e_f (by rw [nI_eq (by omega) (by omega)]; exact z) ?_
      rw [if_neg z] at j1
      unfold J_X9_rootsOf_64
      refine e_nm ?_
      refine e_nm ?_
      rw [addR, addR]
      exact j1
def rtP (b j : Nat) : Prop := lkP b j ∨ b = 340
theorem m_rootsOf {r : Nat} (hN : 1000 ≤ N) (hT : Tab m) (hr : r < 29) : ∃ m', F_X9_rootsOf N 322 (nI r) (S m) = some (nI (wy_ r), S m') ∧ Fr rtP m m' := by
  have b := bac r hr
  have z := szc false (ba_ r) b.1
  have h := hT.2.1 false (ba_ r) b.1
  have h1 : rI m 323 (0 + ba_ r) = nI (sz_ false (ba_ r)) := h.2.2.2.1
  have h2 : rI m 324 (0 + ba_ r) = nI (cd_ false (ba_ r)) := h.2.2.2.2
  rw [Nat.zero_add] at h1 h2
  obtain ⟨m1, l1, l2, l3⟩ := m_lookInto (N := N) (m := m) (size := sz_ false (ba_ r)) (code := cd_ false (ba_ r)) (by omega) z.1 z.2.2.2.1
  have hT1 : Tab m1 := hT.fr (fun b j hb => l2 b j (by unfold tabP at hb; unfold lkP; omega))
  obtain ⟨m', g1, g2⟩ := m_roots_l (N := N) hN hr (by omega) b.1 rfl (symT' b.1) (sz_ false (ba_ r)) 0 N m1 (by omega) (by omega) hT1 l3
  rw [show cnt (fun i => nOn true (sz_ false (ba_ r)) (rowT false (ba_ r)) (2 ^ sz_ false (ba_ r) - 1) (some i) = r) (sz_ false (ba_ r)) = wy_ r from wyk r hr] at g1
  refine ⟨m', ?_, (l2.mo (fun b j h => Or.inl h)).tr (g2.mo (fun b j h => Or.inr h))⟩
  unfold F_X9_rootsOf
  refine e_rcv fmO ?_
  refine e_bnd (m_plainOf hT hr) ?_
  refine e_ldR fmO fmR0 ?_
  refine e_alIV fmA0 rfl (by omega) h1 ?_
  refine e_ldR fmO fmR1 ?_
  refine e_alIV fmA1 rfl (by omega) h2 ?_
  refine e_bnd l1 ?_
  exact g1
theorem wy_lt : ∀ r, r < 29 → wy_ r < 10 := by decide +kernel
theorem rw_pos {r : Nat} (hr : r < 29) : 0 < (rw_ r).2.toInt := red_pos (lN_pos (bac r hr).2.2.2.1 (by have := (bac r hr).2.2.2.2; omega))
theorem m_avg_l {t u : Nat} {o : Row} (hN : 1000 ≤ N) (ht : t < 16) (hu : u < 16) (hut : u ≠ t) (lo : Lows o) : ∀ (d r n : Nat) (m : vM) (X : Option Row), r + d = 29 → d < n → Tab m → AccM m t X → RowM m u o →
    ∃ m', H_X9_averageTo_7 N n 322 (nI u) (nI t) (nI r) (S m) = some ((), S m') ∧ Fr (moQ t) m m' ∧ AccM m' t (fld (astep o) d r X) ∧ ∀ row, fld (astep o) d r X = some row → rI m' 331 t = nI (kdE row 0)
  | _, _, 0, _, _, _, h, _, _, _ => by omega
  | 0, r, n + 1, m, X, hr, _, hT, hA, _ => by
    obtain ⟨m', g1, g2, g3, g4⟩ := m_end (N := N) (m := m) (kd := 0) (K := none) (by omega) ht (by omega) hA
    refine ⟨m', ?_, g2.mo (fun b j h => Or.inr h), g3, g4⟩
    refine Eq.trans u_H_X9_averageTo_7 ?_
    refine e_t (by rw [leL (by decide) (by omega)]; show 29 ≤ r; omega) ?_
    exact g1
  | d + 1, r, n + 1, m, X, hr, hd, hT, hA, r1 => by
    have hr29 : r < 29 := by omega
    have b := bac r hr29
    have e1 : rJ m 332 (29 * u + r) = (o r).1 := congrArg Prod.fst (r1 r hr29)
    have i1 := lt29 hu hr29
    have lor := lo r hr29
    have h29 : ¬ (29 : Int32) ≤ nI r := by rw [leL (by decide) (by omega)]; show ¬ 29 ≤ r; omega
    have nx : ∀ m1 X1, Fr (moP t) m m1 → AccM m1 t X1 → astep o r X = X1 → (∀ R, J_X9_averageTo_93 N (H_X9_averageTo_7 N n) 322 (nI u) (nI t) (nI r) (S m1) = R → H_X9_averageTo_7 N (n + 1) 322 (nI u) (nI t) (nI r) (S m) = R) → ∃ m', H_X9_averageTo_7 N (n + 1) 322 (nI u) (nI t) (nI r) (S m) = some ((), S m') ∧ Fr (moQ t) m m' ∧ AccM m' t (fld (astep o) (d + 1) r X) ∧ ∀ row, fld (astep o) (d + 1) r X = some row → rI m' 331 t = nI (kdE row 0) := by
      intro m1 X1 f1 A1 st hgo
      obtain ⟨m', g1, g2, g3, g4⟩ := m_avg_l hN ht hu hut lo d (r + 1) n m1 X1 (by omega) (by omega) (hT.fr (fun b j hb => f1 b j (moP_tab hb))) A1 (r1.fr hut f1)
      refine ⟨m', hgo _ ?_, (f1.mo (fun b j h => Or.inl h)).tr g2, by rw [fld, st]; exact g3, by rw [fld, st]; exact g4⟩
      unfold J_X9_averageTo_93
      refine e_nm ?_
      rw [addR]
      exact g1
    by_cases zr : (o r).1 = 0
    · refine nx m X Fr.rf hA (by unfold astep; rw [if_pos zr]) (fun R hR => ?_)
      refine Eq.trans u_H_X9_averageTo_7 ?_
      refine e_f h29 ?_
      refine e_bnd (m_isTerm hu hr29) ?_
      exact e_t (b2_f (fun z => z (e1.trans zr))) hR
    cases X with
    | none =>
      have h25 : rI m 322 25 = 1 := hA.1
      refine nx m none Fr.rf hA (astep_none r) (fun R hR => ?_)
      refine Eq.trans u_H_X9_averageTo_7 ?_
      refine e_f h29 ?_
      refine e_bnd (m_isTerm hu hr29) ?_
      refine e_f (b2_nz (fun z => zr (e1.symm.trans z))) ?_
      refine e_ldIV fmO h25 ?_
      exact e_f (by decide) hR
    | some row =>
      have h25 : rI m 322 25 = 0 := hA.1.1
      obtain ⟨m1, l1, l2⟩ := m_rootsOf (N := N) (m := m) hN hT hr29
      have f1 : Fr (moP t) m m1 := l2.mo (fun b j w => by unfold rtP lkP at w; unfold moP; omega)
      have hT1 : Tab m1 := hT.fr (fun b j hb => f1 b j (moP_tab hb))
      have f2 : Fr (moP t) m (wA m1 (rw_ r)) := f1.tr wA_fr
      have A2 : AccM m1 t (some row) := hA.fr l2 (by unfold rtP lkP; omega) (fun k hk => by unfold rtP lkP; omega)
      have A3 : AccM (wA m1 (rw_ r)) t (some row) := A2.fr (P := fun a j => a = 322 ∧ (j = 23 ∨ j = 24)) ((Fr.rf.sJ ⟨rfl, Or.inl rfl⟩).sJ ⟨rfl, Or.inr rfl⟩) (by omega) (fun k hk => by omega)
      have w23 := wA_1 (m := m1) (p := rw_ r)
      have w24 := wA_2 (m := m1) (p := rw_ r)
      have hlay := m_lay (N := N) (m := m1) (a := lN (wy_ r)) (b := lN (sz_ true r)) (by omega) (lN_pos b.2.2.2.1 (by omega))
      have hwy := wy_lt r hr29
      have r3 := r1.fr hut f2
      have e1' : rJ (wA m1 (rw_ r)) 332 (29 * u + r) = (o r).1 := congrArg Prod.fst (r3 r hr29)
      have e2' : rJ (wA m1 (rw_ r)) 333 (29 * u + r) = (o r).2 := congrArg Prod.snd (r3 r hr29)
      have h1' : rI m1 323 (19 + r) = nI (sz_ true r) := (hT1.2.1 true r hr29).2.2.2.1
      obtain ⟨m4, m5, t1, t2, t3, t4, t5, -⟩ := m_ta (N := N) (m := wA m1 (rw_ r)) (k := ba_ r) (p := o r) (by omega) ht (by omega) A3 lor.1 (by rw [w24]; exact rw_pos hr29)
      rw [w23, w24] at t1 t3
      have hT4 : Tab m4 := (hT.fr (fun b j hb => f2 b j (moP_tab hb))).fr (fun b j hb => t5 b j (fun w => moP_tab hb (moA_P w)))
      refine nx m5 _ (f2.tr (t4.mo (fun _ _ => moA_P))) t3 (by unfold astep; rw [if_neg zr]) (fun R hR => ?_)
      refine Eq.trans u_H_X9_averageTo_7 ?_
      refine e_f h29 ?_
      refine e_bnd (m_isTerm hu hr29) ?_
      refine e_f (b2_nz (fun z => zr (e1.symm.trans z))) ?_
      refine e_ldIV fmO h25 ?_
      refine e_t rfl ?_
      refine e_bnd l1 ?_
      refine e_ldR fmO fmR0 ?_
      rw [show (19 : Int32) + nI r = nI (19 + r) from nI_add 19 r]
      refine e_alIV fmA0 rfl (by omega) h1' ?_
      rw [nI_l (by omega), nI_l (by omega)]
      refine e_bnd hlay ?_
      refine e_ldR fmO fmR11 ?_
      rw [mulL, nI_add]
      refine e_alJV fmA11 rfl (by omega) e1' ?_
      refine e_ldR fmO fmR12 ?_
      refine e_alJV fmA12 rfl (by omega) e2' ?_
      refine e_ldJV fmO w23 ?_
      refine e_ldJV fmO w24 ?_
      refine e_bnd t1 ?_
      refine e_bnd (m_plainOf hT4 hr29) ?_
      refine e_bnd t2 ?_
      exact hR
theorem m_averageTo {t u : Nat} {o : Row} (hN : 1000 ≤ N) (ht : t < 16) (hu : u < 16) (hut : u ≠ t) (lo : Lows o) (hT : Tab m) (ho : rI m 322 25 = 0) (r1 : RowM m u o) :
    ∃ m', F_X9_averageTo N 322 (nI u) (nI t) (S m) = some ((), S m') ∧ Fr (moQ t) m m' ∧ AccM m' t (avgX o) ∧ ∀ row, avgX o = some row → rI m' 331 t = nI (kdE row 0) := by
  obtain ⟨m1, h1, h2, h3⟩ := m_emptyA (N := N) (m := m) (by omega) ht ho
  obtain ⟨m', g1, g2, g3, g4⟩ := m_avg_l (N := N) hN ht hu hut lo 29 0 N m1 (some row0) rfl (by omega) (hT.fr (fun b j hb => h2 b j (moQ_tab hb))) h3 (r1.fq hut h2)
  refine ⟨m', ?_, h2.tr g2, g3, g4⟩
  unfold F_X9_averageTo
  refine e_rcv fmO ?_
  refine e_bnd h1 ?_
  exact g1
end AVG
