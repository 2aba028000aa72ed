/-! two apart: both sides count the same pairs -/
section JOINTP
abbrev jin (q : Bool) (g h a : Nat) : Nat → Nat → Nat := fun b x => if onv q h b = nI g ∧ a &&& b = sh_ q then x + 1 else x
abbrev jou (q : Bool) (f g h : Nat) : Nat → Nat → Nat := fun a x => if onv q h a = nI f then fld (jin q g h a) (2 ^ sz_ q h) 0 x else x
def jm (q : Bool) (f g h : Nat) : Nat := fld (jou q f g h) (2 ^ sz_ q h) 0 0
def okS (q : Bool) (a : Nat) : Prop := sh_ q ≤ pop a ∧ (q = false ∨ bt a 0 = 1)
def JC (q : Bool) (s1 s2 a b : Nat) : Bool := decide ((sh_ q ≤ pop a ∧ (q = false ∨ bt a 0 = 1)) ∧ (sh_ q ≤ pop b ∧ (q = false ∨ bt b 0 = 1)) ∧ a &&& b = sh_ q ∧ pop a = s1 ∧ pop b = s2)
theorem JC_iff {q : Bool} {s1 s2 a b : Nat} : JC q s1 s2 a b = true ↔ (okS q a ∧ okS q b ∧ a &&& b = sh_ q ∧ pop a = s1 ∧ pop b = s2) := by
  unfold JC okS
  exact decide_eq_true_iff
abbrev jai (q : Bool) (s1 s2 a : Nat) : Nat → Nat → Nat := fun b x => if JC q s1 s2 a b = true then x + 1 else x
abbrev jao (q : Bool) (n s1 s2 : Nat) : Nat → Nat → Nat := fun a x => fld (jai q s1 s2 a) (2 ^ n) 0 x
def ja (q : Bool) (n s1 s2 : Nat) : Nat := fld (jao q n s1 s2) (2 ^ n) 0 0
def prs (q : Bool) (n s1 s2 : Nat) : Nat := wyc (n - sh_ q) (s1 - sh_ q) * wyc (n - s1) (s2 - sh_ q)
def jaB (q : Bool) (n s1 s2 : Nat) : Bool := decide ((sh_ q ≤ s1 ∧ sh_ q ≤ s2 ∧ s1 + s2 - sh_ q ≤ n) → (ja q n s1 s2 = prs q n s1 s2 ∧ 0 < ja q n s1 s2 ∧ ja q n s1 s2 < 10000))
theorem ja_prs (q : Bool) (n : Nat) (h1 : n < 5) (s1 : Nat) (h2 : s1 < 5) (s2 : Nat) (h3 : s2 < 5) : (sh_ q ≤ s1 ∧ sh_ q ≤ s2 ∧ s1 + s2 - sh_ q ≤ n) → (ja q n s1 s2 = prs q n s1 s2 ∧ 0 < ja q n s1 s2 ∧ ja q n s1 s2 < 10000) := by
  have h : ∀ q n, n < 5 → ∀ s1, s1 < 5 → ∀ s2, s2 < 5 → jaB q n s1 s2 = true := by decide +kernel
  exact of_decide_eq_true (h q n h1 s1 h2 s2 h3)
def jt (q : Bool) (f g h : Nat) : Int64 × Int64 := red (lN (jm q f g h)) (lN (prs q (sz_ q h) (sz_ q f) (sz_ q g)))
theorem jin_le {q : Bool} {g h a : Nat} : ∀ (d i x : Nat), fld (jin q g h a) d i x ≤ x + d
  | 0, _, _ => Nat.le_refl _
  | d + 1, i, x => by
    have := jin_le (q := q) (g := g) (h := h) (a := a) d (i + 1) (jin q g h a i x)
    rw [fld]
    have : jin q g h a i x ≤ x + 1 := by
      unfold jin
      split <;> omega
    omega
theorem jou_le {q : Bool} {f g h : Nat} (hz : sz_ q h ≤ 4) : ∀ (d i x : Nat), fld (jou q f g h) d i x ≤ x + 16 * d
  | 0, _, _ => Nat.le_refl _
  | d + 1, i, x => by
    have h1 := jou_le (f := f) (g := g) hz d (i + 1) (jou q f g h i x)
    have h2 := jin_le (q := q) (g := g) (h := h) (a := i) (2 ^ sz_ q h) 0 x
    have h3 : (2 : Nat) ^ sz_ q h ≤ 2 ^ 4 := Nat.pow_le_pow_right (by decide) hz
    have h4 : jou q f g h i x ≤ x + 16 := by
      unfold jou
      split <;> omega
    rw [fld]
    omega
theorem jm_le {q : Bool} {f g h : Nat} (hz : sz_ q h ≤ 4) : jm q f g h ≤ 256 := by
  have h1 := jou_le (q := q) (f := f) (g := g) hz (2 ^ sz_ q h) 0 0
  have h3 : (2 : Nat) ^ sz_ q h ≤ 2 ^ 4 := Nat.pow_le_pow_right (by decide) hz
  unfold jm
  omega
theorem onv_ok {q : Bool} {h a f : Nat} (hf : f < 29) (e : onv q h a = nI f) (hp : pop a ≤ 4) : okS q a ∧ pop a = sz_ q f := by
  unfold onv at e
  have hm : ∀ k, k < 29 → ¬ (-1 : Int32) = nI k := by decide +kernel
  by_cases z : sh_ q ≤ pop a ∧ (q = false ∨ bt a 0 = 1)
  · rw [if_pos z] at e
    have hlt := cdo_lt (r := rowT q h) (ch := (chs a (ro_ q) (sz_ q h)).2) (pop a) (by omega)
    have hn := nuc q (pop a) _ (by omega) z.1 hlt
    have ha := adr q
    have e2 : nu_ q (pop a) (cdo (rowT q h) (chs a (ro_ q) (sz_ q h)).2 (pop a)) = f := (nI_eq (by omega) (by omega)).mp e
    rw [e2] at hn
    exact ⟨z, hn.2.symm⟩
  · rw [if_neg z] at e
    exact absurd e (hm f hf)
theorem onv_neg {q : Bool} {h a : Nat} (hp : pop a ≤ 4) : (onv q h a < 0) ↔ ¬ okS q a := by
  unfold onv okS
  by_cases z : sh_ q ≤ pop a ∧ (q = false ∨ bt a 0 = 1)
  · have hlt := cdo_lt (r := rowT q h) (ch := (chs a (ro_ q) (sz_ q h)).2) (pop a) (by omega)
    have hn := nuc q (pop a) _ (by omega) z.1 hlt
    have ha := adr q
    rw [if_pos z]
    unfold nOn
    exact ⟨fun w => absurd w (nI_pos (by omega)), fun w => absurd z w⟩
  · rw [if_neg z]
    exact ⟨fun _ => z, fun _ => by decide⟩
theorem pop16 : ∀ a, a < 16 → pop a ≤ 4 := by decide +kernel
end JOINTP
section JOINTC
variable {N : Nat} {m : vM} {s : vS}
theorem onT {q : Bool} {h a : Nat} (hT : Tab m) (hh : h < mny q) (ha : a < 2 ^ sz_ q h) : rI m (aOn q + h) a = onv q h a := hT.2.2.2.2.1 q h a hh ha
theorem c_joint_b {q : Bool} {f g h a x0 : Nat} (hT : Tab m) (hh : h < mny q) (ha : a < 2 ^ sz_ q h) {K : Nat → Int32 → Int32 → Nat → Int32 → Int32 → Int32 → vS → Option (Int32 × vS)} : ∀ (d b n x : Nat), b + d = 2 ^ sz_ q h → d < n →
    H_X1_jointsIn_46 N K n (fo q) (nI f) (nI g) (aOn q + h) (nI (2 ^ sz_ q h)) (nI x) (nI a) (nI b) (S m) = K (fo q) (nI f) (nI g) (aOn q + h) (nI (2 ^ sz_ q h)) (nI (fld (jin q g h a) d b x)) (nI (a + 1)) (S m)
  | _, _, 0, _, _, h => by omega
  | 0, b, n + 1, x, hb, _ => by
    unfold H_X1_jointsIn_46
    refine e_t (by rw [show b = 2 ^ sz_ q h by omega]; exact Int32.le_refl _) ?_
    unfold J_X1_jointsIn_83
    refine e_nm ?_
    rw [addR]
    rfl
  | d + 1, b, n + 1, x, hb, hd => by
    have hz := szc q h hh
    have h4 : (2 : Nat) ^ sz_ q h ≤ 2 ^ 4 := Nat.pow_le_pow_right (by decide) hz.1
    have ih := c_joint_b (f := f) (g := g) (x0 := x0) hT hh ha (K := K) d (b + 1) n (jin q g h a b x) (by omega) (by omega)
    have hs := sh_lt q
    have hab : a &&& b ≤ a := Nat.and_le_left
    have nx : ∀ y, y = jin q g h a b x → J_X1_jointsIn_77 N K (H_X1_jointsIn_46 N K n) (fo q) (nI f) (nI g) (aOn q + h) (nI (2 ^ sz_ q h)) (nI y) (nI a) (nI b) (S m) = K (fo q) (nI f) (nI g) (aOn q + h) (nI (2 ^ sz_ q h)) (nI (fld (jin q g h a) (d + 1) b x)) (nI (a + 1)) (S m) := by
      intro y e
      unfold J_X1_jointsIn_77
      refine e_nm ?_
      rw [addR, e]
      exact ih
    unfold H_X1_jointsIn_46
    refine e_f (by rw [nI_leI (by omega) (by omega)]; omega) ?_
    refine e_alIV (gOn hh) rfl (by omega) (onT hT hh (by omega)) ?_
    by_cases z : onv q h b = nI g
    · refine e_t z ?_
      refine e_ldIV gO (hT.1 q).2.1 ?_
      rw [nI_and (by omega) (by omega)]
      by_cases y : a &&& b = sh_ q
      · refine e_t (by rw [y]) ?_
        refine e_nm ?_
        rw [addR]
        exact nx _ (by unfold jin; rw [if_pos ⟨z, y⟩])
      · refine e_f (by rw [nI_eq (by omega) (by omega)]; exact y) ?_
        exact nx _ (by unfold jin; rw [if_neg (fun w => y w.2)])
    · refine e_f z ?_
      exact nx _ (by unfold jin; rw [if_neg (fun w => z w.1)])
theorem c_joint_a {q : Bool} {f g h : Nat} (hN : 100 ≤ N) (hT : Tab m) (hh : h < mny q) : ∀ (d a n x : Nat), a + d = 2 ^ sz_ q h → d < n →
    H_X1_jointsIn_24 N n (fo q) (nI f) (nI g) (aOn q + h) (nI (2 ^ sz_ q h)) (nI x) (nI a) (S m) = some (nI (fld (jou q f g h) d a x), S m)
  | _, _, 0, _, _, h => by omega
  | 0, a, n + 1, x, ha, _ => by
    unfold H_X1_jointsIn_24
    exact e_t (by rw [show a = 2 ^ sz_ q h by omega]; exact Int32.le_refl _) rfl
  | d + 1, a, n + 1, x, ha, hd => by
    have hz := szc q h hh
    have h4 : (2 : Nat) ^ sz_ q h ≤ 2 ^ 4 := Nat.pow_le_pow_right (by decide) hz.1
    have ih := c_joint_a (f := f) (g := g) hN hT hh d (a + 1) n (jou q f g h a x) (by omega) (by omega)
    unfold H_X1_jointsIn_24
    refine e_f (by rw [nI_leI (by omega) (by omega)]; omega) ?_
    refine e_alIV (gOn hh) rfl (by omega) (onT hT hh (by omega)) ?_
    by_cases z : onv q h a = nI f
    · refine e_t z ?_
      refine Eq.trans (c_joint_b (x0 := 0) hT hh (by omega) (2 ^ sz_ q h) 0 N x (by omega) (by omega)) ?_
      unfold jou at ih
      rw [if_pos z] at ih
      rw [fld]
      unfold jou
      rw [if_pos z]
      exact ih
    · refine e_f z ?_
      unfold J_X1_jointsIn_83
      refine e_nm ?_
      rw [addR]
      unfold jou at ih
      rw [if_neg z] at ih
      rw [fld]
      unfold jou
      rw [if_neg z]
      exact ih
theorem c_jointsIn {q : Bool} {f g h : Nat} (hN : 100 ≤ N) (hT : Tab m) (hh : h < mny q) : F_X1_jointsIn N (fo q) (nI f) (nI g) (nI h) (S m) = some (nI (jm q f g h), S m) := by
  have hz := szc q h hh
  have h4 : (2 : Nat) ^ sz_ q h ≤ 2 ^ 4 := Nat.pow_le_pow_right (by decide) hz.1
  have ha := adr q
  unfold F_X1_jointsIn
  refine e_rcv gO ?_
  refine e_ldR gO gR8 ?_
  refine e_alR gOo (by decide) rfl (by omega) (gOoR q h hh) ?_
  refine e_ldR gO gR3 ?_
  refine e_alIV gA3 rfl (by omega) (hT.2.1 q h hh).1 ?_
  refine e_nm ?_
  rw [shl1 _ (by omega)]
  exact c_joint_a hN hT hh (2 ^ sz_ q h) 0 N 0 (by omega) (by omega)
theorem c_pairsIn {q : Bool} {f g h : Nat} (hN : 100 ≤ N) (hT : Tab m) (hf : f < mny q) (hg : g < mny q) (hh : h < mny q) (hs : sz_ q f + sz_ q g - sh_ q ≤ sz_ q h) : F_X1_pairsIn N (fo q) (nI f) (nI g) (nI h) (S m) = some (nI (prs q (sz_ q h) (sz_ q f) (sz_ q g)), S m) := by
  have z1 := szc q h hh
  have z2 := szc q f hf
  have z3 := szc q g hg
  have ha := adr q
  have hl := (hT.1 q).2.1
  have e1 := (hT.2.1 q h hh).1
  have e2 := (hT.2.1 q f hf).1
  have e3 := (hT.2.1 q g hg).1
  unfold F_X1_pairsIn
  refine e_rcv gO ?_
  refine e_ldR gO gR3 ?_
  refine e_alIV gA3 rfl (by omega) e1 ?_
  refine e_ldIV gO hl ?_
  refine e_ldR gO gR3 ?_
  refine e_alIV gA3 rfl (by omega) e2 ?_
  refine e_ldIV gO hl ?_
  rw [pk_sub (by omega), pk_sub (by omega)]
  refine e_bnd (c_ways (by omega) (by omega) hN) ?_
  refine e_ldR gO gR3 ?_
  refine e_alIV gA3 rfl (by omega) e1 ?_
  refine e_ldR gO gR3 ?_
  refine e_alIV gA3 rfl (by omega) e2 ?_
  refine e_ldR gO gR3 ?_
  refine e_alIV gA3 rfl (by omega) e3 ?_
  refine e_ldIV gO hl ?_
  rw [pk_sub (by omega), pk_sub (by omega)]
  refine e_bnd (c_ways (by omega) (by omega) hN) ?_
  rw [pk_mul]
  rfl
end JOINTC
