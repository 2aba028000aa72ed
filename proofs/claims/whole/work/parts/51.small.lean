section SMALL
variable {N : Nat} {m : vM} {s : vS}
theorem m_in (v a b : Int32) : F_X9_in N v a b s = some (b2 (a ≤ v ∧ v ≤ b), s) := by
  unfold F_X9_in J_X9_in_14 J_X9_in_15
  by_cases h1 : v < a
  · have h2 : ¬ (a ≤ v ∧ v ≤ b) := fun h => absurd h.1 (Int32.not_le.mpr h1)
    rw [if_pos h1, b2_f h2]; rfl
  · rw [if_neg h1]
    by_cases h3 : b < v
    · have h2 : ¬ (a ≤ v ∧ v ≤ b) := fun h => absurd h.2 (Int32.not_le.mpr h3)
      rw [if_pos h3, b2_f h2]; rfl
    · have h2 : a ≤ v ∧ v ≤ b := ⟨Int32.not_lt.mp h1, Int32.not_lt.mp h3⟩
      rw [if_neg h3, b2_t h2]; rfl
theorem m_isFlag (v : Int32) : F_X9_isFlag N v s = some (b2 ((0 : Int32) ≤ v ∧ v ≤ 18), s) := by
  simp only [F_X9_isFlag, m_in, bnd_s, rtZ_b2]
theorem m_isRooted (v : Int32) : F_X9_isRooted N v s = some (b2 ((0 : Int32) ≤ v ∧ v ≤ 28), s) := by
  simp only [F_X9_isRooted, m_in, bnd_s, rtZ_b2]
theorem m_isStore (v : Int32) : F_X9_isStore N v s = some (b2 ((0 : Int32) ≤ v ∧ v ≤ 3), s) := by
  simp only [F_X9_isStore, m_in, bnd_s, rtZ_b2]
theorem leL {n i : Nat} (hn : (OfNat.ofNat n : Nat) < 2 ^ 31) (hi : i < 2 ^ 31) : ((no_index (OfNat.ofNat n) : Int32) ≤ nI i) ↔ (OfNat.ofNat n : Nat) ≤ i := nI_leI hn hi
theorem leR {n i : Nat} (hn : (OfNat.ofNat n : Nat) < 2 ^ 31) (hi : i < 2 ^ 31) : (nI i ≤ (no_index (OfNat.ofNat n) : Int32)) ↔ i ≤ (OfNat.ofNat n : Nat) := nI_leI hi hn
theorem ltL {n i : Nat} (hn : (OfNat.ofNat n : Nat) < 2 ^ 31) (hi : i < 2 ^ 31) : ((no_index (OfNat.ofNat n) : Int32) < nI i) ↔ (OfNat.ofNat n : Nat) < i := nI_ltI hn hi
theorem ltR {n i : Nat} (hn : (OfNat.ofNat n : Nat) < 2 ^ 31) (hi : i < 2 ^ 31) : (nI i < (no_index (OfNat.ofNat n) : Int32)) ↔ i < (OfNat.ofNat n : Nat) := nI_ltI hi hn
theorem eqR {n i : Nat} (hn : (OfNat.ofNat n : Nat) < 2 ^ 31) (hi : i < 2 ^ 31) : (nI i = (no_index (OfNat.ofNat n) : Int32)) ↔ i = (OfNat.ofNat n : Nat) := nI_eq hi hn
theorem mulL (n i : Nat) : (no_index (OfNat.ofNat n) : Int32) * nI i = nI ((OfNat.ofNat n : Nat) * i) := pk_mul n i
theorem addR (n i : Nat) : nI i + (no_index (OfNat.ofNat n) : Int32) = nI (i + (OfNat.ofNat n : Nat)) := nI_add i n
theorem subR {n i : Nat} (h : (OfNat.ofNat n : Nat) ≤ i) : nI i - (no_index (OfNat.ofNat n) : Int32) = nI (i - (OfNat.ofNat n : Nat)) := pk_sub h
theorem clL {n : Nat} (hn : (OfNat.ofNat n : Nat) < 2 ^ 31) : ((no_index (OfNat.ofNat n) : Int32)).toNatClampNeg = (OfNat.ofNat n : Nat) := nI_clamp hn
theorem inL {n k : Nat} (h : (OfNat.ofNat n : Nat) < k) (hk : k < 2 ^ 31) : inb (no_index (OfNat.ofNat n) : Int32) k = true := inb_nI h hk
theorem lt29 {r k : Nat} (hr : r < 16) (hk : k < 29) : 29 * r + k < 464 := by omega
theorem ifn {ρ : Type} (c : Prop) [Decidable c] (A B : ρ) : (if ¬ c then A else B) = if c then B else A := by by_cases h : c <;> simp [h]
theorem ifne {ρ α : Type} (a b : α) [Decidable (a = b)] [Decidable (a ≠ b)] (A B : ρ) : (if a ≠ b then A else B) = if a = b then B else A := by by_cases h : a = b <;> simp [h]
/-- how many below n -/
def cnt (p : Nat → Prop) [DecidablePred p] : Nat → Nat
  | 0 => 0
  | n + 1 => cnt p n + if p n then 1 else 0
theorem cnt_le (p : Nat → Prop) [DecidablePred p] : ∀ n, cnt p n ≤ n
  | 0 => Nat.le_refl 0
  | n + 1 => by
    have := cnt_le p n
    unfold cnt
    split <;> omega
theorem m_isTerm {r k : Nat} (hr : r < 16) (hk : k < 29) : F_X9_isTerm N 322 (nI r) (nI k) (S m) = some (b2 (rJ m 332 (29 * r + k) ≠ 0), S m) := by
  have := lt29 hr hk
  simp (disch := omega) only [F_X9_isTerm, J_X9_isTerm_21, rcv, ldI, ldJ, ldR, stI, stZ, stJ, stR, alI, alJ, alZ, alR, asI, asJ, asZ, nm, isO_S, isA_S, gI_S, gJ_S, gR_S, setI_S, setJ_S, orN_s, bnd_s, if_true, if_false, ite_true, and_self, and_true, true_and, or_true, true_or, fmO, fmR0, fmA0, fmR1, fmA1, fmR2, fmA2, fmR3, fmA3, fmR4, fmA4, fmR6, fmA6, fmR8, fmA8, fmR9, fmA9, fmR10, fmA10, fmR11, fmA11, fmR12, fmA12, fmR14, fmA14, fmR17, fmA17, fmR18, fmA18, fmR19, fmA19, fmR20, fmA20, fmR21, fmA21, fmR22, fmA22, fmR26, fmA26, fmR27, fmA27, fmR28, fmA28, fmR31, fmA31, fmR32, fmA32, fmR33, fmA33, fmR34, fmA34, fmR36, fmA36, fmR38, fmA38, fmR39, fmA39, fmR40, fmA40, fmR41, fmA41, fmR42, fmA42, leL, leR, ltL, ltR, eqR, mulL, addR, clL, inL, nI_add, pk_mul, inb_nI, nI_clamp, nI_leI, nI_ltI, nI_eq, nI_1, lg_cmp_ge, lg_cmp_le, lg_cmp_gt, lg_cmp_lt, lg_cmp_eq]
  unfold b2
  rw [ifne]
  split <;> rfl
theorem m_terms_l {r : Nat} (hr : r < 16) : ∀ (d i n : Nat), i + d = 29 → d < n → H_X9_terms_4 N n 322 (nI r) (nI (cnt (fun k => rJ m 332 (29 * r + k) ≠ 0) i)) (nI i) (S m) = some (nI (cnt (fun k => rJ m 332 (29 * r + k) ≠ 0) 29), S m) := by
  intro d
  induction d with
  | zero =>
    intro i n hi hn
    obtain ⟨n, rfl⟩ : ∃ k, n = k + 1 := ⟨n - 1, by omega⟩
    obtain rfl : i = 29 := by omega
    unfold H_X9_terms_4
    simp (disch := omega) only [leL, leR, ltL, ltR, eqR, mulL, addR, clL, inL, nI_add, pk_mul, inb_nI, nI_clamp, nI_leI, nI_ltI, nI_eq, nI_1, if_true, Nat.le_refl]
  | succ d ih =>
    intro i n hi hn
    obtain ⟨n, rfl⟩ : ∃ k, n = k + 1 := ⟨n - 1, by omega⟩
    have h29 : ¬ 29 ≤ i := by omega
    have hc := cnt_le (fun k => rJ m 332 (29 * r + k) ≠ 0) i
    have hih := ih (i + 1) n (by omega) (by omega)
    unfold cnt at hih
    unfold H_X9_terms_4
    simp (disch := omega) only [leL, leR, ltL, ltR, eqR, mulL, addR, clL, inL, nI_add, pk_mul, inb_nI, nI_clamp, nI_leI, nI_ltI, nI_eq, nI_1, h29, if_false, m_isTerm hr, bnd_s, b2_if, J_X9_terms_25, nm]
    split
    · next h => rw [if_pos h] at hih; exact hih
    · next h => rw [if_neg h] at hih; exact hih
theorem m_terms {r : Nat} (hr : r < 16) (hN : 100 ≤ N) : F_X9_terms N 322 (nI r) (S m) = some (nI (cnt (fun k => rJ m 332 (29 * r + k) ≠ 0) 29), S m) := by
  simp only [F_X9_terms, rcv, ldI, ldJ, ldR, stI, stZ, stJ, stR, alI, alJ, alZ, alR, asI, asJ, asZ, nm, isO_S, isA_S, gI_S, gJ_S, gR_S, setI_S, setJ_S, orN_s, bnd_s, if_true, if_false, ite_true, and_self, and_true, true_and, or_true, true_or, fmO, fmR0, fmA0, fmR1, fmA1, fmR2, fmA2, fmR3, fmA3, fmR4, fmA4, fmR6, fmA6, fmR8, fmA8, fmR9, fmA9, fmR10, fmA10, fmR11, fmA11, fmR12, fmA12, fmR14, fmA14, fmR17, fmA17, fmR18, fmA18, fmR19, fmA19, fmR20, fmA20, fmR21, fmA21, fmR22, fmA22, fmR26, fmA26, fmR27, fmA27, fmR28, fmA28, fmR31, fmA31, fmR32, fmA32, fmR33, fmA33, fmR34, fmA34, fmR36, fmA36, fmR38, fmA38, fmR39, fmA39, fmR40, fmA40, fmR41, fmA41, fmR42, fmA42]
  exact m_terms_l hr 29 0 N rfl (by omega)
end SMALL
