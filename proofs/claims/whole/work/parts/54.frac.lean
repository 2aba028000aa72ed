section FRAC
variable {N : Nat} {s : vS} {m : vM}
/-- 0 for a truth -/
def b3 (c : Prop) [Decidable c] : Int32 := if c then 0 else 1
theorem b3_if {ρ : Type} (c : Prop) [Decidable c] (A B : Option ρ) : (if b3 c = (0 : Int32) then A else B) = if c then A else B := by
  unfold b3
  by_cases h : c
  · rw [if_pos h, if_pos h, if_pos rfl]
  · rw [if_neg h, if_neg h, if_neg (by decide)]
theorem b3_t {c : Prop} [Decidable c] (h : c) : b3 c = 0 := if_pos h
theorem b3_f {c : Prop} [Decidable c] (h : ¬ c) : b3 c = 1 := if_neg h
theorem pos64 {x : Int64} (h : 0 < x.toInt) : ¬ x = 0 := fun e => by rw [e] at h; exact absurd h (by decide)
theorem c_gcd_l : ∀ (k x y : Nat), y < fb k → ∀ (a b : Int64) (n i : Nat), ab a = x → ab b = y → 0 ≤ a → 0 ≤ b → k + i ≤ 100 → k < n → H_X2_greatestIn_36 N n a b (nI i) s = some (Int64.ofNat (Nat.gcd x y), s) := by
  refine euclid_ind (fun k x y => ∀ (a b : Int64) (n i : Nat), ab a = x → ab b = y → 0 ≤ a → 0 ≤ b → k + i ≤ 100 → k < n → H_X2_greatestIn_36 N n a b (nI i) s = some (Int64.ofNat (Nat.gcd x y), s)) ?_ ?_
  · intro k x a b n i ha hb h1 h2 hi hn
    obtain ⟨n, rfl⟩ : ∃ k, n = k + 1 := ⟨n - 1, by omega⟩
    obtain rfl := (ab_0 b).mp hb
    unfold H_X2_greatestIn_36
    simp (disch := omega) only [leL, leR, ltL, ltR, eqR, mulL, addR, clL, inL, nI_add, pk_mul, inb_nI, nI_clamp, nI_leI, nI_ltI, nI_eq, nI_1, lg_cmp_ge, lg_cmp_le, lg_cmp_gt, lg_cmp_lt, lg_cmp_eq, J_X2_greatestIn_71]
    rw [Nat.gcd_zero_right, ← ha, ofNat_ab h1]
    by_cases h : 100 ≤ i
    · rw [if_pos h]
    · rw [if_neg h, if_pos h2]
  · intro k x y hy ih a b n i ha hb h1 h2 hi hn
    obtain ⟨n, rfl⟩ : ∃ k, n = k + 1 := ⟨n - 1, by omega⟩
    have hb0 : ¬ b = 0 := fun h => by rw [(ab_0 b).mpr h] at hb; omega
    have hbn : ¬ b ≤ 0 := fun h => hb0 (Int64.le_antisymm h h2)
    have hi1 : ¬ 100 ≤ i := by omega
    have hr : 0 ≤ a - a / b * b := by
      rw [Int64.le_iff_toInt_le, rem64 a b hb0]
      exact Int.tmod_nonneg _ (Int64.le_iff_toInt_le.mp h1)
    have h3 := ih b (a - a / b * b) n (i + 1) hb (by rw [ab_rem a b hb0, ha, hb]) h2 hr (by omega) (by omega)
    unfold H_X2_greatestIn_36
    simp (disch := omega) only [leL, leR, ltL, ltR, eqR, mulL, addR, clL, inL, nI_add, pk_mul, inb_nI, nI_clamp, nI_leI, nI_ltI, nI_eq, nI_1, lg_cmp_ge, lg_cmp_le, lg_cmp_gt, lg_cmp_lt, lg_cmp_eq, hi1, hbn, if_false, nzJ_l hb0, nm]
    rw [h3, Nat.gcd_comm y, ← Nat.gcd_rec, Nat.gcd_comm]
theorem ab_neg (x : Int64) (h : x.toInt ≠ -2 ^ 63) : (-x).toInt = -x.toInt := by
  have h1 := fit0_i x
  rw [Int64.toInt_neg, bm_fit0 (by omega)]
theorem c_greatestIn {a b : Int64} (hN : 100 ≤ N) (hb : 0 < b.toInt) : F_X2_greatestIn N a b s = some (fg a b, s) := by
  have hb0 := pos64 hb
  have hb1 : (1 : Int64) ≤ b := by rw [Int64.le_iff_toInt_le]; show (1 : Int) ≤ _; omega
  have hbp : (0 : Int64) ≤ b := by rw [Int64.le_iff_toInt_le]; show (0 : Int) ≤ _; omega
  have hrem := rem64 a b hb0
  have hrl : (a.toInt.tmod b.toInt).natAbs < b.toInt.natAbs := by
    rw [Int.natAbs_tmod]
    exact Nat.mod_lt _ (by omega)
  have hbf := fit0_i b
  have key : ∀ r : Int64, 0 ≤ r → ab r = ab a % ab b → H_X2_greatestIn_36 N N b r 0 s = some (fg a b, s) := by
    intro r h1 h2
    have h := c_gcd_l (N := N) (s := s) 91 _ _ (ab_lt r) b r N 0 rfl rfl hbp h1 (by omega) (by omega)
    have e0 : nI 0 = 0 := rfl
    rw [e0] at h
    rw [h, h2]
    unfold fg
    rw [Nat.gcd_comm (ab b), ← Nat.gcd_rec, Nat.gcd_comm]
  unfold F_X2_greatestIn
  simp only [lg_cmp_ge, lg_cmp_le, lg_cmp_gt, lg_cmp_lt, lg_cmp_eq, hb1, if_true, nzJ_l hb0, nm, J_X2_greatestIn_31]
  by_cases h : 0 ≤ a - a / b * b
  · rw [if_pos h]
    exact key _ h (ab_rem a b hb0)
  · rw [if_neg h]
    have h' := mt Int64.le_iff_toInt_le.mpr h
    have h0 : (0 : Int64).toInt = 0 := rfl
    rw [hrem, h0] at h'
    have hn := ab_neg (a - a / b * b) (by rw [hrem]; omega)
    refine key _ ?_ ?_
    · rw [Int64.le_iff_toInt_le, hn, hrem, h0]; omega
    · have := ab_rem a b hb0
      unfold ab at this ⊢
      rw [hn, Int.natAbs_neg]
      exact this
theorem c_isBeyond (a b : Int64) : F_X2_isBeyond N a b s = some (b3 (fits (a.toInt * b.toInt)), s) := by
  have h0 : (0 : Int64).toInt = 0 := rfl
  unfold F_X2_isBeyond
  simp only [lg_cmp_ge, lg_cmp_le, lg_cmp_gt, lg_cmp_lt, lg_cmp_eq, J_X2_isBeyond_12, J_X2_isBeyond_46, J_X2_isBeyond_30, J_X2_isBeyond_48, J_X2_isBeyond_63, rtZ_0, rtZ_1]
  by_cases ha : a = 0
  · rw [if_pos ha, b3_t (by rw [ha, h0, Int.zero_mul]; exact fits_0)]
  · rw [if_neg ha]
    by_cases hb : b = 0
    · rw [if_pos hb, b3_t (by rw [hb, h0, Int.mul_zero]; exact fits_0)]
    · rw [if_neg hb]
      have core : ¬ (b = -1 ∧ a = -9223372036854775808) → nzJ b (if (a * b) / b = a then some ((0 : Int32), s) else some (1, s)) = some (b3 (fits (a.toInt * b.toInt)), s) := by
        intro hs
        rw [nzJ_l hb]
        by_cases h : (a * b) / b = a
        · rw [if_pos h, b3_t ((over64 hb hs).mp h)]
        · rw [if_neg h, b3_f (show ¬ fits (a.toInt * b.toInt) from fun q => h ((over64 hb hs).mpr q))]
      have tail : (if b = -1 then (if a = -9223372036854775808 then some ((1 : Int32), s) else nzJ b (if (a * b) / b = a then some ((0 : Int32), s) else some (1, s))) else nzJ b (if (a * b) / b = a then some ((0 : Int32), s) else some (1, s))) = some (b3 (fits (a.toInt * b.toInt)), s) := by
        by_cases h1 : b = -1
        · rw [if_pos h1]
          by_cases h2 : a = -9223372036854775808
          · rw [if_pos h2, b3_f]
            rw [Int.mul_comm]
            exact not_fits_min (by rw [h1]; rfl) (by rw [h2, min64])
          · rw [if_neg h2]; exact core (fun q => h2 q.2)
        · rw [if_neg h1]; exact core (fun q => h1 q.1)
      by_cases h1 : a = -1
      · rw [if_pos h1]
        by_cases h2 : b = -9223372036854775808
        · rw [if_pos h2, b3_f]
          exact not_fits_min (by rw [h1]; rfl) (by rw [h2, min64])
        · rw [if_neg h2]; exact tail
      · rw [if_neg h1]; exact tail
end FRAC
