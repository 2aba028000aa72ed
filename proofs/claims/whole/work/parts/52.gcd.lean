section GCD
variable {N : Nat} {s : vS}
def fb : Nat → Nat
  | 0 => 1
  | 1 => 2
  | n + 2 => fb (n + 1) + fb n
def fp : Nat → Nat × Nat
  | 0 => (1, 2)
  | n + 1 => match fp n with
    | (a, b) => (b, b + a)
theorem fp_eq : ∀ n, fp n = (fb n, fb (n + 1))
  | 0 => rfl
  | n + 1 => by
    unfold fp
    rw [fp_eq n]
    rfl
theorem fb_91 : 2 ^ 63 < fb 91 := by
  have h : (fp 91).1 = fb 91 := by rw [fp_eq]
  rw [← h]
  decide +kernel
theorem fb_pos : ∀ n, 0 < fb n
  | 0 => by decide
  | 1 => by decide
  | n + 2 => by have := fb_pos n; show 0 < fb (n + 1) + fb n; omega
/-- Euclid's steps, by Fibonacci's numbers: whatever falls so is at its end -/
theorem euclid_ind (P : Nat → Nat → Nat → Prop) (h0 : ∀ k x, P k x 0) (hs : ∀ k x y, 0 < y → P k y (x % y) → P (k + 1) x y) : ∀ k x y, y < fb k → P k x y
  | 0, x, y, h => by
    have h : y < 1 := h
    obtain rfl : y = 0 := by omega
    exact h0 0 x
  | 1, x, y, h => by
    have h : y < 2 := h
    rcases (show y = 0 ∨ y = 1 by omega) with rfl | rfl
    · exact h0 1 x
    · exact hs 0 x 1 (by omega) (by rw [Nat.mod_one]; exact h0 0 1)
  | k + 2, x, y, h => by
    have h : y < fb (k + 1) + fb k := h
    rcases Nat.eq_zero_or_pos y with rfl | hy
    · exact h0 _ x
    · refine hs (k + 1) x y hy ?_
      by_cases h1 : x % y < fb (k + 1)
      · exact euclid_ind P h0 hs (k + 1) y (x % y) h1
      · have h2 : 0 < x % y := by have := fb_pos (k + 1); omega
        refine hs k y (x % y) h2 (euclid_ind P h0 hs k (x % y) (y % (x % y)) ?_)
        have h3 := Nat.mod_add_div y (x % y)
        have h4 : x % y < y := Nat.mod_lt _ hy
        have h5 : 1 ≤ y / (x % y) := (Nat.one_le_div_iff h2).mpr (Nat.le_of_lt h4)
        have h6 : x % y ≤ x % y * (y / (x % y)) := Nat.le_mul_of_pos_right _ h5
        omega
def ab (x : Int64) : Nat := x.toInt.natAbs
/-- the greatest that divides both -/
def fg (a b : Int64) : Int64 := Int64.ofNat (Nat.gcd (ab a) (ab b))
theorem ab_lt (x : Int64) : ab x < fb 91 := by
  have h1 := x.toInt_lt
  have h2 := x.le_toInt
  have h3 := fb_91
  unfold ab
  omega
theorem div64 (x y : Int64) : x / y = Int64.ofInt (x.toInt.tdiv y.toInt) := by
  apply Int64.toInt_inj.mp
  rw [Int64.toInt_div, Int64.toInt_ofInt]
theorem rem64 (x y : Int64) (hy : ¬ y = 0) : (x - x / y * y).toInt = x.toInt.tmod y.toInt := by
  have e : x - x / y * y = Int64.ofInt (x.toInt.tmod y.toInt) := by
    have h : x.toInt.tmod y.toInt = x.toInt - y.toInt * x.toInt.tdiv y.toInt := by
      have := Int.tmod_add_mul_tdiv x.toInt y.toInt
      omega
    rw [h, Int64.ofInt_sub, Int64.ofInt_mul, Int64.ofInt_toInt, Int64.ofInt_toInt, div64, Int64.mul_comm]
  rw [e]
  have h1 := x.toInt_lt
  have h2 := x.le_toInt
  have h3 : (x.toInt.tmod y.toInt).natAbs ≤ x.toInt.natAbs := by
    rw [Int.natAbs_tmod]
    exact Nat.mod_le _ _
  by_cases hx : 0 ≤ x.toInt
  · have h4 := Int.tmod_nonneg y.toInt hx
    exact Int64.toInt_ofInt_of_le (by omega) (by omega)
  · have h4 : (x.toInt.tmod y.toInt) ≤ 0 := by
      have h5 := Int.tmod_nonneg y.toInt (show 0 ≤ -x.toInt by omega)
      rw [Int.neg_tmod] at h5
      omega
    exact Int64.toInt_ofInt_of_le (by omega) (by omega)
theorem ab_rem (x y : Int64) (hy : ¬ y = 0) : ab (x - x / y * y) = ab x % ab y := by
  unfold ab
  rw [rem64 x y hy, Int.natAbs_tmod]
theorem ab_0 (y : Int64) : ab y = 0 ↔ y = 0 := by
  unfold ab
  rw [Int.natAbs_eq_zero]
  constructor
  · intro h; exact Int64.toInt_inj.mp h
  · rintro rfl; rfl
theorem ofNat_ab {x : Int64} (h : 0 ≤ x) : Int64.ofNat (ab x) = x := by
  have h := Int64.le_iff_toInt_le.mp h
  have h0 : (0 : Int64).toInt = 0 := rfl
  rw [h0] at h
  unfold ab
  rw [← Int64.ofInt_eq_ofNat, Int.natAbs_of_nonneg h, Int64.ofInt_toInt]
theorem ofNat_abn {x : Int64} (h : ¬ 0 ≤ x) : Int64.ofNat (ab x) = -x := by
  have h := mt Int64.le_iff_toInt_le.mpr h
  have h0 : (0 : Int64).toInt = 0 := rfl
  rw [h0] at h
  unfold ab
  rw [← Int64.ofInt_eq_ofNat, show ((x.toInt.natAbs : Nat) : Int) = -x.toInt by omega, Int64.ofInt_neg, Int64.ofInt_toInt]
theorem m_common_l : ∀ (k : Nat) (x y : Nat), y < fb k → ∀ (a b : Int64) (n : Nat), ab a = x → ab b = y → k < n → H_X9_common_6 N n a b s = some (Int64.ofNat (Nat.gcd x y), s) := by
  refine euclid_ind (fun k x y => ∀ (a b : Int64) (n : Nat), ab a = x → ab b = y → k < n → H_X9_common_6 N n a b s = some (Int64.ofNat (Nat.gcd x y), s)) ?_ ?_
  · intro k x a b n ha hb hn
    obtain ⟨n, rfl⟩ : ∃ k, n = k + 1 := ⟨n - 1, by omega⟩
    obtain rfl := (ab_0 b).mp hb
    unfold H_X9_common_6
    simp only [lg_cmp_ge, lg_cmp_le, lg_cmp_gt, lg_cmp_lt, lg_cmp_eq, if_true, J_X9_common_46]
    rw [Nat.gcd_zero_right, ← ha]
    by_cases h : 0 ≤ a
    · rw [if_pos h, ofNat_ab h]
    · rw [if_neg h, ofNat_abn h]
  · intro k x y hy ih a b n ha hb hn
    obtain ⟨n, rfl⟩ : ∃ k, n = k + 1 := ⟨n - 1, by omega⟩
    have hb0 : ¬ b = 0 := fun h => by rw [(ab_0 b).mpr h] at hb; omega
    have h1 := ih b (a - a / b * b) n hb (by rw [ab_rem a b hb0, ha, hb]) (by omega)
    unfold H_X9_common_6
    simp only [lg_cmp_ge, lg_cmp_le, lg_cmp_gt, lg_cmp_lt, lg_cmp_eq, hb0, if_false, nzJ_l hb0, nm]
    rw [h1, Nat.gcd_comm y, ← Nat.gcd_rec, Nat.gcd_comm]
theorem m_common (a b : Int64) (hN : 100 ≤ N) : F_X9_common N a b s = some (fg a b, s) := by
  unfold F_X9_common
  exact m_common_l 91 _ _ (ab_lt b) a b N rfl rfl (by omega)
end GCD
