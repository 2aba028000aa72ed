section OVER
variable {N : Nat} {s : vS} {m : vM}
abbrev fit0 (z : Int) : Prop := -2 ^ 63 ≤ z ∧ z < 2 ^ 63
theorem bm_fit0 {z : Int} (h : fit0 z) : z.bmod (2 ^ 64) = z := by
  obtain ⟨h1, h2⟩ := h
  exact Int.bmod_eq_of_le (by omega) (by omega)
theorem bm_in (z : Int) : fit0 (z.bmod (2 ^ 64)) := by
  have h1 := Int.le_bmod (x := z) (m := 2 ^ 64) (by decide)
  have h2 := Int.bmod_lt (x := z) (m := 2 ^ 64) (by decide)
  unfold fit0
  omega
theorem bm_ex (z : Int) : ∃ t : Int, z.bmod (2 ^ 64) = z - 2 ^ 64 * t := by
  refine ⟨Int.bdiv z (2 ^ 64), ?_⟩
  have := Int.bmod_eq_self_sub_mul_bdiv z (2 ^ 64)
  rw [this]
  rfl
theorem fit0_i (x : Int64) : fit0 x.toInt := ⟨x.le_toInt, x.toInt_lt⟩
theorem mul64z {a b : Int64} (h : fit0 (a.toInt * b.toInt)) : (a * b).toInt = a.toInt * b.toInt := by rw [Int64.toInt_mul, bm_fit0 h]
theorem neg1 : (-1 : Int64).toInt = -1 := rfl
theorem min64 : (-9223372036854775808 : Int64).toInt = -2 ^ 63 := by decide +kernel
theorem over64z {a b : Int64} (hb : ¬ b = 0) (hs : ¬ (b = -1 ∧ a = -9223372036854775808)) : (a * b) / b = a ↔ fit0 (a.toInt * b.toInt) := by
  have hB : b.toInt ≠ 0 := fun h => hb (Int64.toInt_inj.mp h)
  constructor
  · intro h
    have h1 := congrArg Int64.toInt h
    rw [Int64.toInt_div, Int64.toInt_mul] at h1
    have hq := bm_in (a.toInt * b.toInt)
    obtain ⟨t, ht⟩ := bm_ex (a.toInt * b.toInt)
    generalize hQ : (a.toInt * b.toInt).bmod (2 ^ 64) = Q at h1 hq ht
    have hd := Int.tmod_add_mul_tdiv Q b.toInt
    have hr : (Q.tmod b.toInt).natAbs < b.toInt.natAbs := by
      rw [Int.natAbs_tmod]
      exact Nat.mod_lt _ (by omega)
    have hdv : (Q.tdiv b.toInt).natAbs ≤ Q.natAbs := by
      rw [Int.natAbs_tdiv]
      exact Nat.div_le_self _ _
    have hb1 := fit0_i b
    have ha1 := fit0_i a
    unfold fit0 at hq hb1 ha1
    -- the quotient is in range, or it is the one that wraps
    by_cases hw : fit0 (Q.tdiv b.toInt)
    · rw [bm_fit0 hw] at h1
      rw [h1] at hd
      have e : Q.tmod b.toInt = -(2 ^ 64 * t) := by
        have : b.toInt * a.toInt = a.toInt * b.toInt := Int.mul_comm _ _
        omega
      have ht0 : t = 0 := by
        rcases Int.lt_trichotomy t 0 with h0 | h0 | h0
        · exfalso; omega
        · exact h0
        · exfalso; omega
      subst ht0
      unfold fit0
      omega
    · exfalso
      have hv : Q.tdiv b.toInt = 2 ^ 63 := by unfold fit0 at hw; omega
      rw [hv] at h1 hd
      have ha : a.toInt = -2 ^ 63 := by rw [← h1]; decide
      have hbm : b.toInt = -1 := by omega
      exact hs ⟨Int64.toInt_inj.mp (by rw [hbm, neg1]), Int64.toInt_inj.mp (by rw [ha, min64])⟩
  · intro h
    apply Int64.toInt_inj.mp
    rw [Int64.toInt_div, mul64z h, Int.mul_tdiv_cancel _ hB, bm_fit0 (fit0_i a)]
theorem not_fit0_min {a b : Int64} (h1 : a.toInt = -1) (h2 : b.toInt = -2 ^ 63) : ¬ fit0 (a.toInt * b.toInt) := by
  rw [h1, h2]
  unfold fit0
  omega
theorem lt0_msb (x : Int64) : x < 0 ↔ x.toBitVec.msb = true := by
  rw [Int64.lt_iff_toInt_lt, BitVec.msb_eq_toInt, decide_eq_true_iff]
  exact Iff.rfl
theorem msb_i (x : Int64) : x.toBitVec.msb = decide (x.toInt < 0) := by rw [BitVec.msb_eq_toInt]; rfl
/-- the sum of two is beyond a long -/
theorem over_addz (a b : Int64) : ((a ^^^ (a + b)) &&& (b ^^^ (a + b))) < 0 ↔ ¬ fit0 (a.toInt + b.toInt) := by
  rw [lt0_msb, Int64.toBitVec_and, Int64.toBitVec_xor, Int64.toBitVec_xor, BitVec.msb_and, BitVec.msb_xor, BitVec.msb_xor, msb_i, msb_i, msb_i, Int64.toInt_add]
  have ha := fit0_i a
  have hb := fit0_i b
  have hq := bm_in (a.toInt + b.toInt)
  obtain ⟨t, ht⟩ := bm_ex (a.toInt + b.toInt)
  generalize (a.toInt + b.toInt).bmod (2 ^ 64) = Q at hq ht ⊢
  unfold fit0 at *
  by_cases h1 : a.toInt < 0 <;> by_cases h2 : b.toInt < 0 <;> by_cases h3 : Q < 0 <;> simp only [h1, h2, h3, decide_true, decide_false, Bool.true_xor, Bool.false_xor, Bool.not_true, Bool.not_false, Bool.and_true, Bool.true_and, Bool.and_false, Bool.false_and, Bool.xor_self, Bool.xor_false, Bool.xor_true, true_iff, false_iff, Bool.false_eq_true, Classical.not_not] <;> omega
theorem add64z {a b : Int64} (h : fit0 (a.toInt + b.toInt)) : (a + b).toInt = a.toInt + b.toInt := by rw [Int64.toInt_add, bm_fit0 h]
def fitB (z : Int) : Bool := decide (fit0 z)
abbrev fits (z : Int) : Prop := fitB z = true
theorem fits_iff {z : Int} : fits z ↔ fit0 z := decide_eq_true_iff
theorem bm_fits {z : Int} (h : fits z) : z.bmod (2 ^ 64) = z := bm_fit0 (fits_iff.mp h)
theorem mul64 {a b : Int64} (h : fits (a.toInt * b.toInt)) : (a * b).toInt = a.toInt * b.toInt := mul64z (fits_iff.mp h)
theorem over64 {a b : Int64} (hb : ¬ b = 0) (hs : ¬ (b = -1 ∧ a = -9223372036854775808)) : (a * b) / b = a ↔ fits (a.toInt * b.toInt) := (over64z hb hs).trans fits_iff.symm
theorem not_fits_min {a b : Int64} (h1 : a.toInt = -1) (h2 : b.toInt = -2 ^ 63) : ¬ fits (a.toInt * b.toInt) := fun h => not_fit0_min h1 h2 (fits_iff.mp h)
theorem over_add (a b : Int64) : ((a ^^^ (a + b)) &&& (b ^^^ (a + b))) < 0 ↔ ¬ fits (a.toInt + b.toInt) := (over_addz a b).trans (not_congr fits_iff.symm)
theorem add64 {a b : Int64} (h : fits (a.toInt + b.toInt)) : (a + b).toInt = a.toInt + b.toInt := add64z (fits_iff.mp h)
theorem fits_0 : fits 0 := fits_iff.mpr (by omega)
end OVER
