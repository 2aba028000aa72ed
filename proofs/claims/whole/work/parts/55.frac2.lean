section FRAC2
variable {N : Nat} {s : vS} {m : vM}
theorem fg_toInt {a b : Int64} (hb : 0 < b.toInt) : (fg a b).toInt = (Nat.gcd (ab a) (ab b) : Int) := by
  have h := fit0_i b
  have h1 : Nat.gcd (ab a) (ab b) ≤ ab b := Nat.gcd_le_right _ (by unfold ab; omega)
  unfold fg
  rw [← Int64.ofInt_eq_ofNat, Int64.toInt_ofInt_of_le (by omega) (by unfold ab at *; omega)]
theorem fg_pos {a b : Int64} (hb : 0 < b.toInt) : 0 < (fg a b).toInt := by
  rw [fg_toInt hb]
  have : 0 < Nat.gcd (ab a) (ab b) := Nat.gcd_pos_of_pos_right _ (by unfold ab; omega)
  omega
theorem fg_n0 {a b : Int64} (hb : 0 < b.toInt) : ¬ fg a b = 0 := pos64 (fg_pos hb)
theorem divp {x g : Int64} (hg : 0 < g.toInt) : (x / g).toInt = x.toInt.tdiv g.toInt := Int64.toInt_div_of_ne_right _ _ (fun e => by rw [e] at hg; exact absurd hg (by decide))
theorem div_pos {x g : Int64} (hx : 0 < x.toInt) (hg : 0 < g.toInt) (hd : g.toInt ≤ x.toInt) : 0 < (x / g).toInt := by
  rw [divp hg, Int.tdiv_eq_ediv_of_nonneg (by omega)]
  have : 1 ≤ x.toInt / g.toInt := by
    rw [Int.le_ediv_iff_mul_le hg]; omega
  omega
theorem fg_le_r {a b : Int64} (hb : 0 < b.toInt) : (fg a b).toInt ≤ b.toInt := by
  rw [fg_toInt hb]
  have h1 : Nat.gcd (ab a) (ab b) ≤ ab b := Nat.gcd_le_right _ (by unfold ab; omega)
  unfold ab at *
  omega
theorem fg_le_l {a b : Int64} (hb : 0 < b.toInt) (ha : 0 < a.toInt) : (fg a b).toInt ≤ a.toInt := by
  rw [fg_toInt hb]
  have h1 : Nat.gcd (ab a) (ab b) ≤ ab a := Nat.gcd_le_left _ (by unfold ab; omega)
  unfold ab at *
  omega
/-- in lowest terms -/
def red (u v : Int64) : Int64 × Int64 := (u / fg u v, v / fg u v)
theorem red_pos {u v : Int64} (h : 0 < v.toInt) : 0 < (red u v).2.toInt := div_pos h (fg_pos h) (fg_le_r h)
def fmul (a b c d : Int64) : Option (Int64 × Int64) := if fits ((a / fg a d).toInt * (c / fg c b).toInt) ∧ fits ((b / fg c b).toInt * (d / fg a d).toInt) then some (red ((a / fg a d) * (c / fg c b)) ((b / fg c b) * (d / fg a d))) else none
def fadd (a b c d : Int64) : Option (Int64 × Int64) := if fits (a.toInt * (d / fg b d).toInt) ∧ fits (c.toInt * (b / fg b d).toInt) ∧ fits (b.toInt * (d / fg b d).toInt) ∧ fits ((a * (d / fg b d)).toInt + (c * (b / fg b d)).toInt) then some (red (a * (d / fg b d) + c * (b / fg b d)) (b * (d / fg b d))) else none
theorem mulpos {x y : Int64} (hx : 0 < x.toInt) (hy : 0 < y.toInt) (h : fits (x.toInt * y.toInt)) : 0 < (x * y).toInt := by
  rw [mul64 h]
  exact Int.mul_pos hx hy
theorem fmul_pos {a b c d : Int64} (hb : 0 < b.toInt) (hd : 0 < d.toInt) {p : Int64 × Int64} (h : fmul a b c d = some p) : 0 < p.2.toInt := by
  unfold fmul at h
  obtain ⟨h1, h⟩ := v_chk h
  cases h
  exact red_pos (mulpos (div_pos hb (fg_pos hb) (fg_le_r hb)) (div_pos hd (fg_pos hd) (fg_le_r hd)) h1.2)
theorem fadd_pos {a b c d : Int64} (hb : 0 < b.toInt) (hd : 0 < d.toInt) {p : Int64 × Int64} (h : fadd a b c d = some p) : 0 < p.2.toInt := by
  unfold fadd at h
  obtain ⟨h1, h⟩ := v_chk h
  cases h
  exact red_pos (mulpos hb (div_pos hd (fg_pos hd) (fg_le_r hd)) h1.2.2.1)
theorem fmul_comm (a b c d : Int64) : fmul a b c d = fmul c d a b := by
  unfold fmul
  rw [Int.mul_comm (a / fg a d).toInt, Int.mul_comm (b / fg c b).toInt, Int64.mul_comm (a / fg a d), Int64.mul_comm (b / fg c b)]
/-! the class's fraction at f -/
def wF (m : vM) (f : Nat) (p : Int64 × Int64) : vM := wJ (wJ m f 0 p.1) f 1 p.2
theorem c_become {f : Nat} {a b : Int64} (hf : isOc f 2 = true) (hN : 100 ≤ N) (hb : 0 < b.toInt) : F_X2_become N f a b (S m) = some ((), S (wF m f (red a b))) := by
  have hb1 : (1 : Int64) ≤ b := by rw [Int64.le_iff_toInt_le]; show (1 : Int) ≤ _; omega
  simp only [F_X2_become, rcv, ldI, ldJ, ldR, stI, stZ, stJ, stR, alI, alJ, alZ, alR, asI, asJ, asZ, nm, isO_S, isA_S, gI_S, gJ_S, gR_S, setI_S, setJ_S, orN_s, bnd_s, if_true, if_false, ite_true, and_self, and_true, true_and, or_true, true_or, lg_cmp_ge, lg_cmp_le, lg_cmp_gt, lg_cmp_lt, lg_cmp_eq, hf, hb1, c_greatestIn hN hb, nzJ_l (fg_n0 hb)]
  rfl
theorem c_times {f : Nat} {c d : Int64} (hf : isOc f 2 = true) (hN : 100 ≤ N) (hb : 0 < (rJ m f 1).toInt) (hd : 0 < d.toInt) : F_X2_times N f c d (S m) = some (match fmul (rJ m f 0) (rJ m f 1) c d with | some p => (1, S (wF m f p)) | none => (0, S m)) := by
  have h1 := c_greatestIn (N := N) (s := S m) (a := rJ m f 0) hN hd
  have h2 := c_greatestIn (N := N) (s := S m) (a := c) hN hb
  simp only [F_X2_times, rcv, ldI, ldJ, ldR, stI, stZ, stJ, stR, alI, alJ, alZ, alR, asI, asJ, asZ, nm, isO_S, isA_S, gI_S, gJ_S, gR_S, setI_S, setJ_S, orN_s, bnd_s, if_true, if_false, ite_true, and_self, and_true, true_and, or_true, true_or, hf, h1, h2, nzJ_l (fg_n0 hd), nzJ_l (fg_n0 hb)]
  simp only [c_isBeyond, bnd_s, b3_if, J_X2_times_70, rtZ_0]
  unfold fmul
  by_cases g1 : fits ((rJ m f 0 / fg (rJ m f 0) d).toInt * (c / fg c (rJ m f 1)).toInt)
  · by_cases g2 : fits ((rJ m f 1 / fg c (rJ m f 1)).toInt * (d / fg (rJ m f 0) d).toInt)
    · have hp := mulpos (div_pos hb (fg_pos (a := c) hb) (fg_le_r hb)) (div_pos hd (fg_pos (a := rJ m f 0) hd) (fg_le_r hd)) g2
      rw [if_pos g1, if_pos g2, if_pos ⟨g1, g2⟩]
      simp only [c_greatestIn hN hp, rcv, ldI, ldJ, ldR, stI, stZ, stJ, stR, alI, alJ, alZ, alR, asI, asJ, asZ, nm, isO_S, isA_S, gI_S, gJ_S, gR_S, setI_S, setJ_S, orN_s, bnd_s, if_true, if_false, ite_true, and_self, and_true, true_and, or_true, true_or, hf, nzJ_l (fg_n0 hp), rtZ_1]
      rfl
    · rw [if_pos g1, if_neg g2, if_neg (fun q => g2 q.2)]
  · rw [if_neg g1, if_neg (fun q => g1 q.1)]
end FRAC2
