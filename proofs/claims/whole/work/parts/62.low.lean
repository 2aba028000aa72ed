section LOW
variable {N : Nat} {m : vM}
/-- in lowest terms, what is below the line above 0 -/
def Low (p : Int64 × Int64) : Prop := 0 < p.2.toInt ∧ Nat.gcd (ab p.1) (ab p.2) = 1
theorem Low_0 : Low (0, 1) := by
  refine ⟨by decide, ?_⟩
  decide +kernel
theorem red_low {u v : Int64} (h : 0 < v.toInt) : Low (red u v) := by
  refine ⟨red_pos h, ?_⟩
  have hg := fg_toInt (a := u) h
  have hgp := fg_pos (a := u) h
  have hab : ∀ x : Int64, (Nat.gcd (ab u) (ab v)) ∣ ab x → ab (x / fg u v) = ab x / Nat.gcd (ab u) (ab v) := by
    intro x _
    unfold ab at *
    rw [divp hgp, Int.natAbs_tdiv, hg]
    rfl
  show Nat.gcd (ab (u / fg u v)) (ab (v / fg u v)) = 1
  rw [hab u (Nat.gcd_dvd_left _ _), hab v (Nat.gcd_dvd_right _ _)]
  exact Nat.gcd_div_gcd_div_gcd_of_pos_right (by unfold ab; omega)
theorem div_1 (x : Int64) : x / 1 = x := by
  apply Int64.toInt_inj.mp
  rw [divp (by decide)]
  exact Int.tdiv_one _
theorem red_of {p : Int64 × Int64} (h : Low p) : red p.1 p.2 = p := by
  have e : fg p.1 p.2 = 1 := by
    unfold fg
    rw [h.2]
    rfl
  unfold red
  rw [e, div_1, div_1]
theorem fmul_low {a b c d : Int64} (hb : 0 < b.toInt) (hd : 0 < d.toInt) {p : Int64 × Int64} (h : fmul a b c d = some p) : Low p := by
  unfold fmul at h
  obtain ⟨h1, h⟩ := v_chk h
  cases h
  exact red_low (mulpos (div_pos hb (fg_pos hb) (fg_le_r hb)) (div_pos hd (fg_pos hd) (fg_le_r hd)) h1.2)
theorem fadd_low {a b c d : Int64} (hb : 0 < b.toInt) (hd : 0 < d.toInt) {p : Int64 × Int64} (h : fadd a b c d = some p) : Low p := by
  unfold fadd at h
  obtain ⟨h1, h⟩ := v_chk h
  cases h
  exact red_low (mulpos hb (div_pos hd (fg_pos hd) (fg_le_r hd)) h1.2.2.1)
end LOW
