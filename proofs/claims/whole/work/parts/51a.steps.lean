/-! one step at the head of a function over the picture -/
section STEPS
variable {ρ α : Type} {m : vM} {s : vS} {R : Option ρ}
theorem litn (n : Nat) : (OfNat.ofNat n : Int32) = nI (OfNat.ofNat n) := rfl
theorem e_rcv {a ci : Nat} {o : Option ρ} (h : isOc a ci = true) (k : o = R) : rcv (S m) a ci o = R := (if_pos h).trans k
theorem e_ldI {a ci j : Nat} {f : Int32 → Option ρ} (h : isOc a ci = true) (k : f (rI m a j) = R) : ldI (S m) a ci j f = R := (if_pos h).trans k
theorem e_ldJ {a ci j : Nat} {f : Int64 → Option ρ} (h : isOc a ci = true) (k : f (rJ m a j) = R) : ldJ (S m) a ci j f = R := (if_pos h).trans k
theorem e_ldR {a ci j r : Nat} {f : Nat → Option ρ} (h : isOc a ci = true) (h2 : RRf a j = some r) (k : f r = R) : ldR (S m) a ci j f = R := by
  refine (if_pos h).trans ?_
  rw [gR_S, h2]
  exact k
theorem e_stI {a ci j : Nat} {v : Int32} {f : vS → Option ρ} (h : isOc a ci = true) (k : f (S (wI m a j v)) = R) : stI (S m) a ci j v f = R := (if_pos h).trans k
theorem e_stJ {a ci j : Nat} {v : Int64} {f : vS → Option ρ} (h : isOc a ci = true) (k : f (S (wJ m a j v)) = R) : stJ (S m) a ci j v f = R := (if_pos h).trans k
theorem e_stZ {a ci j : Nat} {v : Int32} {f : vS → Option ρ} (h : isOc a ci = true) (h2 : v = 0 ∨ v = 1) (k : f (S (wI m a j v)) = R) : stZ (S m) a ci j v f = R := (if_pos ⟨h, h2⟩).trans k
theorem isA_ok {a kd j n : Nat} {i : Int32} (h : ∀ i, isAc a kd i = inb i n) (hi : i = nI j) (hj : j < n ∧ n < 2 ^ 31) : isA (S m) a kd i = true := by
  rw [isA_S, h, hi]
  exact inb_nI hj.1 hj.2
theorem cl_ok {j n : Nat} {i : Int32} (hi : i = nI j) (hj : j < n ∧ n < 2 ^ 31) : i.toNatClampNeg = j := by
  rw [hi]; exact nI_clamp (by omega)
theorem e_alI {a j n : Nat} {i : Int32} {f : Int32 → Option ρ} (h : ∀ i, isAc a 1 i = inb i n) (hi : i = nI j) (hj : j < n ∧ n < 2 ^ 31) (k : f (rI m a j) = R) : alI (S m) a i f = R := by
  refine (if_pos (isA_ok h hi hj)).trans ?_
  rw [cl_ok hi hj]; exact k
theorem e_alZ {a j n : Nat} {i : Int32} {f : Int32 → Option ρ} (h : ∀ i, isAc a 3 i = inb i n) (hi : i = nI j) (hj : j < n ∧ n < 2 ^ 31) (k : f (rI m a j) = R) : alZ (S m) a i f = R := by
  refine (if_pos (isA_ok h hi hj)).trans ?_
  rw [cl_ok hi hj]; exact k
theorem e_alJ {a j n : Nat} {i : Int32} {f : Int64 → Option ρ} (h : ∀ i, isAc a 2 i = inb i n) (hi : i = nI j) (hj : j < n ∧ n < 2 ^ 31) (k : f (rJ m a j) = R) : alJ (S m) a i f = R := by
  refine (if_pos (isA_ok h hi hj)).trans ?_
  rw [cl_ok hi hj]; exact k
theorem e_alR {a kd j n r : Nat} {i : Int32} {f : Nat → Option ρ} (h : ∀ i, isAc a kd i = inb i n) (hkd : 4 ≤ kd ∧ kd ≤ 6) (hi : i = nI j) (hj : j < n ∧ n < 2 ^ 31) (h2 : RRf a j = some r) (k : f r = R) : alR (S m) a kd i f = R := by
  refine (if_pos ⟨isA_ok h hi hj, hkd⟩).trans ?_
  rw [cl_ok hi hj, gR_S, h2]; exact k
theorem e_asI {a j n : Nat} {i v : Int32} {f : vS → Option ρ} (h : ∀ i, isAc a 1 i = inb i n) (hi : i = nI j) (hj : j < n ∧ n < 2 ^ 31) (k : f (S (wI m a j v)) = R) : asI (S m) a i v f = R := by
  refine (if_pos (isA_ok h hi hj)).trans ?_
  rw [cl_ok hi hj]; exact k
theorem e_asZ {a j n : Nat} {i v : Int32} {f : vS → Option ρ} (h : ∀ i, isAc a 3 i = inb i n) (hi : i = nI j) (hj : j < n ∧ n < 2 ^ 31) (h2 : v = 0 ∨ v = 1) (k : f (S (wI m a j v)) = R) : asZ (S m) a i v f = R := by
  refine (if_pos ⟨isA_ok h hi hj, h2⟩).trans ?_
  rw [cl_ok hi hj]; exact k
theorem e_asJ {a j n : Nat} {i : Int32} {v : Int64} {f : vS → Option ρ} (h : ∀ i, isAc a 2 i = inb i n) (hi : i = nI j) (hj : j < n ∧ n < 2 ^ 31) (k : f (S (wJ m a j v)) = R) : asJ (S m) a i v f = R := by
  refine (if_pos (isA_ok h hi hj)).trans ?_
  rw [cl_ok hi hj]; exact k
theorem e_nm {e : α} {f : α → Option ρ} (k : f e = R) : nm e f = R := k
theorem e_nzI {y : Int32} {o : Option ρ} (h : ¬ y = 0) (k : o = R) : nzI y o = R := (if_pos h).trans k
theorem e_nzJ {y : Int64} {o : Option ρ} (h : ¬ y = 0) (k : o = R) : nzJ y o = R := (if_pos h).trans k
theorem e_bnd {o : Option (α × vS)} {f : α → vS → Option ρ} {r : α} {s' : vS} (h : o = some (r, s')) (k : f r s' = R) : bnd o f = R := by rw [h]; exact k
theorem e_t {c : Prop} [Decidable c] {A B : Option ρ} (h : c) (k : A = R) : (if c then A else B) = R := (if_pos h).trans k
theorem e_f {c : Prop} [Decidable c] {A B : Option ρ} (h : ¬ c) (k : B = R) : (if c then A else B) = R := (if_neg h).trans k
theorem e_i {c : Prop} [Decidable c] {A B : Option ρ} (ht : c → A = R) (hf : ¬ c → B = R) : (if c then A else B) = R := by
  by_cases h : c
  · exact e_t h (ht h)
  · exact e_f h (hf h)
theorem e_b {c : Prop} [Decidable c] {A B : Option ρ} (ht : c → A = R) (hf : ¬ c → B = R) : (if b2 c = (0 : Int32) then B else A) = R := by
  rw [b2_if]
  exact e_i ht hf
end STEPS
