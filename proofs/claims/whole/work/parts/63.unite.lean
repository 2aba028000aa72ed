section UNITE
variable {N : Nat} {m : vM}
abbrev Row : Type := Nat → Int64 × Int64
def rowC (m : vM) (a : Nat) : Row := fun k => (rJ m (a + 1) k, rJ m (a + 2) k)
def rowM (m : vM) (r : Nat) : Row := fun k => (rJ m 332 (29 * r + k), rJ m 333 (29 * r + k))
def Lows (row : Row) : Prop := ∀ k, k < 29 → Low (row k)
/-- a fraction more at one number -/
def acc (row : Row) (k : Nat) (q : Int64 × Int64) : Option Row := match fadd (row k).1 (row k).2 q.1 q.2 with
  | some p => some (fun j => if j = k then p else row j)
  | none => none
def sgn (less : Prop) [Decidable less] (p : Int64 × Int64) : Option (Int64 × Int64) := if less then fmul (-1) 1 p.1 p.2 else some p
/-- one row more, or less, number by number from i on -/
def sumF (o : Row) (less : Prop) [Decidable less] : Nat → Nat → Row → Option Row
  | 0, _, row => some row
  | d + 1, i, row => if (o i).1 = 0 then sumF o less d (i + 1) row else match sgn less (o i) with
    | none => none
    | some q => match acc row i q with
      | none => none
      | some row' => sumF o less d (i + 1) row'
theorem sum226 : SumAt 226 := ⟨by decide +kernel, rfl, rfl, fun _ => rfl, fun _ => rfl⟩
theorem acc_low {row row' : Row} {k : Nat} {q : Int64 × Int64} (hk : k < 29) (h : Lows row) (hq : 0 < q.2.toInt) (e : acc row k q = some row') : Lows row' := by
  unfold acc at e
  cases hf : fadd (row k).1 (row k).2 q.1 q.2 with
  | none => rw [hf] at e; cases e
  | some p =>
    rw [hf] at e
    cases e
    intro j hj
    by_cases z : j = k
    · show Low (if j = k then p else row j)
      rw [if_pos z]; exact fadd_low (h k hk).1 hq hf
    · show Low (if j = k then p else row j)
      rw [if_neg z]; exact h j hj
theorem one1 : 0 < (1 : Int64).toInt := by decide
theorem frac230 : isOc 230 2 = true := by decide +kernel
theorem c_u72 {b i : Nat} {l3 : Int32} {k11 : Nat → Nat → Int32 → Int32 → vS → Option (Int32 × vS)} {m1 : vM} {row : Row} {q : Int64 × Int64} {R : Option (Int32 × vS)} (hi : i < 29) (hN : 100 ≤ N) (h0 : rJ m1 230 0 = q.1) (h1 : rJ m1 230 1 = q.2) (hq : 0 < q.2.toInt) (hrow : rowC m1 226 i = row i) (hl : 0 < (row i).2.toInt)
    (hR : (match fadd (row i).1 (row i).2 q.1 q.2 with | some p => k11 223 b l3 (nI i + 1) (S (wQ m1 226 i p)) | none => some (0, S m1)) = R) : J_X0_unite_72 N k11 223 b l3 (nI i) (S m1) = R := by
  have e1 : rJ m1 (226 + 1) i = (row i).1 := congrArg Prod.fst hrow
  have e2 : rJ m1 (226 + 2) i = (row i).2 := congrArg Prod.snd hrow
  have hadd := c_add (N := N) (m := m1) sum226 frac230 hi hN (by rw [e2]; exact hl) (by rw [h1]; exact hq)
  rw [e1, e2, h0, h1] at hadd
  unfold J_X0_unite_72
  repeat (first | ((with_reducible refine e_nm ?_)) | ((with_reducible refine e_rcv ?hO ?_); (case hO => (with_reducible first | assumption | exact faO))) | ((with_reducible refine e_ldI ?hO ?_); (case hO => (with_reducible first | assumption | exact faO))) | ((with_reducible refine e_ldJ ?hO ?_); (case hO => (with_reducible first | assumption | exact faO))) | ((with_reducible refine e_ldR (r := ?_) ?hO ?hR ?_); (case hO => (with_reducible first | assumption | exact faO)); (case hR => (with_reducible first | assumption | exact faR0 | exact faR1 | exact faR2 | exact faR3 | exact faR4 | exact faR5 | exact faR6 | exact faR7))) | ((with_reducible refine e_stI ?hO ?_); (case hO => (with_reducible first | assumption | exact faO))) | ((with_reducible refine e_stJ ?hO ?_); (case hO => (with_reducible first | assumption | exact faO))) | ((with_reducible refine e_alI (j := ?_) (n := ?_) ?hA ?hI ?hB ?_); (case hA => (with_reducible first | assumption | exact faA2 | exact faA3)); (case hI => (first | with_reducible rfl | with_reducible exact litn _ | (simp only [mulL, addR, nI_add, pk_mul, nI_1]; with_reducible rfl) | (simp (disch := omega) only [mulL, addR, subR, nI_add, pk_mul, pk_sub, nI_1]; with_reducible rfl))); (case hB => (omega))) | ((with_reducible refine e_alJ (j := ?_) (n := ?_) ?hA ?hI ?hB ?_); (case hA => (with_reducible first | assumption | exact faA2 | exact faA3)); (case hI => (first | with_reducible rfl | with_reducible exact litn _ | (simp only [mulL, addR, nI_add, pk_mul, nI_1]; with_reducible rfl) | (simp (disch := omega) only [mulL, addR, subR, nI_add, pk_mul, pk_sub, nI_1]; with_reducible rfl))); (case hB => (omega))) | ((with_reducible refine e_alZ (j := ?_) (n := ?_) ?hA ?hI ?hB ?_); (case hA => (with_reducible first | assumption | exact faA2 | exact faA3)); (case hI => (first | with_reducible rfl | with_reducible exact litn _ | (simp only [mulL, addR, nI_add, pk_mul, nI_1]; with_reducible rfl) | (simp (disch := omega) only [mulL, addR, subR, nI_add, pk_mul, pk_sub, nI_1]; with_reducible rfl))); (case hB => (omega))) | ((with_reducible refine e_asI (j := ?_) (n := ?_) ?hA ?hI ?hB ?_); (case hA => (with_reducible first | assumption | exact faA2 | exact faA3)); (case hI => (first | with_reducible rfl | with_reducible exact litn _ | (simp only [mulL, addR, nI_add, pk_mul, nI_1]; with_reducible rfl) | (simp (disch := omega) only [mulL, addR, subR, nI_add, pk_mul, pk_sub, nI_1]; with_reducible rfl))); (case hB => (omega))) | ((with_reducible refine e_asJ (j := ?_) (n := ?_) ?hA ?hI ?hB ?_); (case hA => (with_reducible first | assumption | exact faA2 | exact faA3)); (case hI => (first | with_reducible rfl | with_reducible exact litn _ | (simp only [mulL, addR, nI_add, pk_mul, nI_1]; with_reducible rfl) | (simp (disch := omega) only [mulL, addR, subR, nI_add, pk_mul, pk_sub, nI_1]; with_reducible rfl))); (case hB => (omega))) | ((with_reducible refine e_nzI ?hZ ?_); (case hZ => (decide))) | ((with_reducible refine e_nzJ ?hZ ?_); (case hZ => (assumption))))
  cases hf : fadd (row i).1 (row i).2 q.1 q.2 with
  | none =>
    rw [hf] at hadd hR
    refine e_bnd hadd ?_
    refine e_t rfl ?_
    exact hR
  | some p =>
    rw [hf] at hadd hR
    refine e_bnd hadd ?_
    refine e_f (by decide) ?_
    unfold J_X0_unite_90
    repeat (first | ((with_reducible refine e_nm ?_)) | ((with_reducible refine e_rcv ?hO ?_); (case hO => (with_reducible first | assumption | exact faO))) | ((with_reducible refine e_ldI ?hO ?_); (case hO => (with_reducible first | assumption | exact faO))) | ((with_reducible refine e_ldJ ?hO ?_); (case hO => (with_reducible first | assumption | exact faO))) | ((with_reducible refine e_ldR (r := ?_) ?hO ?hR ?_); (case hO => (with_reducible first | assumption | exact faO)); (case hR => (with_reducible first | assumption | exact faR0 | exact faR1 | exact faR2 | exact faR3 | exact faR4 | exact faR5 | exact faR6 | exact faR7))) | ((with_reducible refine e_stI ?hO ?_); (case hO => (with_reducible first | assumption | exact faO))) | ((with_reducible refine e_stJ ?hO ?_); (case hO => (with_reducible first | assumption | exact faO))) | ((with_reducible refine e_alI (j := ?_) (n := ?_) ?hA ?hI ?hB ?_); (case hA => (with_reducible first | assumption | exact faA2 | exact faA3)); (case hI => (first | with_reducible rfl | with_reducible exact litn _ | (simp only [mulL, addR, nI_add, pk_mul, nI_1]; with_reducible rfl) | (simp (disch := omega) only [mulL, addR, subR, nI_add, pk_mul, pk_sub, nI_1]; with_reducible rfl))); (case hB => (omega))) | ((with_reducible refine e_alJ (j := ?_) (n := ?_) ?hA ?hI ?hB ?_); (case hA => (with_reducible first | assumption | exact faA2 | exact faA3)); (case hI => (first | with_reducible rfl | with_reducible exact litn _ | (simp only [mulL, addR, nI_add, pk_mul, nI_1]; with_reducible rfl) | (simp (disch := omega) only [mulL, addR, subR, nI_add, pk_mul, pk_sub, nI_1]; with_reducible rfl))); (case hB => (omega))) | ((with_reducible refine e_alZ (j := ?_) (n := ?_) ?hA ?hI ?hB ?_); (case hA => (with_reducible first | assumption | exact faA2 | exact faA3)); (case hI => (first | with_reducible rfl | with_reducible exact litn _ | (simp only [mulL, addR, nI_add, pk_mul, nI_1]; with_reducible rfl) | (simp (disch := omega) only [mulL, addR, subR, nI_add, pk_mul, pk_sub, nI_1]; with_reducible rfl))); (case hB => (omega))) | ((with_reducible refine e_asI (j := ?_) (n := ?_) ?hA ?hI ?hB ?_); (case hA => (with_reducible first | assumption | exact faA2 | exact faA3)); (case hI => (first | with_reducible rfl | with_reducible exact litn _ | (simp only [mulL, addR, nI_add, pk_mul, nI_1]; with_reducible rfl) | (simp (disch := omega) only [mulL, addR, subR, nI_add, pk_mul, pk_sub, nI_1]; with_reducible rfl))); (case hB => (omega))) | ((with_reducible refine e_asJ (j := ?_) (n := ?_) ?hA ?hI ?hB ?_); (case hA => (with_reducible first | assumption | exact faA2 | exact faA3)); (case hI => (first | with_reducible rfl | with_reducible exact litn _ | (simp only [mulL, addR, nI_add, pk_mul, nI_1]; with_reducible rfl) | (simp (disch := omega) only [mulL, addR, subR, nI_add, pk_mul, pk_sub, nI_1]; with_reducible rfl))); (case hB => (omega))) | ((with_reducible refine e_nzI ?hZ ?_); (case hZ => (decide))) | ((with_reducible refine e_nzJ ?hZ ?_); (case hZ => (assumption))))
    exact hR
theorem c_unite_l {b : Nat} (hb : SumAt b) (hbb : b + 2 < 226 ∨ 231 ≤ b) {less : Prop} [Decidable less] (hN : 100 ≤ N) : ∀ (d i n : Nat) (m : vM) (row : Row), i + d = 29 → d < n → (∀ k, k < 29 → rowC m 226 k = row k) → Lows row → Lows (rowC m b) →
    ∃ (m' : vM) (r : Int32), H_X0_unite_11 N n 223 b (b2 less) (nI i) (S m) = some (r, S m') ∧ (∀ a j, rI m' a j = rI m a j) ∧ (∀ a j, ¬ ((a = 227 ∨ a = 228) ∧ j < 29) → a ≠ 230 → rJ m' a j = rJ m a j) ∧ match sumF (rowC m b) less d i row with
      | some row' => r = 1 ∧ ∀ k, k < 29 → rowC m' 226 k = row' k
      | none => r = 0 := by
  obtain ⟨b1, b2_, b3_, b4, b5⟩ := id hb
  have f230 := frac230
  intro d
  induction d with
  | zero =>
    intro i n m row hi hn hrow hlow hlo
    obtain ⟨n, rfl⟩ : ∃ k, n = k + 1 := ⟨n - 1, by omega⟩
    refine ⟨m, 1, ?_, fun _ _ => rfl, fun _ _ _ _ => rfl, rfl, hrow⟩
    unfold H_X0_unite_11
    exact e_t (by simp (disch := omega) only [leL, leR, ltL, ltR, eqR, mulL, addR, clL, inL, nI_add, pk_mul, inb_nI, nI_clamp, nI_leI, nI_ltI, nI_eq, nI_1]; omega) rfl
  | succ d ih =>
    intro i n m row hi hn hrow hlow hlo
    obtain ⟨n, rfl⟩ : ∃ k, n = k + 1 := ⟨n - 1, by omega⟩
    have hi29 : i < 29 := by omega
    by_cases h0 : rJ m (b + 1) i = 0
    · obtain ⟨m', r, g1, g2, g3, g4⟩ := ih (i + 1) n m row (by omega) (by omega) hrow hlow hlo
      refine ⟨m', r, ?_, g2, g3, ?_⟩
      · unfold H_X0_unite_11
        refine e_f (by simp (disch := omega) only [leL, leR, ltL, ltR, eqR, mulL, addR, clL, inL, nI_add, pk_mul, inb_nI, nI_clamp, nI_leI, nI_ltI, nI_eq, nI_1]; omega) ?_
        repeat (first | ((with_reducible refine e_nm ?_)) | ((with_reducible refine e_rcv ?hO ?_); (case hO => (with_reducible first | assumption | exact faO))) | ((with_reducible refine e_ldI ?hO ?_); (case hO => (with_reducible first | assumption | exact faO))) | ((with_reducible refine e_ldJ ?hO ?_); (case hO => (with_reducible first | assumption | exact faO))) | ((with_reducible refine e_ldR (r := ?_) ?hO ?hR ?_); (case hO => (with_reducible first | assumption | exact faO)); (case hR => (with_reducible first | assumption | exact faR0 | exact faR1 | exact faR2 | exact faR3 | exact faR4 | exact faR5 | exact faR6 | exact faR7))) | ((with_reducible refine e_stI ?hO ?_); (case hO => (with_reducible first | assumption | exact faO))) | ((with_reducible refine e_stJ ?hO ?_); (case hO => (with_reducible first | assumption | exact faO))) | ((with_reducible refine e_alI (j := ?_) (n := ?_) ?hA ?hI ?hB ?_); (case hA => (with_reducible first | assumption | exact faA2 | exact faA3)); (case hI => (first | with_reducible rfl | with_reducible exact litn _ | (simp only [mulL, addR, nI_add, pk_mul, nI_1]; with_reducible rfl) | (simp (disch := omega) only [mulL, addR, subR, nI_add, pk_mul, pk_sub, nI_1]; with_reducible rfl))); (case hB => (omega))) | ((with_reducible refine e_alJ (j := ?_) (n := ?_) ?hA ?hI ?hB ?_); (case hA => (with_reducible first | assumption | exact faA2 | exact faA3)); (case hI => (first | with_reducible rfl | with_reducible exact litn _ | (simp only [mulL, addR, nI_add, pk_mul, nI_1]; with_reducible rfl) | (simp (disch := omega) only [mulL, addR, subR, nI_add, pk_mul, pk_sub, nI_1]; with_reducible rfl))); (case hB => (omega))) | ((with_reducible refine e_alZ (j := ?_) (n := ?_) ?hA ?hI ?hB ?_); (case hA => (with_reducible first | assumption | exact faA2 | exact faA3)); (case hI => (first | with_reducible rfl | with_reducible exact litn _ | (simp only [mulL, addR, nI_add, pk_mul, nI_1]; with_reducible rfl) | (simp (disch := omega) only [mulL, addR, subR, nI_add, pk_mul, pk_sub, nI_1]; with_reducible rfl))); (case hB => (omega))) | ((with_reducible refine e_asI (j := ?_) (n := ?_) ?hA ?hI ?hB ?_); (case hA => (with_reducible first | assumption | exact faA2 | exact faA3)); (case hI => (first | with_reducible rfl | with_reducible exact litn _ | (simp only [mulL, addR, nI_add, pk_mul, nI_1]; with_reducible rfl) | (simp (disch := omega) only [mulL, addR, subR, nI_add, pk_mul, pk_sub, nI_1]; with_reducible rfl))); (case hB => (omega))) | ((with_reducible refine e_asJ (j := ?_) (n := ?_) ?hA ?hI ?hB ?_); (case hA => (with_reducible first | assumption | exact faA2 | exact faA3)); (case hI => (first | with_reducible rfl | with_reducible exact litn _ | (simp only [mulL, addR, nI_add, pk_mul, nI_1]; with_reducible rfl) | (simp (disch := omega) only [mulL, addR, subR, nI_add, pk_mul, pk_sub, nI_1]; with_reducible rfl))); (case hB => (omega))) | ((with_reducible refine e_nzI ?hZ ?_); (case hZ => (decide))) | ((with_reducible refine e_nzJ ?hZ ?_); (case hZ => (assumption))))
        refine e_t ((lg_cmp_eq _ _).mpr h0) ?_
        unfold J_X0_unite_90
        repeat (first | ((with_reducible refine e_nm ?_)) | ((with_reducible refine e_rcv ?hO ?_); (case hO => (with_reducible first | assumption | exact faO))) | ((with_reducible refine e_ldI ?hO ?_); (case hO => (with_reducible first | assumption | exact faO))) | ((with_reducible refine e_ldJ ?hO ?_); (case hO => (with_reducible first | assumption | exact faO))) | ((with_reducible refine e_ldR (r := ?_) ?hO ?hR ?_); (case hO => (with_reducible first | assumption | exact faO)); (case hR => (with_reducible first | assumption | exact faR0 | exact faR1 | exact faR2 | exact faR3 | exact faR4 | exact faR5 | exact faR6 | exact faR7))) | ((with_reducible refine e_stI ?hO ?_); (case hO => (with_reducible first | assumption | exact faO))) | ((with_reducible refine e_stJ ?hO ?_); (case hO => (with_reducible first | assumption | exact faO))) | ((with_reducible refine e_alI (j := ?_) (n := ?_) ?hA ?hI ?hB ?_); (case hA => (with_reducible first | assumption | exact faA2 | exact faA3)); (case hI => (first | with_reducible rfl | with_reducible exact litn _ | (simp only [mulL, addR, nI_add, pk_mul, nI_1]; with_reducible rfl) | (simp (disch := omega) only [mulL, addR, subR, nI_add, pk_mul, pk_sub, nI_1]; with_reducible rfl))); (case hB => (omega))) | ((with_reducible refine e_alJ (j := ?_) (n := ?_) ?hA ?hI ?hB ?_); (case hA => (with_reducible first | assumption | exact faA2 | exact faA3)); (case hI => (first | with_reducible rfl | with_reducible exact litn _ | (simp only [mulL, addR, nI_add, pk_mul, nI_1]; with_reducible rfl) | (simp (disch := omega) only [mulL, addR, subR, nI_add, pk_mul, pk_sub, nI_1]; with_reducible rfl))); (case hB => (omega))) | ((with_reducible refine e_alZ (j := ?_) (n := ?_) ?hA ?hI ?hB ?_); (case hA => (with_reducible first | assumption | exact faA2 | exact faA3)); (case hI => (first | with_reducible rfl | with_reducible exact litn _ | (simp only [mulL, addR, nI_add, pk_mul, nI_1]; with_reducible rfl) | (simp (disch := omega) only [mulL, addR, subR, nI_add, pk_mul, pk_sub, nI_1]; with_reducible rfl))); (case hB => (omega))) | ((with_reducible refine e_asI (j := ?_) (n := ?_) ?hA ?hI ?hB ?_); (case hA => (with_reducible first | assumption | exact faA2 | exact faA3)); (case hI => (first | with_reducible rfl | with_reducible exact litn _ | (simp only [mulL, addR, nI_add, pk_mul, nI_1]; with_reducible rfl) | (simp (disch := omega) only [mulL, addR, subR, nI_add, pk_mul, pk_sub, nI_1]; with_reducible rfl))); (case hB => (omega))) | ((with_reducible refine e_asJ (j := ?_) (n := ?_) ?hA ?hI ?hB ?_); (case hA => (with_reducible first | assumption | exact faA2 | exact faA3)); (case hI => (first | with_reducible rfl | with_reducible exact litn _ | (simp only [mulL, addR, nI_add, pk_mul, nI_1]; with_reducible rfl) | (simp (disch := omega) only [mulL, addR, subR, nI_add, pk_mul, pk_sub, nI_1]; with_reducible rfl))); (case hB => (omega))) | ((with_reducible refine e_nzI ?hZ ?_); (case hZ => (decide))) | ((with_reducible refine e_nzJ ?hZ ?_); (case hZ => (assumption))))
        rw [addR]
        exact g1
      · rw [sumF, if_pos (show (rowC m b i).1 = 0 from h0)]
        exact g4
    · have hl := hlo i hi29
      have e0 : rowC m b i = (rJ m (b + 1) i, rJ m (b + 2) i) := rfl
      have hbec := c_become (N := N) (m := m) (f := 230) (a := rJ m (b + 1) i) (b := rJ m (b + 2) i) f230 hN hl.1
      rw [show red (rJ m (b + 1) i) (rJ m (b + 2) i) = (rJ m (b + 1) i, rJ m (b + 2) i) from red_of (p := (rJ m (b + 1) i, rJ m (b + 2) i)) hl] at hbec
      -- the step, whatever q is
      have step : ∀ (m1 : vM) (q : Int64 × Int64), rJ m1 230 0 = q.1 → rJ m1 230 1 = q.2 → 0 < q.2.toInt → (∀ a j, rI m1 a j = rI m a j) → (∀ a j, a ≠ 230 → rJ m1 a j = rJ m a j) →
          ∃ (m' : vM) (r : Int32), J_X0_unite_72 N (H_X0_unite_11 N n) 223 b (b2 less) (nI i) (S m1) = some (r, S m') ∧ (∀ a j, rI m' a j = rI m a j) ∧ (∀ a j, ¬ ((a = 227 ∨ a = 228) ∧ j < 29) → a ≠ 230 → rJ m' a j = rJ m a j) ∧ match (match acc row i q with | none => none | some row' => sumF (rowC m b) less d (i + 1) row') with
            | some row' => r = 1 ∧ ∀ k, k < 29 → rowC m' 226 k = row' k
            | none => r = 0 := by
        intro m1 q q0 q1 q2 k1 k2
        have hr1 : ∀ k, k < 29 → rowC m1 226 k = row k := fun k hk => by
          rw [← hrow k hk]
          show (rJ m1 227 k, rJ m1 228 k) = (rJ m 227 k, rJ m 228 k)
          rw [k2 227 k (by decide), k2 228 k (by decide)]
        have hli := (hlow i hi29).1
        cases hf : fadd (row i).1 (row i).2 q.1 q.2 with
        | none =>
          refine ⟨m1, 0, c_u72 hi29 hN q0 q1 q2 (hr1 i hi29) hli (by rw [hf]), k1, fun a j _ h => k2 a j h, ?_⟩
          have : acc row i q = none := by unfold acc; rw [hf]
          rw [this]
        | some p =>
          have ha : acc row i q = some (fun j => if j = i then p else row j) := by unfold acc; rw [hf]
          have hb2 : rowC (wQ m1 226 i p) b = rowC m b := by
            funext k
            show (rJ (wQ m1 226 i p) (b + 1) k, rJ (wQ m1 226 i p) (b + 2) k) = (rJ m (b + 1) k, rJ m (b + 2) k)
            unfold wQ
            rw [rJ_wJ, if_neg (by omega), rJ_wJ, if_neg (by omega), rJ_wJ, if_neg (by omega), rJ_wJ, if_neg (by omega), k2 _ _ (by omega), k2 _ _ (by omega)]
          obtain ⟨m', r, g1, g2, g3, g4⟩ := ih (i + 1) n (wQ m1 226 i p) (fun j => if j = i then p else row j) (by omega) (by omega) (fun k hk => by
            show (rJ (wQ m1 226 i p) 227 k, rJ (wQ m1 226 i p) 228 k) = if k = i then p else row k
            unfold wQ
            by_cases z : k = i
            · rw [if_pos z, rJ_wJ, if_neg (by omega), rJ_wJ, if_pos ⟨rfl, z⟩, rJ_wJ, if_pos ⟨rfl, z⟩]
            · rw [if_neg z, rJ_wJ, if_neg (by omega), rJ_wJ, if_neg (by omega), rJ_wJ, if_neg (by omega), rJ_wJ, if_neg (by omega)]
              exact hr1 k hk) (acc_low hi29 hlow q2 ha) (by rw [hb2]; exact hlo)
          refine ⟨m', r, c_u72 hi29 hN q0 q1 q2 (hr1 i hi29) hli (by rw [hf]; rw [← addR] at g1; exact g1), fun a j => (g2 a j).trans (k1 a j), fun a j h h2 => ?_, ?_⟩
          · rw [g3 a j h h2]
            unfold wQ
            rw [rJ_wJ, if_neg (by omega), rJ_wJ, if_neg (by omega)]
            exact k2 a j h2
          · rw [ha]
            rw [hb2] at g4
            exact g4
      sorry
end UNITE
