section UNITE
variable {N : Nat} {m : vM}
abbrev Row : Type := Nat → Int64 × Int64
def rowC (m : vM) (a : Nat) : Row := fun k => (rJ m (a + 1) k, rJ m (a + 2) k)
def rowM (m : vM) (r : Nat) : Row := fun k => (rJ m 332 (29 * r + k), rJ m 333 (29 * r + k))
def Lows (row : Row) : Prop := ∀ k, k < 29 → Low (row k)
/-- a fraction more at one number -/
def acc (row : Row) (k : Nat) (q : Int64 × Int64) : Option Row := match fadd (row k).1 (row k).2 q.1 q.2 with
  | some p => some (fun j => if j = k then p else row j)
  | none => none
def sgn (less : Prop) [Decidable less] (p : Int64 × Int64) : Option (Int64 × Int64) := if less then fmul (-1) 1 p.1 p.2 else some p
/-- one row more, or less, number by number from i on -/
def sumF (o : Row) (less : Prop) [Decidable less] : Nat → Nat → Row → Option Row
  | 0, _, row => some row
  | d + 1, i, row => if (o i).1 = 0 then sumF o less d (i + 1) row else match sgn less (o i) with
    | none => none
    | some q => match acc row i q with
      | none => none
      | some row' => sumF o less d (i + 1) row'
theorem sum226 : SumAt 226 := ⟨by decide +kernel, rfl, rfl, fun _ => rfl, fun _ => rfl⟩
theorem acc_low {row row' : Row} {k : Nat} {q : Int64 × Int64} (hk : k < 29) (h : Lows row) (hq : 0 < q.2.toInt) (e : acc row k q = some row') : Lows row' := by
  unfold acc at e
  cases hf : fadd (row k).1 (row k).2 q.1 q.2 with
  | none => rw [hf] at e; cases e
  | some p =>
    rw [hf] at e
    cases e
    intro j hj
    by_cases z : j = k
    · show Low (if j = k then p else row j)
      rw [if_pos z]; exact fadd_low (h k hk).1 hq hf
    · show Low (if j = k then p else row j)
      rw [if_neg z]; exact h j hj
theorem one1 : 0 < (1 : Int64).toInt := by decide
theorem frac230 : isOc 230 2 = true := by decide +kernel
theorem c_unite_l {b : Nat} (hb : SumAt b) (hbb : b + 2 < 226 ∨ 231 ≤ b) {less : Prop} [Decidable less] (hN : 100 ≤ N) : ∀ (d i n : Nat) (m : vM) (row : Row), i + d = 29 → d < n → (∀ k, k < 29 → rowC m 226 k = row k) → Lows row → Lows (rowC m b) →
    ∃ (m' : vM) (r : Int32), H_X0_unite_11 N n 223 b (b2 less) (nI i) (S m) = some (r, S m') ∧ (∀ a j, rI m' a j = rI m a j) ∧ (∀ a j, ¬ ((a = 227 ∨ a = 228) ∧ j < 29) → a ≠ 230 → rJ m' a j = rJ m a j) ∧ match sumF (rowC m b) less d i row with
      | some row' => r = 1 ∧ ∀ k, k < 29 → rowC m' 226 k = row' k
      | none => r = 0 := by
  obtain ⟨b1, b2_, b3_, b4, b5⟩ := id hb
  have f230 := frac230
  intro d
  induction d with
  | zero =>
    intro i n m row hi hn hrow hlow hlo
    obtain ⟨n, rfl⟩ : ∃ k, n = k + 1 := ⟨n - 1, by omega⟩
    refine ⟨m, 1, ?_, fun _ _ => rfl, fun _ _ _ _ => rfl, rfl, hrow⟩
    unfold H_X0_unite_11
    exact e_t (by simp (disch := omega) only [leL, leR, ltL, ltR, eqR, mulL, addR, clL, inL, nI_add, pk_mul, inb_nI, nI_clamp, nI_leI, nI_ltI, nI_eq, nI_1]; omega) rfl
  | succ d ih =>
    intro i n m row hi hn hrow hlow hlo
    obtain ⟨n, rfl⟩ : ∃ k, n = k + 1 := ⟨n - 1, by omega⟩
    have hi29 : i < 29 := by omega
    by_cases h0 : rJ m (b + 1) i = 0
    · obtain ⟨m', r, g1, g2, g3, g4⟩ := ih (i + 1) n m row (by omega) (by omega) hrow hlow hlo
      refine ⟨m', r, ?_, g2, g3, ?_⟩
      · unfold H_X0_unite_11
        refine e_f (by simp (disch := omega) only [leL, leR, ltL, ltR, eqR, mulL, addR, clL, inL, nI_add, pk_mul, inb_nI, nI_clamp, nI_leI, nI_ltI, nI_eq, nI_1]; omega) ?_
        repeat (first | ((with_reducible refine e_nm ?_)) | ((with_reducible refine e_rcv ?hO ?_); (case hO => (with_reducible first | assumption | exact faO))) | ((with_reducible refine e_ldI ?hO ?_); (case hO => (with_reducible first | assumption | exact faO))) | ((with_reducible refine e_ldJ ?hO ?_); (case hO => (with_reducible first | assumption | exact faO))) | ((with_reducible refine e_ldR (r := ?_) ?hO ?hR ?_); (case hO => (with_reducible first | assumption | exact faO)); (case hR => (with_reducible first | assumption | exact faR0 | exact faR1 | exact faR2 | exact faR3 | exact faR4 | exact faR5 | exact faR6 | exact faR7))) | ((with_reducible refine e_stI ?hO ?_); (case hO => (with_reducible first | assumption | exact faO))) | ((with_reducible refine e_stJ ?hO ?_); (case hO => (with_reducible first | assumption | exact faO))) | ((with_reducible refine e_alI (j := ?_) (n := ?_) ?hA ?hI ?hB ?_); (case hA => (with_reducible first | assumption | exact faA2 | exact faA3)); (case hI => (first | with_reducible rfl | with_reducible exact litn _ | (simp only [mulL, addR, nI_add, pk_mul, nI_1]; with_reducible rfl) | (simp (disch := omega) only [mulL, addR, subR, nI_add, pk_mul, pk_sub, nI_1]; with_reducible rfl))); (case hB => (omega))) | ((with_reducible refine e_alJ (j := ?_) (n := ?_) ?hA ?hI ?hB ?_); (case hA => (with_reducible first | assumption | exact faA2 | exact faA3)); (case hI => (first | with_reducible rfl | with_reducible exact litn _ | (simp only [mulL, addR, nI_add, pk_mul, nI_1]; with_reducible rfl) | (simp (disch := omega) only [mulL, addR, subR, nI_add, pk_mul, pk_sub, nI_1]; with_reducible rfl))); (case hB => (omega))) | ((with_reducible refine e_alZ (j := ?_) (n := ?_) ?hA ?hI ?hB ?_); (case hA => (with_reducible first | assumption | exact faA2 | exact faA3)); (case hI => (first | with_reducible rfl | with_reducible exact litn _ | (simp only [mulL, addR, nI_add, pk_mul, nI_1]; with_reducible rfl) | (simp (disch := omega) only [mulL, addR, subR, nI_add, pk_mul, pk_sub, nI_1]; with_reducible rfl))); (case hB => (omega))) | ((with_reducible refine e_asI (j := ?_) (n := ?_) ?hA ?hI ?hB ?_); (case hA => (with_reducible first | assumption | exact faA2 | exact faA3)); (case hI => (first | with_reducible rfl | with_reducible exact litn _ | (simp only [mulL, addR, nI_add, pk_mul, nI_1]; with_reducible rfl) | (simp (disch := omega) only [mulL, addR, subR, nI_add, pk_mul, pk_sub, nI_1]; with_reducible rfl))); (case hB => (omega))) | ((with_reducible refine e_asJ (j := ?_) (n := ?_) ?hA ?hI ?hB ?_); (case hA => (with_reducible first | assumption | exact faA2 | exact faA3)); (case hI => (first | with_reducible rfl | with_reducible exact litn _ | (simp only [mulL, addR, nI_add, pk_mul, nI_1]; with_reducible rfl) | (simp (disch := omega) only [mulL, addR, subR, nI_add, pk_mul, pk_sub, nI_1]; with_reducible rfl))); (case hB => (omega))) | ((with_reducible refine e_nzI ?hZ ?_); (case hZ => (decide))) | ((with_reducible refine e_nzJ ?hZ ?_); (case hZ => (assumption))))
        refine e_t ((lg_cmp_eq _ _).mpr h0) ?_
        unfold J_X0_unite_90
        repeat (first | ((with_reducible refine e_nm ?_)) | ((with_reducible refine e_rcv ?hO ?_); (case hO => (with_reducible first | assumption | exact faO))) | ((with_reducible refine e_ldI ?hO ?_); (case hO => (with_reducible first | assumption | exact faO))) | ((with_reducible refine e_ldJ ?hO ?_); (case hO => (with_reducible first | assumption | exact faO))) | ((with_reducible refine e_ldR (r := ?_) ?hO ?hR ?_); (case hO => (with_reducible first | assumption | exact faO)); (case hR => (with_reducible first | assumption | exact faR0 | exact faR1 | exact faR2 | exact faR3 | exact faR4 | exact faR5 | exact faR6 | exact faR7))) | ((with_reducible refine e_stI ?hO ?_); (case hO => (with_reducible first | assumption | exact faO))) | ((with_reducible refine e_stJ ?hO ?_); (case hO => (with_reducible first | assumption | exact faO))) | ((with_reducible refine e_alI (j := ?_) (n := ?_) ?hA ?hI ?hB ?_); (case hA => (with_reducible first | assumption | exact faA2 | exact faA3)); (case hI => (first | with_reducible rfl | with_reducible exact litn _ | (simp only [mulL, addR, nI_add, pk_mul, nI_1]; with_reducible rfl) | (simp (disch := omega) only [mulL, addR, subR, nI_add, pk_mul, pk_sub, nI_1]; with_reducible rfl))); (case hB => (omega))) | ((with_reducible refine e_alJ (j := ?_) (n := ?_) ?hA ?hI ?hB ?_); (case hA => (with_reducible first | assumption | exact faA2 | exact faA3)); (case hI => (first | with_reducible rfl | with_reducible exact litn _ | (simp only [mulL, addR, nI_add, pk_mul, nI_1]; with_reducible rfl) | (simp (disch := omega) only [mulL, addR, subR, nI_add, pk_mul, pk_sub, nI_1]; with_reducible rfl))); (case hB => (omega))) | ((with_reducible refine e_alZ (j := ?_) (n := ?_) ?hA ?hI ?hB ?_); (case hA => (with_reducible first | assumption | exact faA2 | exact faA3)); (case hI => (first | with_reducible rfl | with_reducible exact litn _ | (simp only [mulL, addR, nI_add, pk_mul, nI_1]; with_reducible rfl) | (simp (disch := omega) only [mulL, addR, subR, nI_add, pk_mul, pk_sub, nI_1]; with_reducible rfl))); (case hB => (omega))) | ((with_reducible refine e_asI (j := ?_) (n := ?_) ?hA ?hI ?hB ?_); (case hA => (with_reducible first | assumption | exact faA2 | exact faA3)); (case hI => (first | with_reducible rfl | with_reducible exact litn _ | (simp only [mulL, addR, nI_add, pk_mul, nI_1]; with_reducible rfl) | (simp (disch := omega) only [mulL, addR, subR, nI_add, pk_mul, pk_sub, nI_1]; with_reducible rfl))); (case hB => (omega))) | ((with_reducible refine e_asJ (j := ?_) (n := ?_) ?hA ?hI ?hB ?_); (case hA => (with_reducible first | assumption | exact faA2 | exact faA3)); (case hI => (first | with_reducible rfl | with_reducible exact litn _ | (simp only [mulL, addR, nI_add, pk_mul, nI_1]; with_reducible rfl) | (simp (disch := omega) only [mulL, addR, subR, nI_add, pk_mul, pk_sub, nI_1]; with_reducible rfl))); (case hB => (omega))) | ((with_reducible refine e_nzI ?hZ ?_); (case hZ => (decide))) | ((with_reducible refine e_nzJ ?hZ ?_); (case hZ => (assumption))))
        rw [addR]
        exact g1
      · rw [sumF, if_pos (show (rowC m b i).1 = 0 from h0)]
        exact g4
    · sorry
end UNITE
