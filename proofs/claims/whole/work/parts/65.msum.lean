section MSUM
variable {N : Nat} {m : vM}
theorem m_sumUp_l {p t : Nat} (hp : p < 16) (ht : t < 16) (hpt : p ≠ t) {less : Prop} [Decidable less] {l3 : Int64} (hl3 : 0 ≤ l3 ↔ ¬ less) (hN : 100 ≤ N) : ∀ (d i n : Nat) (m : vM) (row : Row) (o : Bool), i + d = 29 → d < n → rI m 322 25 = b2 (o = true) → (o = false → ∀ k, k < 29 → rowM m t k = row k) → Lows (rowM m t) → Lows (rowM m p) →
    ∃ m', H_X9_sumUp_51 N n 322 (nI p) l3 (nI t) (nI i) (S m) = some ((), S m') ∧ (∀ a j, ¬ (a = 322 ∧ j = 25) → ¬ (a = 331 ∧ j = t) → rI m' a j = rI m a j) ∧ (∀ a j, ¬ (a = 322 ∧ (j = 23 ∨ j = 24)) → ¬ ((a = 332 ∨ a = 333) ∧ 29 * t ≤ j ∧ j < 29 * t + 29) → rJ m' a j = rJ m a j) ∧ match (if o = true then none else sumF (rowM m p) less d i row) with
      | some row' => rI m' 322 25 = 0 ∧ (∀ k, k < 29 → rowM m' t k = row' k) ∧ rI m' 331 t = (if cnt (fun k => (row' k).1 ≠ 0) 29 = 0 then 2 else rI m 331 t)
      | none => rI m' 322 25 = 1 := by
  intro d
  induction d with
  | zero =>
    intro i n m row o hi hn ho hrow hlt hlp
    obtain ⟨n, rfl⟩ : ∃ k, n = k + 1 := ⟨n - 1, by omega⟩
    refine ⟨wI m 331 t (if cnt (fun k => rJ m 332 (29 * t + k) ≠ 0) 29 = 0 then 2 else rI m 331 t), ?_, fun a j h1 h2 => ?_, fun a j h1 h2 => rfl, ?_⟩
    · unfold H_X9_sumUp_51
      refine e_t (by simp (disch := omega) only [leL, leR, ltL, ltR, eqR, mulL, addR, clL, inL, nI_add, pk_mul, inb_nI, nI_clamp, nI_leI, nI_ltI, nI_eq, nI_1]; omega) ?_
      refine e_bnd (m_settle ht hN) ?_
      rfl
    · rw [rI_wI, if_neg h2]
    · cases o with
      | true =>
        show rI _ 322 25 = 1
        rw [rI_wI, if_neg (by omega), ho]
        rfl
      | false =>
        have hr := hrow rfl
        refine ⟨by rw [rI_wI, if_neg (by omega), ho]; rfl, hr, ?_⟩
        rw [rI_wI, if_pos ⟨rfl, rfl⟩, cnt_c 29 (fun k hk => by
          show rJ m 332 (29 * t + k) ≠ 0 ↔ (row k).1 ≠ 0
          rw [← hr k hk]
          exact Iff.rfl)]
  | succ d ih =>
    sorry
end MSUM
