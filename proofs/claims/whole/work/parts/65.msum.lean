section MSUM
variable {N : Nat} {m : vM}
theorem m_sumUp_l {p t : Nat} (hp : p < 16) (ht : t < 16) (hpt : p ≠ t) {less : Prop} [Decidable less] {l3 : Int64} (hl3 : 0 ≤ l3 ↔ ¬ less) (hN : 100 ≤ N) : ∀ (d i n : Nat) (m : vM) (row : Row) (o : Bool), i + d = 29 → d < n → rI m 322 25 = b2 (o = true) → (o = false → ∀ k, k < 29 → rowM m t k = row k) → Lows (rowM m t) → Lows (rowM m p) →
    ∃ m', H_X9_sumUp_51 N n 322 (nI p) l3 (nI t) (nI i) (S m) = some ((), S m') ∧ (∀ a j, ¬ (a = 322 ∧ j = 25) → ¬ (a = 331 ∧ j = t) → rI m' a j = rI m a j) ∧ (∀ a j, ¬ (a = 322 ∧ (j = 23 ∨ j = 24)) → ¬ ((a = 332 ∨ a = 333) ∧ 29 * t ≤ j ∧ j < 29 * t + 29) → rJ m' a j = rJ m a j) ∧ match (if o = true then none else sumF (rowM m p) less d i row) with
      | some row' => rI m' 322 25 = 0 ∧ (∀ k, k < 29 → rowM m' t k = row' k) ∧ rI m' 331 t = (if cnt (fun k => (row' k).1 ≠ 0) 29 = 0 then 2 else rI m 331 t)
      | none => rI m' 322 25 = 1 := by
  intro d
  induction d with
  | zero =>
    intro i n m row o hi hn ho hrow hlt hlp
    obtain ⟨n, rfl⟩ : ∃ k, n = k + 1 := ⟨n - 1, by omega⟩
    refine ⟨wI m 331 t (if cnt (fun k => rJ m 332 (29 * t + k) ≠ 0) 29 = 0 then 2 else rI m 331 t), ?_, fun a j h1 h2 => ?_, fun a j h1 h2 => rfl, ?_⟩
    · unfold H_X9_sumUp_51
      refine e_t (by simp (disch := omega) only [leL, leR, ltL, ltR, eqR, mulL, addR, clL, inL, nI_add, pk_mul, inb_nI, nI_clamp, nI_leI, nI_ltI, nI_eq, nI_1]; omega) ?_
      refine e_bnd (m_settle ht hN) ?_
      rfl
    · rw [rI_wI, if_neg h2]
    · cases o with
      | true =>
        show rI _ 322 25 = 1
        rw [rI_wI, if_neg (by omega), ho]
        rfl
      | false =>
        have hr := hrow rfl
        refine ⟨by rw [rI_wI, if_neg (by omega), ho]; rfl, hr, ?_⟩
        rw [rI_wI, if_pos ⟨rfl, rfl⟩, cnt_c 29 (fun k hk => by
          show rJ m 332 (29 * t + k) ≠ 0 ↔ (row k).1 ≠ 0
          rw [← hr k hk]
          exact Iff.rfl)]
  | succ d ih =>
    intro i n m row o hi hn ho hrow hlt hlp
    obtain ⟨n, rfl⟩ : ∃ k, n = k + 1 := ⟨n - 1, by omega⟩
    have hi29 : i < 29 := by omega
    by_cases h0 : rJ m 332 (29 * p + i) = 0
    · obtain ⟨m', g1, g2, g3, g4⟩ := ih (i + 1) n m row o (by omega) (by omega) ho hrow hlt hlp
      refine ⟨m', ?_, g2, g3, ?_⟩
      · unfold H_X9_sumUp_51
        refine e_f (by simp (disch := omega) only [leL, leR, ltL, ltR, eqR, mulL, addR, clL, inL, nI_add, pk_mul, inb_nI, nI_clamp, nI_leI, nI_ltI, nI_eq, nI_1]; omega) ?_
        refine e_bnd (m_isTerm hp hi29) ?_
        refine e_t (b2_f (fun q => q h0)) ?_
        unfold J_X9_sumUp_130
        repeat (first | ((with_reducible refine e_nm ?_)) | ((with_reducible refine e_rcv ?hO ?_); (case hO => (with_reducible first | assumption | exact fmO))) | ((with_reducible refine e_ldI ?hO ?_); (case hO => (with_reducible first | assumption | exact fmO))) | ((with_reducible refine e_ldJ ?hO ?_); (case hO => (with_reducible first | assumption | exact fmO))) | ((with_reducible refine e_ldR (r := ?_) ?hO ?hR ?_); (case hO => (with_reducible first | assumption | exact fmO)); (case hR => (with_reducible first | assumption | exact fmR0 | exact fmR1 | exact fmR2 | exact fmR3 | exact fmR4 | exact fmR6 | exact fmR8 | exact fmR9 | exact fmR10 | exact fmR11 | exact fmR12 | exact fmR14 | exact fmR17 | exact fmR18 | exact fmR19 | exact fmR20 | exact fmR21 | exact fmR22 | exact fmR26 | exact fmR27 | exact fmR28 | exact fmR31 | exact fmR32 | exact fmR33 | exact fmR34 | exact fmR36 | exact fmR38 | exact fmR39 | exact fmR40 | exact fmR41 | exact fmR42))) | ((with_reducible refine e_stI ?hO ?_); (case hO => (with_reducible first | assumption | exact fmO))) | ((with_reducible refine e_stJ ?hO ?_); (case hO => (with_reducible first | assumption | exact fmO))) | ((with_reducible refine e_alI (j := ?_) (n := ?_) ?hA ?hI ?hB ?_); (case hA => (with_reducible first | assumption | exact fmA0 | exact fmA1 | exact fmA2 | exact fmA3 | exact fmA4 | exact fmA6 | exact fmA8 | exact fmA9 | exact fmA10 | exact fmA11 | exact fmA12 | exact fmA14 | exact fmA17 | exact fmA18 | exact fmA19 | exact fmA20 | exact fmA21 | exact fmA22 | exact fmA26 | exact fmA27 | exact fmA28 | exact fmA31 | exact fmA32 | exact fmA33 | exact fmA34 | exact fmA36 | exact fmA38 | exact fmA39 | exact fmA40 | exact fmA41 | exact fmA42)); (case hI => (first | with_reducible rfl | with_reducible exact litn _ | (simp only [mulL, addR, nI_add, pk_mul, nI_1]; with_reducible rfl) | (simp (disch := omega) only [mulL, addR, subR, nI_add, pk_mul, pk_sub, nI_1]; with_reducible rfl))); (case hB => (omega))) | ((with_reducible refine e_alJ (j := ?_) (n := ?_) ?hA ?hI ?hB ?_); (case hA => (with_reducible first | assumption | exact fmA0 | exact fmA1 | exact fmA2 | exact fmA3 | exact fmA4 | exact fmA6 | exact fmA8 | exact fmA9 | exact fmA10 | exact fmA11 | exact fmA12 | exact fmA14 | exact fmA17 | exact fmA18 | exact fmA19 | exact fmA20 | exact fmA21 | exact fmA22 | exact fmA26 | exact fmA27 | exact fmA28 | exact fmA31 | exact fmA32 | exact fmA33 | exact fmA34 | exact fmA36 | exact fmA38 | exact fmA39 | exact fmA40 | exact fmA41 | exact fmA42)); (case hI => (first | with_reducible rfl | with_reducible exact litn _ | (simp only [mulL, addR, nI_add, pk_mul, nI_1]; with_reducible rfl) | (simp (disch := omega) only [mulL, addR, subR, nI_add, pk_mul, pk_sub, nI_1]; with_reducible rfl))); (case hB => (omega))) | ((with_reducible refine e_alZ (j := ?_) (n := ?_) ?hA ?hI ?hB ?_); (case hA => (with_reducible first | assumption | exact fmA0 | exact fmA1 | exact fmA2 | exact fmA3 | exact fmA4 | exact fmA6 | exact fmA8 | exact fmA9 | exact fmA10 | exact fmA11 | exact fmA12 | exact fmA14 | exact fmA17 | exact fmA18 | exact fmA19 | exact fmA20 | exact fmA21 | exact fmA22 | exact fmA26 | exact fmA27 | exact fmA28 | exact fmA31 | exact fmA32 | exact fmA33 | exact fmA34 | exact fmA36 | exact fmA38 | exact fmA39 | exact fmA40 | exact fmA41 | exact fmA42)); (case hI => (first | with_reducible rfl | with_reducible exact litn _ | (simp only [mulL, addR, nI_add, pk_mul, nI_1]; with_reducible rfl) | (simp (disch := omega) only [mulL, addR, subR, nI_add, pk_mul, pk_sub, nI_1]; with_reducible rfl))); (case hB => (omega))) | ((with_reducible refine e_asI (j := ?_) (n := ?_) ?hA ?hI ?hB ?_); (case hA => (with_reducible first | assumption | exact fmA0 | exact fmA1 | exact fmA2 | exact fmA3 | exact fmA4 | exact fmA6 | exact fmA8 | exact fmA9 | exact fmA10 | exact fmA11 | exact fmA12 | exact fmA14 | exact fmA17 | exact fmA18 | exact fmA19 | exact fmA20 | exact fmA21 | exact fmA22 | exact fmA26 | exact fmA27 | exact fmA28 | exact fmA31 | exact fmA32 | exact fmA33 | exact fmA34 | exact fmA36 | exact fmA38 | exact fmA39 | exact fmA40 | exact fmA41 | exact fmA42)); (case hI => (first | with_reducible rfl | with_reducible exact litn _ | (simp only [mulL, addR, nI_add, pk_mul, nI_1]; with_reducible rfl) | (simp (disch := omega) only [mulL, addR, subR, nI_add, pk_mul, pk_sub, nI_1]; with_reducible rfl))); (case hB => (omega))) | ((with_reducible refine e_asJ (j := ?_) (n := ?_) ?hA ?hI ?hB ?_); (case hA => (with_reducible first | assumption | exact fmA0 | exact fmA1 | exact fmA2 | exact fmA3 | exact fmA4 | exact fmA6 | exact fmA8 | exact fmA9 | exact fmA10 | exact fmA11 | exact fmA12 | exact fmA14 | exact fmA17 | exact fmA18 | exact fmA19 | exact fmA20 | exact fmA21 | exact fmA22 | exact fmA26 | exact fmA27 | exact fmA28 | exact fmA31 | exact fmA32 | exact fmA33 | exact fmA34 | exact fmA36 | exact fmA38 | exact fmA39 | exact fmA40 | exact fmA41 | exact fmA42)); (case hI => (first | with_reducible rfl | with_reducible exact litn _ | (simp only [mulL, addR, nI_add, pk_mul, nI_1]; with_reducible rfl) | (simp (disch := omega) only [mulL, addR, subR, nI_add, pk_mul, pk_sub, nI_1]; with_reducible rfl))); (case hB => (omega))) | ((with_reducible refine e_nzI ?hZ ?_); (case hZ => (decide))) | ((with_reducible refine e_nzJ ?hZ ?_); (case hZ => (assumption))))
        rw [addR]
        exact g1
      · rw [sumF, if_pos (show (rowM m p i).1 = 0 from h0)]
        exact g4
    · have hl := hlp i hi29
      have hlti := hlt i hi29
      have step : ∀ (m1 : vM) (q : Int64 × Int64) (o1 : Bool), rI m1 322 25 = b2 (o1 = true) → 0 < (rJ m1 322 24).toInt → (o1 = false → rJ m1 322 23 = q.1 ∧ rJ m1 322 24 = q.2) → (o1 = false → o = false) → (∀ a j, ¬ (a = 322 ∧ j = 25) → rI m1 a j = rI m a j) → (∀ a j, ¬ (a = 322 ∧ (j = 23 ∨ j = 24)) → rJ m1 a j = rJ m a j) →
          ∃ m', J_X9_sumUp_122 N (H_X9_sumUp_51 N n) 322 (nI p) l3 (nI t) (nI i) (S m1) = some ((), S m') ∧ (∀ a j, ¬ (a = 322 ∧ j = 25) → ¬ (a = 331 ∧ j = t) → rI m' a j = rI m a j) ∧ (∀ a j, ¬ (a = 322 ∧ (j = 23 ∨ j = 24)) → ¬ ((a = 332 ∨ a = 333) ∧ 29 * t ≤ j ∧ j < 29 * t + 29) → rJ m' a j = rJ m a j) ∧
          match (if o1 = true then none else match acc row i q with | none => none | some row' => sumF (rowM m p) less d (i + 1) row') with
          | some row' => rI m' 322 25 = 0 ∧ (∀ k, k < 29 → rowM m' t k = row' k) ∧ rI m' 331 t = (if cnt (fun k => (row' k).1 ≠ 0) 29 = 0 then 2 else rI m 331 t)
          | none => rI m' 322 25 = 1 := by
        intro m1 q o1 ho1 hpos hq hoo k1 k2
        have hbt : 0 < (rJ m1 333 (29 * t + i)).toInt := by rw [k2 _ _ (by omega)]; exact hlti.1
        obtain ⟨m2, a1, a2, a3, a4, a5⟩ := m_addTo (N := N) (m := m1) (o := (o1 = true)) hN ht hi29 hbt hpos ho1
        have hJ2 : ∀ a j, ¬ (a = 322 ∧ (j = 23 ∨ j = 24)) → ¬ ((a = 332 ∨ a = 333) ∧ j = 29 * t + i) → rJ m2 a j = rJ m a j := fun a j h1 h2 => (a3 a j h1 h2).trans (k2 a j h1)
        have hI2 : ∀ a j, ¬ (a = 322 ∧ j = 25) → rI m2 a j = rI m a j := fun a j h => (a2 a j h).trans (k1 a j h)
        have hp2 : rowM m2 p = rowM m p := by
          funext k
          by_cases hk : k < 29
          · show (rJ m2 332 (29 * p + k), rJ m2 333 (29 * p + k)) = (rJ m 332 (29 * p + k), rJ m 333 (29 * p + k))
            rw [hJ2 _ _ (by omega) (by omega), hJ2 _ _ (by omega) (by omega)]
          · sorry
        sorry
      sorry
end MSUM
