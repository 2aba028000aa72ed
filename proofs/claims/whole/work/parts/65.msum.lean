section MSUM
variable {N : Nat} {m : vM}
theorem sumF_o {o o' : Row} {less : Prop} [Decidable less] (h : ∀ k, k < 29 → o k = o' k) : ∀ (d i : Nat) (row : Row), i + d = 29 → sumF o less d i row = sumF o' less d i row
  | 0, _, _, _ => rfl
  | d + 1, i, row, hi => by
    rw [sumF, sumF, h i (by omega), sumF_o h d (i + 1) row (by omega)]
    have e : ∀ row', sumF o less d (i + 1) row' = sumF o' less d (i + 1) row' := fun row' => sumF_o h d (i + 1) row' (by omega)
    simp only [e]
theorem m_sumUp_l {p t : Nat} (hp : p < 16) (ht : t < 16) (hpt : p ≠ t) {less : Prop} [Decidable less] {l3 : Int64} (hl3 : 0 ≤ l3 ↔ ¬ less) (hN : 100 ≤ N) : ∀ (d i n : Nat) (m : vM) (row : Row) (o : Bool), i + d = 29 → d < n → rI m 322 25 = b2 (o = true) → (o = false → ∀ k, k < 29 → rowM m t k = row k) → Lows (rowM m t) → Lows (rowM m p) →
    ∃ m', H_X9_sumUp_51 N n 322 (nI p) l3 (nI t) (nI i) (S m) = some ((), S m') ∧ (∀ a j, ¬ (a = 322 ∧ j = 25) → ¬ (a = 331 ∧ j = t) → rI m' a j = rI m a j) ∧ (∀ a j, ¬ (a = 322 ∧ (j = 23 ∨ j = 24)) → ¬ ((a = 332 ∨ a = 333) ∧ 29 * t ≤ j ∧ j < 29 * t + 29) → rJ m' a j = rJ m a j) ∧ match (if o = true then none else sumF (rowM m p) less d i row) with
      | some row' => rI m' 322 25 = 0 ∧ (∀ k, k < 29 → rowM m' t k = row' k) ∧ rI m' 331 t = (if cnt (fun k => (row' k).1 ≠ 0) 29 = 0 then 2 else rI m 331 t)
      | none => rI m' 322 25 = 1 := by
  intro d
  induction d with
  | zero =>
    intro i n m row o hi hn ho hrow hlt hlp
    obtain ⟨n, rfl⟩ : ∃ k, n = k + 1 := ⟨n - 1, by omega⟩
    refine ⟨wI m 331 t (if cnt (fun k => rJ m 332 (29 * t + k) ≠ 0) 29 = 0 then 2 else rI m 331 t), ?_, fun a j h1 h2 => ?_, fun a j h1 h2 => rfl, ?_⟩
    · unfold H_X9_sumUp_51
      refine e_t (by simp (disch := omega) only [leL, leR, ltL, ltR, eqR, mulL, addR, clL, inL, nI_add, pk_mul, inb_nI, nI_clamp, nI_leI, nI_ltI, nI_eq, nI_1]; omega) ?_
      refine e_bnd (m_settle ht hN) ?_
      rfl
    · rw [rI_wI, if_neg h2]
    · cases o with
      | true =>
        show rI _ 322 25 = 1
        rw [rI_wI, if_neg (by omega), ho]
        rfl
      | false =>
        have hr := hrow rfl
        refine ⟨by rw [rI_wI, if_neg (by omega), ho]; rfl, hr, ?_⟩
        rw [rI_wI, if_pos ⟨rfl, rfl⟩, cnt_c 29 (fun k hk => by
          show rJ m 332 (29 * t + k) ≠ 0 ↔ (row k).1 ≠ 0
          rw [← hr k hk]
          exact Iff.rfl)]
  | succ d ih =>
    intro i n m row o hi hn ho hrow hlt hlp
    obtain ⟨n, rfl⟩ : ∃ k, n = k + 1 := ⟨n - 1, by omega⟩
    have hi29 : i < 29 := by omega
    by_cases h0 : rJ m 332 (29 * p + i) = 0
    · obtain ⟨m', g1, g2, g3, g4⟩ := ih (i + 1) n m row o (by omega) (by omega) ho hrow hlt hlp
      refine ⟨m', ?_, g2, g3, ?_⟩
      · unfold H_X9_sumUp_51
        refine e_f (by simp (disch := omega) only [leL, leR, ltL, ltR, eqR, mulL, addR, clL, inL, nI_add, pk_mul, inb_nI, nI_clamp, nI_leI, nI_ltI, nI_eq, nI_1]; omega) ?_
        refine e_bnd (m_isTerm hp hi29) ?_
        refine e_t (b2_f (fun q => q h0)) ?_
        unfold J_X9_sumUp_130
        repeat (first | ((with_reducible refine e_nm ?_)) | ((with_reducible refine e_rcv ?hO ?_); (case hO => (with_reducible first | assumption | exact fmO))) | ((with_reducible refine e_ldI ?hO ?_); (case hO => (with_reducible first | assumption | exact fmO))) | ((with_reducible refine e_ldJ ?hO ?_); (case hO => (with_reducible first | assumption | exact fmO))) | ((with_reducible refine e_ldR (r := ?_) ?hO ?hR ?_); (case hO => (with_reducible first | assumption | exact fmO)); (case hR => (with_reducible first | assumption | exact fmR0 | exact fmR1 | exact fmR2 | exact fmR3 | exact fmR4 | exact fmR6 | exact fmR8 | exact fmR9 | exact fmR10 | exact fmR11 | exact fmR12 | exact fmR14 | exact fmR17 | exact fmR18 | exact fmR19 | exact fmR20 | exact fmR21 | exact fmR22 | exact fmR26 | exact fmR27 | exact fmR28 | exact fmR31 | exact fmR32 | exact fmR33 | exact fmR34 | exact fmR36 | exact fmR38 | exact fmR39 | exact fmR40 | exact fmR41 | exact fmR42))) | ((with_reducible refine e_stI ?hO ?_); (case hO => (with_reducible first | assumption | exact fmO))) | ((with_reducible refine e_stJ ?hO ?_); (case hO => (with_reducible first | assumption | exact fmO))) | ((with_reducible refine e_alI (j := ?_) (n := ?_) ?hA ?hI ?hB ?_); (case hA => (with_reducible first | assumption | exact fmA0 | exact fmA1 | exact fmA2 | exact fmA3 | exact fmA4 | exact fmA6 | exact fmA8 | exact fmA9 | exact fmA10 | exact fmA11 | exact fmA12 | exact fmA14 | exact fmA17 | exact fmA18 | exact fmA19 | exact fmA20 | exact fmA21 | exact fmA22 | exact fmA26 | exact fmA27 | exact fmA28 | exact fmA31 | exact fmA32 | exact fmA33 | exact fmA34 | exact fmA36 | exact fmA38 | exact fmA39 | exact fmA40 | exact fmA41 | exact fmA42)); (case hI => (first | with_reducible rfl | with_reducible exact litn _ | (simp only [mulL, addR, nI_add, pk_mul, nI_1]; with_reducible rfl) | (simp (disch := omega) only [mulL, addR, subR, nI_add, pk_mul, pk_sub, nI_1]; with_reducible rfl))); (case hB => (omega))) | ((with_reducible refine e_alJ (j := ?_) (n := ?_) ?hA ?hI ?hB ?_); (case hA => (with_reducible first | assumption | exact fmA0 | exact fmA1 | exact fmA2 | exact fmA3 | exact fmA4 | exact fmA6 | exact fmA8 | exact fmA9 | exact fmA10 | exact fmA11 | exact fmA12 | exact fmA14 | exact fmA17 | exact fmA18 | exact fmA19 | exact fmA20 | exact fmA21 | exact fmA22 | exact fmA26 | exact fmA27 | exact fmA28 | exact fmA31 | exact fmA32 | exact fmA33 | exact fmA34 | exact fmA36 | exact fmA38 | exact fmA39 | exact fmA40 | exact fmA41 | exact fmA42)); (case hI => (first | with_reducible rfl | with_reducible exact litn _ | (simp only [mulL, addR, nI_add, pk_mul, nI_1]; with_reducible rfl) | (simp (disch := omega) only [mulL, addR, subR, nI_add, pk_mul, pk_sub, nI_1]; with_reducible rfl))); (case hB => (omega))) | ((with_reducible refine e_alZ (j := ?_) (n := ?_) ?hA ?hI ?hB ?_); (case hA => (with_reducible first | assumption | exact fmA0 | exact fmA1 | exact fmA2 | exact fmA3 | exact fmA4 | exact fmA6 | exact fmA8 | exact fmA9 | exact fmA10 | exact fmA11 | exact fmA12 | exact fmA14 | exact fmA17 | exact fmA18 | exact fmA19 | exact fmA20 | exact fmA21 | exact fmA22 | exact fmA26 | exact fmA27 | exact fmA28 | exact fmA31 | exact fmA32 | exact fmA33 | exact fmA34 | exact fmA36 | exact fmA38 | exact fmA39 | exact fmA40 | exact fmA41 | exact fmA42)); (case hI => (first | with_reducible rfl | with_reducible exact litn _ | (simp only [mulL, addR, nI_add, pk_mul, nI_1]; with_reducible rfl) | (simp (disch := omega) only [mulL, addR, subR, nI_add, pk_mul, pk_sub, nI_1]; with_reducible rfl))); (case hB => (omega))) | ((with_reducible refine e_asI (j := ?_) (n := ?_) ?hA ?hI ?hB ?_); (case hA => (with_reducible first | assumption | exact fmA0 | exact fmA1 | exact fmA2 | exact fmA3 | exact fmA4 | exact fmA6 | exact fmA8 | exact fmA9 | exact fmA10 | exact fmA11 | exact fmA12 | exact fmA14 | exact fmA17 | exact fmA18 | exact fmA19 | exact fmA20 | exact fmA21 | exact fmA22 | exact fmA26 | exact fmA27 | exact fmA28 | exact fmA31 | exact fmA32 | exact fmA33 | exact fmA34 | exact fmA36 | exact fmA38 | exact fmA39 | exact fmA40 | exact fmA41 | exact fmA42)); (case hI => (first | with_reducible rfl | with_reducible exact litn _ | (simp only [mulL, addR, nI_add, pk_mul, nI_1]; with_reducible rfl) | (simp (disch := omega) only [mulL, addR, subR, nI_add, pk_mul, pk_sub, nI_1]; with_reducible rfl))); (case hB => (omega))) | ((with_reducible refine e_asJ (j := ?_) (n := ?_) ?hA ?hI ?hB ?_); (case hA => (with_reducible first | assumption | exact fmA0 | exact fmA1 | exact fmA2 | exact fmA3 | exact fmA4 | exact fmA6 | exact fmA8 | exact fmA9 | exact fmA10 | exact fmA11 | exact fmA12 | exact fmA14 | exact fmA17 | exact fmA18 | exact fmA19 | exact fmA20 | exact fmA21 | exact fmA22 | exact fmA26 | exact fmA27 | exact fmA28 | exact fmA31 | exact fmA32 | exact fmA33 | exact fmA34 | exact fmA36 | exact fmA38 | exact fmA39 | exact fmA40 | exact fmA41 | exact fmA42)); (case hI => (first | with_reducible rfl | with_reducible exact litn _ | (simp only [mulL, addR, nI_add, pk_mul, nI_1]; with_reducible rfl) | (simp (disch := omega) only [mulL, addR, subR, nI_add, pk_mul, pk_sub, nI_1]; with_reducible rfl))); (case hB => (omega))) | ((with_reducible refine e_nzI ?hZ ?_); (case hZ => (decide))) | ((with_reducible refine e_nzJ ?hZ ?_); (case hZ => (assumption))))
        rw [addR]
        exact g1
      · rw [sumF, if_pos (show (rowM m p i).1 = 0 from h0)]
        exact g4
    · have hl := hlp i hi29
      have hlti := hlt i hi29
      have step : ∀ (m1 : vM) (q : Int64 × Int64) (o1 : Bool), rI m1 322 25 = b2 (o1 = true) → 0 < (rJ m1 322 24).toInt → (o1 = false → rJ m1 322 23 = q.1 ∧ rJ m1 322 24 = q.2) → (o1 = false → o = false) → (∀ a j, ¬ (a = 322 ∧ j = 25) → rI m1 a j = rI m a j) → (∀ a j, ¬ (a = 322 ∧ (j = 23 ∨ j = 24)) → rJ m1 a j = rJ m a j) →
          ∃ m', J_X9_sumUp_122 N (H_X9_sumUp_51 N n) 322 (nI p) l3 (nI t) (nI i) (S m1) = some ((), S m') ∧ (∀ a j, ¬ (a = 322 ∧ j = 25) → ¬ (a = 331 ∧ j = t) → rI m' a j = rI m a j) ∧ (∀ a j, ¬ (a = 322 ∧ (j = 23 ∨ j = 24)) → ¬ ((a = 332 ∨ a = 333) ∧ 29 * t ≤ j ∧ j < 29 * t + 29) → rJ m' a j = rJ m a j) ∧
          match (if o1 = true then none else match acc row i q with | none => none | some row' => sumF (rowM m p) less d (i + 1) row') with
          | some row' => rI m' 322 25 = 0 ∧ (∀ k, k < 29 → rowM m' t k = row' k) ∧ rI m' 331 t = (if cnt (fun k => (row' k).1 ≠ 0) 29 = 0 then 2 else rI m 331 t)
          | none => rI m' 322 25 = 1 := by
        intro m1 q o1 ho1 hpos hq hoo k1 k2
        have hbt : 0 < (rJ m1 333 (29 * t + i)).toInt := by rw [k2 _ _ (by omega)]; exact hlti.1
        obtain ⟨m2, a1, a2, a3, a4, a5⟩ := m_addTo (N := N) (m := m1) (o := (o1 = true)) hN ht hi29 hbt hpos ho1
        have hJ2 : ∀ a j, ¬ (a = 322 ∧ (j = 23 ∨ j = 24)) → ¬ ((a = 332 ∨ a = 333) ∧ j = 29 * t + i) → rJ m2 a j = rJ m a j := fun a j h1 h2 => (a3 a j h1 h2).trans (k2 a j h1)
        have hI2 : ∀ a j, ¬ (a = 322 ∧ j = 25) → rI m2 a j = rI m a j := fun a j h => (a2 a j h).trans (k1 a j h)
        have hp2 : ∀ k, k < 29 → rowM m2 p k = rowM m p k := by
          intro k hk
          show (rJ m2 332 (29 * p + k), rJ m2 333 (29 * p + k)) = (rJ m 332 (29 * p + k), rJ m 333 (29 * p + k))
          rw [hJ2 _ _ (by omega) (by omega), hJ2 _ _ (by omega) (by omega)]
        have ht2 : ∀ k, k < 29 → k ≠ i → rowM m2 t k = rowM m t k := by
          intro k hk hki
          show (rJ m2 332 (29 * t + k), rJ m2 333 (29 * t + k)) = (rJ m 332 (29 * t + k), rJ m 333 (29 * t + k))
          rw [hJ2 _ _ (by omega) (by omega), hJ2 _ _ (by omega) (by omega)]
        have hlp2 : Lows (rowM m2 p) := fun k hk => by rw [hp2 k hk]; exact hlp k hk
        have go : ∀ (m' : vM), H_X9_sumUp_51 N n 322 (nI p) l3 (nI t) (nI (i + 1)) (S m2) = some ((), S m') → J_X9_sumUp_122 N (H_X9_sumUp_51 N n) 322 (nI p) l3 (nI t) (nI i) (S m1) = some ((), S m') := by
          intro m' g
          unfold J_X9_sumUp_122
          refine e_bnd a1 ?_
          unfold J_X9_sumUp_130
          repeat (first | ((with_reducible refine e_nm ?_)) | ((with_reducible refine e_rcv ?hO ?_); (case hO => (with_reducible first | assumption | exact fmO))) | ((with_reducible refine e_ldI ?hO ?_); (case hO => (with_reducible first | assumption | exact fmO))) | ((with_reducible refine e_ldJ ?hO ?_); (case hO => (with_reducible first | assumption | exact fmO))) | ((with_reducible refine e_ldR (r := ?_) ?hO ?hR ?_); (case hO => (with_reducible first | assumption | exact fmO)); (case hR => (with_reducible first | assumption | exact fmR0 | exact fmR1 | exact fmR2 | exact fmR3 | exact fmR4 | exact fmR6 | exact fmR8 | exact fmR9 | exact fmR10 | exact fmR11 | exact fmR12 | exact fmR14 | exact fmR17 | exact fmR18 | exact fmR19 | exact fmR20 | exact fmR21 | exact fmR22 | exact fmR26 | exact fmR27 | exact fmR28 | exact fmR31 | exact fmR32 | exact fmR33 | exact fmR34 | exact fmR36 | exact fmR38 | exact fmR39 | exact fmR40 | exact fmR41 | exact fmR42))) | ((with_reducible refine e_stI ?hO ?_); (case hO => (with_reducible first | assumption | exact fmO))) | ((with_reducible refine e_stJ ?hO ?_); (case hO => (with_reducible first | assumption | exact fmO))) | ((with_reducible refine e_alI (j := ?_) (n := ?_) ?hA ?hI ?hB ?_); (case hA => (with_reducible first | assumption | exact fmA0 | exact fmA1 | exact fmA2 | exact fmA3 | exact fmA4 | exact fmA6 | exact fmA8 | exact fmA9 | exact fmA10 | exact fmA11 | exact fmA12 | exact fmA14 | exact fmA17 | exact fmA18 | exact fmA19 | exact fmA20 | exact fmA21 | exact fmA22 | exact fmA26 | exact fmA27 | exact fmA28 | exact fmA31 | exact fmA32 | exact fmA33 | exact fmA34 | exact fmA36 | exact fmA38 | exact fmA39 | exact fmA40 | exact fmA41 | exact fmA42)); (case hI => (first | with_reducible rfl | with_reducible exact litn _ | (simp only [mulL, addR, nI_add, pk_mul, nI_1]; with_reducible rfl) | (simp (disch := omega) only [mulL, addR, subR, nI_add, pk_mul, pk_sub, nI_1]; with_reducible rfl))); (case hB => (omega))) | ((with_reducible refine e_alJ (j := ?_) (n := ?_) ?hA ?hI ?hB ?_); (case hA => (with_reducible first | assumption | exact fmA0 | exact fmA1 | exact fmA2 | exact fmA3 | exact fmA4 | exact fmA6 | exact fmA8 | exact fmA9 | exact fmA10 | exact fmA11 | exact fmA12 | exact fmA14 | exact fmA17 | exact fmA18 | exact fmA19 | exact fmA20 | exact fmA21 | exact fmA22 | exact fmA26 | exact fmA27 | exact fmA28 | exact fmA31 | exact fmA32 | exact fmA33 | exact fmA34 | exact fmA36 | exact fmA38 | exact fmA39 | exact fmA40 | exact fmA41 | exact fmA42)); (case hI => (first | with_reducible rfl | with_reducible exact litn _ | (simp only [mulL, addR, nI_add, pk_mul, nI_1]; with_reducible rfl) | (simp (disch := omega) only [mulL, addR, subR, nI_add, pk_mul, pk_sub, nI_1]; with_reducible rfl))); (case hB => (omega))) | ((with_reducible refine e_alZ (j := ?_) (n := ?_) ?hA ?hI ?hB ?_); (case hA => (with_reducible first | assumption | exact fmA0 | exact fmA1 | exact fmA2 | exact fmA3 | exact fmA4 | exact fmA6 | exact fmA8 | exact fmA9 | exact fmA10 | exact fmA11 | exact fmA12 | exact fmA14 | exact fmA17 | exact fmA18 | exact fmA19 | exact fmA20 | exact fmA21 | exact fmA22 | exact fmA26 | exact fmA27 | exact fmA28 | exact fmA31 | exact fmA32 | exact fmA33 | exact fmA34 | exact fmA36 | exact fmA38 | exact fmA39 | exact fmA40 | exact fmA41 | exact fmA42)); (case hI => (first | with_reducible rfl | with_reducible exact litn _ | (simp only [mulL, addR, nI_add, pk_mul, nI_1]; with_reducible rfl) | (simp (disch := omega) only [mulL, addR, subR, nI_add, pk_mul, pk_sub, nI_1]; with_reducible rfl))); (case hB => (omega))) | ((with_reducible refine e_asI (j := ?_) (n := ?_) ?hA ?hI ?hB ?_); (case hA => (with_reducible first | assumption | exact fmA0 | exact fmA1 | exact fmA2 | exact fmA3 | exact fmA4 | exact fmA6 | exact fmA8 | exact fmA9 | exact fmA10 | exact fmA11 | exact fmA12 | exact fmA14 | exact fmA17 | exact fmA18 | exact fmA19 | exact fmA20 | exact fmA21 | exact fmA22 | exact fmA26 | exact fmA27 | exact fmA28 | exact fmA31 | exact fmA32 | exact fmA33 | exact fmA34 | exact fmA36 | exact fmA38 | exact fmA39 | exact fmA40 | exact fmA41 | exact fmA42)); (case hI => (first | with_reducible rfl | with_reducible exact litn _ | (simp only [mulL, addR, nI_add, pk_mul, nI_1]; with_reducible rfl) | (simp (disch := omega) only [mulL, addR, subR, nI_add, pk_mul, pk_sub, nI_1]; with_reducible rfl))); (case hB => (omega))) | ((with_reducible refine e_asJ (j := ?_) (n := ?_) ?hA ?hI ?hB ?_); (case hA => (with_reducible first | assumption | exact fmA0 | exact fmA1 | exact fmA2 | exact fmA3 | exact fmA4 | exact fmA6 | exact fmA8 | exact fmA9 | exact fmA10 | exact fmA11 | exact fmA12 | exact fmA14 | exact fmA17 | exact fmA18 | exact fmA19 | exact fmA20 | exact fmA21 | exact fmA22 | exact fmA26 | exact fmA27 | exact fmA28 | exact fmA31 | exact fmA32 | exact fmA33 | exact fmA34 | exact fmA36 | exact fmA38 | exact fmA39 | exact fmA40 | exact fmA41 | exact fmA42)); (case hI => (first | with_reducible rfl | with_reducible exact litn _ | (simp only [mulL, addR, nI_add, pk_mul, nI_1]; with_reducible rfl) | (simp (disch := omega) only [mulL, addR, subR, nI_add, pk_mul, pk_sub, nI_1]; with_reducible rfl))); (case hB => (omega))) | ((with_reducible refine e_nzI ?hZ ?_); (case hZ => (decide))) | ((with_reducible refine e_nzJ ?hZ ?_); (case hZ => (assumption))))
          rw [addR]
          exact g
        have ei : rowM m1 t i = rowM m t i := by
          show (rJ m1 332 (29 * t + i), rJ m1 333 (29 * t + i)) = (rJ m 332 (29 * t + i), rJ m 333 (29 * t + i))
          rw [k2 _ _ (by omega), k2 _ _ (by omega)]
        have e1 : rJ m1 332 (29 * t + i) = (rowM m t i).1 := congrArg Prod.fst ei
        have e2 : rJ m1 333 (29 * t + i) = (rowM m t i).2 := congrArg Prod.snd ei
        cases hres : (if o1 = true then none else fadd (rJ m1 332 (29 * t + i)) (rJ m1 333 (29 * t + i)) (rJ m1 322 23) (rJ m1 322 24)) with
        | none =>
          rw [hres] at a5
          obtain ⟨c1, c2, c3⟩ := a5
          have hti : rowM m2 t i = rowM m t i := by
            show (rJ m2 332 (29 * t + i), rJ m2 333 (29 * t + i)) = _
            rw [c2, c3, ← ei]
            rfl
          obtain ⟨m', g1, g2, g3, g4⟩ := ih (i + 1) n m2 row true (by omega) (by omega) (by rw [c1]; rfl) (fun h => by cases h) (fun k hk => by
            by_cases z : k = i
            · rw [z, hti]; exact hlti
            · rw [ht2 k hk z]; exact hlt k hk) hlp2
          refine ⟨m', go m' g1, fun a j h1 h2 => (g2 a j h1 h2).trans (hI2 a j h1), fun a j h1 h2 => (g3 a j h1 h2).trans (hJ2 a j h1 (by omega)), ?_⟩
          have hz : (if o1 = true then none else match acc row i q with | none => none | some row' => sumF (rowM m p) less d (i + 1) row') = none := by
            cases o1 with
            | true => rfl
            | false =>
              have hq2 := hq rfl
              have hr := hrow (hoo rfl) i hi29
              rw [e1, e2, hr, hq2.1, hq2.2] at hres
              have hres : fadd (row i).1 (row i).2 q.1 q.2 = none := hres
              have : acc row i q = none := by unfold acc; rw [hres]
              rw [this]; rfl
          rw [hz]
          exact g4
        | some pp =>
          rw [hres] at a5
          obtain ⟨c1, c2, c3⟩ := a5
          have ho1f : o1 = false := by
            cases o1 with
            | true => rw [if_pos rfl] at hres; cases hres
            | false => rfl
          subst ho1f
          have hq2 := hq rfl
          have hr := hrow (hoo rfl)
          rw [e1, e2, hr i hi29, hq2.1, hq2.2] at hres
          have hres : fadd (row i).1 (row i).2 q.1 q.2 = some pp := hres
          have ha : acc row i q = some (fun j => if j = i then pp else row j) := by unfold acc; rw [hres]
          have hrl : Low (row i) := by rw [← hr i hi29]; exact hlti
          have hql : 0 < q.2.toInt := by rw [← hq2.2]; exact hpos
          have hrow2 : ∀ k, k < 29 → rowM m2 t k = if k = i then pp else row k := by
            intro k hk
            by_cases z : k = i
            · rw [if_pos z, z]
              show (rJ m2 332 (29 * t + i), rJ m2 333 (29 * t + i)) = pp
              rw [c2, c3]
            · rw [if_neg z, ht2 k hk z]; exact hr k hk
          obtain ⟨m', g1, g2, g3, g4⟩ := ih (i + 1) n m2 (fun j => if j = i then pp else row j) false (by omega) (by omega) (by rw [c1]; rfl) (fun _ k hk => hrow2 k hk) (fun k hk => by
            rw [hrow2 k hk]
            by_cases z : k = i
            · rw [if_pos z]; exact fadd_low hrl.1 hql hres
            · rw [if_neg z, ← hr k hk]; exact hlt k hk) hlp2
          refine ⟨m', go m' g1, fun a j h1 h2 => (g2 a j h1 h2).trans (hI2 a j h1), fun a j h1 h2 => (g3 a j h1 h2).trans (hJ2 a j h1 (by omega)), ?_⟩
          have hz : (if false = true then none else match acc row i q with | none => none | some row' => sumF (rowM m p) less d (i + 1) row') = (if false = true then none else sumF (rowM m2 p) less d (i + 1) (fun j => if j = i then pp else row j)) := by
            rw [ha, sumF_o hp2 d (i + 1) _ (by omega)]
          rw [hz]
          have hI331 : rI m2 331 t = rI m 331 t := hI2 _ _ (by omega)
          rw [hI331] at g4
          exact g4
      sorry
end MSUM
