section UROWS
theorem u_H_X9_lookInHand_10 {N : Nat} {n : Nat} {a0 : Nat} {l1 : Int32} {s : vS} : H_X9_lookInHand_10 N (n + 1) a0 l1 s = (ldI s a0 9 5 (fun v2 => if v2 ≤ l1 then (some ((), s)) else (ldR s a0 9 8 (fun r3 => ldR s a0 9 6 (fun r4 => alI s r4 l1 (fun v5 => asI s r3 l1 v5 (fun s => nm (l1 + (1 : Int32)) (fun l1_6 => H_X9_lookInHand_10 N n a0 l1_6 s)))))))) := rfl
theorem u_F_X9_lookInHand {N : Nat} {a0 : Nat} {s : vS} : F_X9_lookInHand N a0 s = (rcv s a0 9 (ldI s a0 9 5 (fun v1 => stI s a0 9 7 v1 (fun s => H_X9_lookInHand_10 N N a0 (0 : Int32) s)))) := rfl
end UROWS
/-! the model looks into what is in hand, or into a network by its code, and counts there -/
section LOOK
variable {N : Nat} {m : vM} {s : vS}
def HandM (m : vM) (nn : Nat) (r : Nat → Nat) : Prop := rI m 322 5 = nI nn ∧ nn ≤ 8 ∧ ∀ i, i < nn → rI m 328 i = nI (r i) ∧ r i < 2 ^ nn
def lkP (b j : Nat) : Prop := b = 329 ∨ (b = 322 ∧ j = 7)
theorem m_lookInHand_l {nn : Nat} {r : Nat → Nat} : ∀ (d i n : Nat) (m : vM), i + d = nn → d < n → HandM m nn r → rI m 322 7 = nI nn → (∀ j, j < i → rI m 329 j = nI (r j)) →
    ∃ m', H_X9_lookInHand_10 N n 322 (nI i) (S m) = some ((), S m') ∧ Fr (fun b _ => b = 329) m m' ∧ LookIs m' nn r
  | _, _, 0, _, _, h, _, _, _ => by omega
  | 0, i, n + 1, m, hi, _, hh, h7, hl => by
    obtain ⟨h1, h2, h3⟩ := hh
    refine ⟨m, ?_, Fr.rf, h7, h2, fun j hj => ⟨hl j (by omega), (h3 j hj).2⟩⟩
    repeat (first | ((with_reducible refine e_nmV (e2 := ?_) ?hV ?_); (case hV => (first | (simp (disch := omega) only [leL, leR, ltL, ltR, eqR, eqL, mulL, addR, subR, clL, inL, nI_add, pk_mul, pk_sub, inb_nI, nI_clamp, nI_leI, nI_ltI, nI_eq, nI_1, divR, remR, shl1, h1, rI_s, rJ_s, rI_n, rJ_n, rI_wJ, rJ_wI]; with_reducible rfl) | with_reducible rfl))) | ((with_reducible refine e_rcv ?hO ?_); (case hO => (with_reducible first | assumption | exact fmO))) | (with_reducible refine Eq.trans u_H_X9_lookInHand_10 ?_) | (with_reducible refine Eq.trans u_F_X9_lookInHand ?_) | ((with_reducible refine e_ldIV (v := ?_) ?hO ?hV ?_); (case hO => (with_reducible first | assumption | exact fmO)); (case hV => (first | (simp (disch := omega) only [leL, leR, ltL, ltR, eqR, eqL, mulL, addR, subR, clL, inL, nI_add, pk_mul, pk_sub, inb_nI, nI_clamp, nI_leI, nI_ltI, nI_eq, nI_1, divR, remR, shl1, h1, rI_s, rJ_s, rI_n, rJ_n, rI_wJ, rJ_wI]; with_reducible rfl) | with_reducible rfl))) | ((with_reducible refine e_ldJV (v := ?_) ?hO ?hV ?_); (case hO => (with_reducible first | assumption | exact fmO)); (case hV => (first | (simp (disch := omega) only [leL, leR, ltL, ltR, eqR, eqL, mulL, addR, subR, clL, inL, nI_add, pk_mul, pk_sub, inb_nI, nI_clamp, nI_leI, nI_ltI, nI_eq, nI_1, divR, remR, shl1, h1, rI_s, rJ_s, rI_n, rJ_n, rI_wJ, rJ_wI]; with_reducible rfl) | with_reducible rfl))) | ((with_reducible refine e_ldR (r := ?_) ?hO ?hR ?_); (case hO => (with_reducible first | assumption | exact fmO)); (case hR => (with_reducible first | assumption | exact fmR0 | exact fmR1 | exact fmR2 | exact fmR3 | exact fmR4 | exact fmR6 | exact fmR8 | exact fmR9 | exact fmR10 | exact fmR11 | exact fmR12 | exact fmR14 | exact fmR17 | exact fmR18 | exact fmR19 | exact fmR20 | exact fmR21 | exact fmR22 | exact fmR26 | exact fmR27 | exact fmR28 | exact fmR31 | exact fmR32 | exact fmR33 | exact fmR34 | exact fmR36 | exact fmR38 | exact fmR39 | exact fmR40 | exact fmR41 | exact fmR42))) | ((with_reducible refine e_stIV (v2 := ?_) ?hO ?hV ?_); (case hO => (with_reducible first | assumption | exact fmO)); (case hV => (first | (simp (disch := omega) only [leL, leR, ltL, ltR, eqR, eqL, mulL, addR, subR, clL, inL, nI_add, pk_mul, pk_sub, inb_nI, nI_clamp, nI_leI, nI_ltI, nI_eq, nI_1, divR, remR, shl1, h1, rI_s, rJ_s, rI_n, rJ_n, rI_wJ, rJ_wI]; with_reducible rfl) | with_reducible rfl))) | ((with_reducible refine e_stJV (v2 := ?_) ?hO ?hV ?_); (case hO => (with_reducible first | assumption | exact fmO)); (case hV => (first | (simp (disch := omega) only [leL, leR, ltL, ltR, eqR, eqL, mulL, addR, subR, clL, inL, nI_add, pk_mul, pk_sub, inb_nI, nI_clamp, nI_leI, nI_ltI, nI_eq, nI_1, divR, remR, shl1, h1, rI_s, rJ_s, rI_n, rJ_n, rI_wJ, rJ_wI]; with_reducible rfl) | with_reducible rfl))) | ((with_reducible refine e_stZ ?hO ?hZ ?_); (case hO => (with_reducible first | assumption | exact fmO)); (case hZ => (first | exact Or.inl rfl | exact Or.inr rfl | exact b2_01 _ | assumption))) | ((with_reducible refine e_alIV (j := ?_) (n := ?_) (v := ?_) ?hA ?hI ?hB ?hV ?_); (case hA => (with_reducible first | assumption | exact fmA0 | exact fmA1 | exact fmA2 | exact fmA3 | exact fmA4 | exact fmA6 | exact fmA8 | exact fmA9 | exact fmA10 | exact fmA11 | exact fmA12 | exact fmA14 | exact fmA17 | exact fmA18 | exact fmA19 | exact fmA20 | exact fmA21 | exact fmA22 | exact fmA26 | exact fmA27 | exact fmA28 | exact fmA31 | exact fmA32 | exact fmA33 | exact fmA34 | exact fmA36 | exact fmA38 | exact fmA39 | exact fmA40 | exact fmA41 | exact fmA42)); (case hI => (first | with_reducible rfl | with_reducible exact litn _ | (simp (disch := omega) only [leL, leR, ltL, ltR, eqR, eqL, mulL, addR, subR, clL, inL, nI_add, pk_mul, pk_sub, inb_nI, nI_clamp, nI_leI, nI_ltI, nI_eq, nI_1, divR, remR, shl1, h1, rI_s, rJ_s, rI_n, rJ_n, rI_wJ, rJ_wI]; with_reducible rfl))); (case hB => (omega)); (case hV => (first | (simp (disch := omega) only [leL, leR, ltL, ltR, eqR, eqL, mulL, addR, subR, clL, inL, nI_add, pk_mul, pk_sub, inb_nI, nI_clamp, nI_leI, nI_ltI, nI_eq, nI_1, divR, remR, shl1, h1, rI_s, rJ_s, rI_n, rJ_n, rI_wJ, rJ_wI]; with_reducible rfl) | with_reducible rfl))) | ((with_reducible refine e_alJV (j := ?_) (n := ?_) (v := ?_) ?hA ?hI ?hB ?hV ?_); (case hA => (with_reducible first | assumption | exact fmA0 | exact fmA1 | exact fmA2 | exact fmA3 | exact fmA4 | exact fmA6 | exact fmA8 | exact fmA9 | exact fmA10 | exact fmA11 | exact fmA12 | exact fmA14 | exact fmA17 | exact fmA18 | exact fmA19 | exact fmA20 | exact fmA21 | exact fmA22 | exact fmA26 | exact fmA27 | exact fmA28 | exact fmA31 | exact fmA32 | exact fmA33 | exact fmA34 | exact fmA36 | exact fmA38 | exact fmA39 | exact fmA40 | exact fmA41 | exact fmA42)); (case hI => (first | with_reducible rfl | with_reducible exact litn _ | (simp (disch := omega) only [leL, leR, ltL, ltR, eqR, eqL, mulL, addR, subR, clL, inL, nI_add, pk_mul, pk_sub, inb_nI, nI_clamp, nI_leI, nI_ltI, nI_eq, nI_1, divR, remR, shl1, h1, rI_s, rJ_s, rI_n, rJ_n, rI_wJ, rJ_wI]; with_reducible rfl))); (case hB => (omega)); (case hV => (first | (simp (disch := omega) only [leL, leR, ltL, ltR, eqR, eqL, mulL, addR, subR, clL, inL, nI_add, pk_mul, pk_sub, inb_nI, nI_clamp, nI_leI, nI_ltI, nI_eq, nI_1, divR, remR, shl1, h1, rI_s, rJ_s, rI_n, rJ_n, rI_wJ, rJ_wI]; with_reducible rfl) | with_reducible rfl))) | ((with_reducible refine e_alZV (j := ?_) (n := ?_) (v := ?_) ?hA ?hI ?hB ?hV ?_); (case hA => (with_reducible first | assumption | exact fmA0 | exact fmA1 | exact fmA2 | exact fmA3 | exact fmA4 | exact fmA6 | exact fmA8 | exact fmA9 | exact fmA10 | exact fmA11 | exact fmA12 | exact fmA14 | exact fmA17 | exact fmA18 | exact fmA19 | exact fmA20 | exact fmA21 | exact fmA22 | exact fmA26 | exact fmA27 | exact fmA28 | exact fmA31 | exact fmA32 | exact fmA33 | exact fmA34 | exact fmA36 | exact fmA38 | exact fmA39 | exact fmA40 | exact fmA41 | exact fmA42)); (case hI => (first | with_reducible rfl | with_reducible exact litn _ | (simp (disch := omega) only [leL, leR, ltL, ltR, eqR, eqL, mulL, addR, subR, clL, inL, nI_add, pk_mul, pk_sub, inb_nI, nI_clamp, nI_leI, nI_ltI, nI_eq, nI_1, divR, remR, shl1, h1, rI_s, rJ_s, rI_n, rJ_n, rI_wJ, rJ_wI]; with_reducible rfl))); (case hB => (omega)); (case hV => (first | (simp (disch := omega) only [leL, leR, ltL, ltR, eqR, eqL, mulL, addR, subR, clL, inL, nI_add, pk_mul, pk_sub, inb_nI, nI_clamp, nI_leI, nI_ltI, nI_eq, nI_1, divR, remR, shl1, h1, rI_s, rJ_s, rI_n, rJ_n, rI_wJ, rJ_wI]; with_reducible rfl) | with_reducible rfl))) | ((with_reducible refine e_asIV (j := ?_) (n := ?_) (v2 := ?_) ?hA ?hI ?hB ?hV ?_); (case hA => (with_reducible first | assumption | exact fmA0 | exact fmA1 | exact fmA2 | exact fmA3 | exact fmA4 | exact fmA6 | exact fmA8 | exact fmA9 | exact fmA10 | exact fmA11 | exact fmA12 | exact fmA14 | exact fmA17 | exact fmA18 | exact fmA19 | exact fmA20 | exact fmA21 | exact fmA22 | exact fmA26 | exact fmA27 | exact fmA28 | exact fmA31 | exact fmA32 | exact fmA33 | exact fmA34 | exact fmA36 | exact fmA38 | exact fmA39 | exact fmA40 | exact fmA41 | exact fmA42)); (case hI => (first | with_reducible rfl | with_reducible exact litn _ | (simp (disch := omega) only [leL, leR, ltL, ltR, eqR, eqL, mulL, addR, subR, clL, inL, nI_add, pk_mul, pk_sub, inb_nI, nI_clamp, nI_leI, nI_ltI, nI_eq, nI_1, divR, remR, shl1, h1, rI_s, rJ_s, rI_n, rJ_n, rI_wJ, rJ_wI]; with_reducible rfl))); (case hB => (omega)); (case hV => (first | (simp (disch := omega) only [leL, leR, ltL, ltR, eqR, eqL, mulL, addR, subR, clL, inL, nI_add, pk_mul, pk_sub, inb_nI, nI_clamp, nI_leI, nI_ltI, nI_eq, nI_1, divR, remR, shl1, h1, rI_s, rJ_s, rI_n, rJ_n, rI_wJ, rJ_wI]; with_reducible rfl) | with_reducible rfl))) | ((with_reducible refine e_asJV (j := ?_) (n := ?_) (v2 := ?_) ?hA ?hI ?hB ?hV ?_); (case hA => (with_reducible first | assumption | exact fmA0 | exact fmA1 | exact fmA2 | exact fmA3 | exact fmA4 | exact fmA6 | exact fmA8 | exact fmA9 | exact fmA10 | exact fmA11 | exact fmA12 | exact fmA14 | exact fmA17 | exact fmA18 | exact fmA19 | exact fmA20 | exact fmA21 | exact fmA22 | exact fmA26 | exact fmA27 | exact fmA28 | exact fmA31 | exact fmA32 | exact fmA33 | exact fmA34 | exact fmA36 | exact fmA38 | exact fmA39 | exact fmA40 | exact fmA41 | exact fmA42)); (case hI => (first | with_reducible rfl | with_reducible exact litn _ | (simp (disch := omega) only [leL, leR, ltL, ltR, eqR, eqL, mulL, addR, subR, clL, inL, nI_add, pk_mul, pk_sub, inb_nI, nI_clamp, nI_leI, nI_ltI, nI_eq, nI_1, divR, remR, shl1, h1, rI_s, rJ_s, rI_n, rJ_n, rI_wJ, rJ_wI]; with_reducible rfl))); (case hB => (omega)); (case hV => (first | (simp (disch := omega) only [leL, leR, ltL, ltR, eqR, eqL, mulL, addR, subR, clL, inL, nI_add, pk_mul, pk_sub, inb_nI, nI_clamp, nI_leI, nI_ltI, nI_eq, nI_1, divR, remR, shl1, h1, rI_s, rJ_s, rI_n, rJ_n, rI_wJ, rJ_wI]; with_reducible rfl) | with_reducible rfl))) | ((with_reducible refine e_asZ (j := ?_) (n := ?_) ?hA ?hI ?hB ?hZ ?_); (case hA => (with_reducible first | assumption | exact fmA0 | exact fmA1 | exact fmA2 | exact fmA3 | exact fmA4 | exact fmA6 | exact fmA8 | exact fmA9 | exact fmA10 | exact fmA11 | exact fmA12 | exact fmA14 | exact fmA17 | exact fmA18 | exact fmA19 | exact fmA20 | exact fmA21 | exact fmA22 | exact fmA26 | exact fmA27 | exact fmA28 | exact fmA31 | exact fmA32 | exact fmA33 | exact fmA34 | exact fmA36 | exact fmA38 | exact fmA39 | exact fmA40 | exact fmA41 | exact fmA42)); (case hI => (first | with_reducible rfl | with_reducible exact litn _ | (simp (disch := omega) only [leL, leR, ltL, ltR, eqR, eqL, mulL, addR, subR, clL, inL, nI_add, pk_mul, pk_sub, inb_nI, nI_clamp, nI_leI, nI_ltI, nI_eq, nI_1, divR, remR, shl1, h1, rI_s, rJ_s, rI_n, rJ_n, rI_wJ, rJ_wI]; with_reducible rfl))); (case hB => (omega)); (case hZ => (first | exact Or.inl rfl | exact Or.inr rfl | exact b2_01 _ | assumption))) | ((with_reducible refine e_nzI ?hZ ?_); (case hZ => (first | decide | assumption))) | ((with_reducible refine e_nzJ ?hZ ?_); (case hZ => (first | decide | assumption))) | ((with_reducible refine e_t ?hC ?_); (case hC => (first | assumption | decide | (simp (disch := omega) only [leL, leR, ltL, ltR, eqR, eqL, mulL, addR, subR, clL, inL, nI_add, pk_mul, pk_sub, inb_nI, nI_clamp, nI_leI, nI_ltI, nI_eq, nI_1, divR, remR, shl1, h1, rI_s, rJ_s, rI_n, rJ_n, rI_wJ, rJ_wI, b2_0, b2_1, lg_cmp_ge, lg_cmp_le, lg_cmp_gt, lg_cmp_lt, lg_cmp_eq]; first | done | omega) | omega))) | ((with_reducible refine e_f ?hC ?_); (case hC => (first | assumption | decide | (simp (disch := omega) only [leL, leR, ltL, ltR, eqR, eqL, mulL, addR, subR, clL, inL, nI_add, pk_mul, pk_sub, inb_nI, nI_clamp, nI_leI, nI_ltI, nI_eq, nI_1, divR, remR, shl1, h1, rI_s, rJ_s, rI_n, rJ_n, rI_wJ, rJ_wI, b2_0, b2_1, lg_cmp_ge, lg_cmp_le, lg_cmp_gt, lg_cmp_lt, lg_cmp_eq]; first | done | omega) | omega))))
    rfl
  | d + 1, i, n + 1, m, hi, hd, hh, h7, hl => by
    obtain ⟨h1, h2, h3⟩ := id hh
    have h3i := (h3 i (by omega)).1
    obtain ⟨m', g1, g2, g3⟩ := m_lookInHand_l d (i + 1) n (wI m 329 i (nI (r i))) (by omega) (by omega) ⟨h1, h2, h3⟩ h7 (fun j hj => by
      by_cases e : j = i
      · rw [e, rI_s]
      · rw [rI_n _ _ (by omega)]; exact hl j (by omega))
    refine ⟨m', ?_, g2.pI rfl, g3⟩
    repeat (first | ((with_reducible refine e_nmV (e2 := ?_) ?hV ?_); (case hV => (first | (simp (disch := omega) only [leL, leR, ltL, ltR, eqR, eqL, mulL, addR, subR, clL, inL, nI_add, pk_mul, pk_sub, inb_nI, nI_clamp, nI_leI, nI_ltI, nI_eq, nI_1, divR, remR, shl1, h1, h3i, rI_s, rJ_s, rI_n, rJ_n, rI_wJ, rJ_wI]; with_reducible rfl) | with_reducible rfl))) | ((with_reducible refine e_rcv ?hO ?_); (case hO => (with_reducible first | assumption | exact fmO))) | (with_reducible refine Eq.trans u_H_X9_lookInHand_10 ?_) | (with_reducible refine Eq.trans u_F_X9_lookInHand ?_) | ((with_reducible refine e_ldIV (v := ?_) ?hO ?hV ?_); (case hO => (with_reducible first | assumption | exact fmO)); (case hV => (first | (simp (disch := omega) only [leL, leR, ltL, ltR, eqR, eqL, mulL, addR, subR, clL, inL, nI_add, pk_mul, pk_sub, inb_nI, nI_clamp, nI_leI, nI_ltI, nI_eq, nI_1, divR, remR, shl1, h1, h3i, rI_s, rJ_s, rI_n, rJ_n, rI_wJ, rJ_wI]; with_reducible rfl) | with_reducible rfl))) | ((with_reducible refine e_ldJV (v := ?_) ?hO ?hV ?_); (case hO => (with_reducible first | assumption | exact fmO)); (case hV => (first | (simp (disch := omega) only [leL, leR, ltL, ltR, eqR, eqL, mulL, addR, subR, clL, inL, nI_add, pk_mul, pk_sub, inb_nI, nI_clamp, nI_leI, nI_ltI, nI_eq, nI_1, divR, remR, shl1, h1, h3i, rI_s, rJ_s, rI_n, rJ_n, rI_wJ, rJ_wI]; with_reducible rfl) | with_reducible rfl))) | ((with_reducible refine e_ldR (r := ?_) ?hO ?hR ?_); (case hO => (with_reducible first | assumption | exact fmO)); (case hR => (with_reducible first | assumption | exact fmR0 | exact fmR1 | exact fmR2 | exact fmR3 | exact fmR4 | exact fmR6 | exact fmR8 | exact fmR9 | exact fmR10 | exact fmR11 | exact fmR12 | exact fmR14 | exact fmR17 | exact fmR18 | exact fmR19 | exact fmR20 | exact fmR21 | exact fmR22 | exact fmR26 | exact fmR27 | exact fmR28 | exact fmR31 | exact fmR32 | exact fmR33 | exact fmR34 | exact fmR36 | exact fmR38 | exact fmR39 | exact fmR40 | exact fmR41 | exact fmR42))) | ((with_reducible refine e_stIV (v2 := ?_) ?hO ?hV ?_); (case hO => (with_reducible first | assumption | exact fmO)); (case hV => (first | (simp (disch := omega) only [leL, leR, ltL, ltR, eqR, eqL, mulL, addR, subR, clL, inL, nI_add, pk_mul, pk_sub, inb_nI, nI_clamp, nI_leI, nI_ltI, nI_eq, nI_1, divR, remR, shl1, h1, h3i, rI_s, rJ_s, rI_n, rJ_n, rI_wJ, rJ_wI]; with_reducible rfl) | with_reducible rfl))) | ((with_reducible refine e_stJV (v2 := ?_) ?hO ?hV ?_); (case hO => (with_reducible first | assumption | exact fmO)); (case hV => (first | (simp (disch := omega) only [leL, leR, ltL, ltR, eqR, eqL, mulL, addR, subR, clL, inL, nI_add, pk_mul, pk_sub, inb_nI, nI_clamp, nI_leI, nI_ltI, nI_eq, nI_1, divR, remR, shl1, h1, h3i, rI_s, rJ_s, rI_n, rJ_n, rI_wJ, rJ_wI]; with_reducible rfl) | with_reducible rfl))) | ((with_reducible refine e_stZ ?hO ?hZ ?_); (case hO => (with_reducible first | assumption | exact fmO)); (case hZ => (first | exact Or.inl rfl | exact Or.inr rfl | exact b2_01 _ | assumption))) | ((with_reducible refine e_alIV (j := ?_) (n := ?_) (v := ?_) ?hA ?hI ?hB ?hV ?_); (case hA => (with_reducible first | assumption | exact fmA0 | exact fmA1 | exact fmA2 | exact fmA3 | exact fmA4 | exact fmA6 | exact fmA8 | exact fmA9 | exact fmA10 | exact fmA11 | exact fmA12 | exact fmA14 | exact fmA17 | exact fmA18 | exact fmA19 | exact fmA20 | exact fmA21 | exact fmA22 | exact fmA26 | exact fmA27 | exact fmA28 | exact fmA31 | exact fmA32 | exact fmA33 | exact fmA34 | exact fmA36 | exact fmA38 | exact fmA39 | exact fmA40 | exact fmA41 | exact fmA42)); (case hI => (first | with_reducible rfl | with_reducible exact litn _ | (simp (disch := omega) only [leL, leR, ltL, ltR, eqR, eqL, mulL, addR, subR, clL, inL, nI_add, pk_mul, pk_sub, inb_nI, nI_clamp, nI_leI, nI_ltI, nI_eq, nI_1, divR, remR, shl1, h1, h3i, rI_s, rJ_s, rI_n, rJ_n, rI_wJ, rJ_wI]; with_reducible rfl))); (case hB => (omega)); (case hV => (first | (simp (disch := omega) only [leL, leR, ltL, ltR, eqR, eqL, mulL, addR, subR, clL, inL, nI_add, pk_mul, pk_sub, inb_nI, nI_clamp, nI_leI, nI_ltI, nI_eq, nI_1, divR, remR, shl1, h1, h3i, rI_s, rJ_s, rI_n, rJ_n, rI_wJ, rJ_wI]; with_reducible rfl) | with_reducible rfl))) | ((with_reducible refine e_alJV (j := ?_) (n := ?_) (v := ?_) ?hA ?hI ?hB ?hV ?_); (case hA => (with_reducible first | assumption | exact fmA0 | exact fmA1 | exact fmA2 | exact fmA3 | exact fmA4 | exact fmA6 | exact fmA8 | exact fmA9 | exact fmA10 | exact fmA11 | exact fmA12 | exact fmA14 | exact fmA17 | exact fmA18 | exact fmA19 | exact fmA20 | exact fmA21 | exact fmA22 | exact fmA26 | exact fmA27 | exact fmA28 | exact fmA31 | exact fmA32 | exact fmA33 | exact fmA34 | exact fmA36 | exact fmA38 | exact fmA39 | exact fmA40 | exact fmA41 | exact fmA42)); (case hI => (first | with_reducible rfl | with_reducible exact litn _ | (simp (disch := omega) only [leL, leR, ltL, ltR, eqR, eqL, mulL, addR, subR, clL, inL, nI_add, pk_mul, pk_sub, inb_nI, nI_clamp, nI_leI, nI_ltI, nI_eq, nI_1, divR, remR, shl1, h1, h3i, rI_s, rJ_s, rI_n, rJ_n, rI_wJ, rJ_wI]; with_reducible rfl))); (case hB => (omega)); (case hV => (first | (simp (disch := omega) only [leL, leR, ltL, ltR, eqR, eqL, mulL, addR, subR, clL, inL, nI_add, pk_mul, pk_sub, inb_nI, nI_clamp, nI_leI, nI_ltI, nI_eq, nI_1, divR, remR, shl1, h1, h3i, rI_s, rJ_s, rI_n, rJ_n, rI_wJ, rJ_wI]; with_reducible rfl) | with_reducible rfl))) | ((with_reducible refine e_alZV (j := ?_) (n := ?_) (v := ?_) ?hA ?hI ?hB ?hV ?_); (case hA => (with_reducible first | assumption | exact fmA0 | exact fmA1 | exact fmA2 | exact fmA3 | exact fmA4 | exact fmA6 | exact fmA8 | exact fmA9 | exact fmA10 | exact fmA11 | exact fmA12 | exact fmA14 | exact fmA17 | exact fmA18 | exact fmA19 | exact fmA20 | exact fmA21 | exact fmA22 | exact fmA26 | exact fmA27 | exact fmA28 | exact fmA31 | exact fmA32 | exact fmA33 | exact fmA34 | exact fmA36 | exact fmA38 | exact fmA39 | exact fmA40 | exact fmA41 | exact fmA42)); (case hI => (first | with_reducible rfl | with_reducible exact litn _ | (simp (disch := omega) only [leL, leR, ltL, ltR, eqR, eqL, mulL, addR, subR, clL, inL, nI_add, pk_mul, pk_sub, inb_nI, nI_clamp, nI_leI, nI_ltI, nI_eq, nI_1, divR, remR, shl1, h1, h3i, rI_s, rJ_s, rI_n, rJ_n, rI_wJ, rJ_wI]; with_reducible rfl))); (case hB => (omega)); (case hV => (first | (simp (disch := omega) only [leL, leR, ltL, ltR, eqR, eqL, mulL, addR, subR, clL, inL, nI_add, pk_mul, pk_sub, inb_nI, nI_clamp, nI_leI, nI_ltI, nI_eq, nI_1, divR, remR, shl1, h1, h3i, rI_s, rJ_s, rI_n, rJ_n, rI_wJ, rJ_wI]; with_reducible rfl) | with_reducible rfl))) | ((with_reducible refine e_asIV (j := ?_) (n := ?_) (v2 := ?_) ?hA ?hI ?hB ?hV ?_); (case hA => (with_reducible first | assumption | exact fmA0 | exact fmA1 | exact fmA2 | exact fmA3 | exact fmA4 | exact fmA6 | exact fmA8 | exact fmA9 | exact fmA10 | exact fmA11 | exact fmA12 | exact fmA14 | exact fmA17 | exact fmA18 | exact fmA19 | exact fmA20 | exact fmA21 | exact fmA22 | exact fmA26 | exact fmA27 | exact fmA28 | exact fmA31 | exact fmA32 | exact fmA33 | exact fmA34 | exact fmA36 | exact fmA38 | exact fmA39 | exact fmA40 | exact fmA41 | exact fmA42)); (case hI => (first | with_reducible rfl | with_reducible exact litn _ | (simp (disch := omega) only [leL, leR, ltL, ltR, eqR, eqL, mulL, addR, subR, clL, inL, nI_add, pk_mul, pk_sub, inb_nI, nI_clamp, nI_leI, nI_ltI, nI_eq, nI_1, divR, remR, shl1, h1, h3i, rI_s, rJ_s, rI_n, rJ_n, rI_wJ, rJ_wI]; with_reducible rfl))); (case hB => (omega)); (case hV => (first | (simp (disch := omega) only [leL, leR, ltL, ltR, eqR, eqL, mulL, addR, subR, clL, inL, nI_add, pk_mul, pk_sub, inb_nI, nI_clamp, nI_leI, nI_ltI, nI_eq, nI_1, divR, remR, shl1, h1, h3i, rI_s, rJ_s, rI_n, rJ_n, rI_wJ, rJ_wI]; with_reducible rfl) | with_reducible rfl))) | ((with_reducible refine e_asJV (j := ?_) (n := ?_) (v2 := ?_) ?hA ?hI ?hB ?hV ?_); (case hA => (with_reducible first | assumption | exact fmA0 | exact fmA1 | exact fmA2 | exact fmA3 | exact fmA4 | exact fmA6 | exact fmA8 | exact fmA9 | exact fmA10 | exact fmA11 | exact fmA12 | exact fmA14 | exact fmA17 | exact fmA18 | exact fmA19 | exact fmA20 | exact fmA21 | exact fmA22 | exact fmA26 | exact fmA27 | exact fmA28 | exact fmA31 | exact fmA32 | exact fmA33 | exact fmA34 | exact fmA36 | exact fmA38 | exact fmA39 | exact fmA40 | exact fmA41 | exact fmA42)); (case hI => (first | with_reducible rfl | with_reducible exact litn _ | (simp (disch := omega) only [leL, leR, ltL, ltR, eqR, eqL, mulL, addR, subR, clL, inL, nI_add, pk_mul, pk_sub, inb_nI, nI_clamp, nI_leI, nI_ltI, nI_eq, nI_1, divR, remR, shl1, h1, h3i, rI_s, rJ_s, rI_n, rJ_n, rI_wJ, rJ_wI]; with_reducible rfl))); (case hB => (omega)); (case hV => (first | (simp (disch := omega) only [leL, leR, ltL, ltR, eqR, eqL, mulL, addR, subR, clL, inL, nI_add, pk_mul, pk_sub, inb_nI, nI_clamp, nI_leI, nI_ltI, nI_eq, nI_1, divR, remR, shl1, h1, h3i, rI_s, rJ_s, rI_n, rJ_n, rI_wJ, rJ_wI]; with_reducible rfl) | with_reducible rfl))) | ((with_reducible refine e_asZ (j := ?_) (n := ?_) ?hA ?hI ?hB ?hZ ?_); (case hA => (with_reducible first | assumption | exact fmA0 | exact fmA1 | exact fmA2 | exact fmA3 | exact fmA4 | exact fmA6 | exact fmA8 | exact fmA9 | exact fmA10 | exact fmA11 | exact fmA12 | exact fmA14 | exact fmA17 | exact fmA18 | exact fmA19 | exact fmA20 | exact fmA21 | exact fmA22 | exact fmA26 | exact fmA27 | exact fmA28 | exact fmA31 | exact fmA32 | exact fmA33 | exact fmA34 | exact fmA36 | exact fmA38 | exact fmA39 | exact fmA40 | exact fmA41 | exact fmA42)); (case hI => (first | with_reducible rfl | with_reducible exact litn _ | (simp (disch := omega) only [leL, leR, ltL, ltR, eqR, eqL, mulL, addR, subR, clL, inL, nI_add, pk_mul, pk_sub, inb_nI, nI_clamp, nI_leI, nI_ltI, nI_eq, nI_1, divR, remR, shl1, h1, h3i, rI_s, rJ_s, rI_n, rJ_n, rI_wJ, rJ_wI]; with_reducible rfl))); (case hB => (omega)); (case hZ => (first | exact Or.inl rfl | exact Or.inr rfl | exact b2_01 _ | assumption))) | ((with_reducible refine e_nzI ?hZ ?_); (case hZ => (first | decide | assumption))) | ((with_reducible refine e_nzJ ?hZ ?_); (case hZ => (first | decide | assumption))) | ((with_reducible refine e_t ?hC ?_); (case hC => (first | assumption | decide | (simp (disch := omega) only [leL, leR, ltL, ltR, eqR, eqL, mulL, addR, subR, clL, inL, nI_add, pk_mul, pk_sub, inb_nI, nI_clamp, nI_leI, nI_ltI, nI_eq, nI_1, divR, remR, shl1, h1, h3i, rI_s, rJ_s, rI_n, rJ_n, rI_wJ, rJ_wI, b2_0, b2_1, lg_cmp_ge, lg_cmp_le, lg_cmp_gt, lg_cmp_lt, lg_cmp_eq]; first | done | omega) | omega))) | ((with_reducible refine e_f ?hC ?_); (case hC => (first | assumption | decide | (simp (disch := omega) only [leL, leR, ltL, ltR, eqR, eqL, mulL, addR, subR, clL, inL, nI_add, pk_mul, pk_sub, inb_nI, nI_clamp, nI_leI, nI_ltI, nI_eq, nI_1, divR, remR, shl1, h1, h3i, rI_s, rJ_s, rI_n, rJ_n, rI_wJ, rJ_wI, b2_0, b2_1, lg_cmp_ge, lg_cmp_le, lg_cmp_gt, lg_cmp_lt, lg_cmp_eq]; first | done | omega) | omega))))
    exact g1
theorem m_lookInHand {nn : Nat} {r : Nat → Nat} (hN : 100 ≤ N) (hh : HandM m nn r) : ∃ m', F_X9_lookInHand N 322 (S m) = some ((), S m') ∧ Fr lkP m m' ∧ LookIs m' nn r := by
  obtain ⟨h1, h2, h3⟩ := id hh
  obtain ⟨m', g1, g2, g3⟩ := m_lookInHand_l (N := N) nn 0 N (wI m 322 7 (nI nn)) (by omega) (by omega) (r := r) ⟨h1, h2, h3⟩ (by rw [rI_s]) (fun j hj => absurd hj (Nat.not_lt_zero _))
  refine ⟨m', ?_, (Fr.rf.sI (Or.inr ⟨rfl, rfl⟩)).tr (g2.mo (fun b j h => Or.inl h)), g3⟩
  unfold F_X9_lookInHand
  refine e_rcv fmO ?_
  refine e_ldIV fmO h1 ?_
  refine e_stI fmO ?_
  exact g1
abbrev lstep (code i : Nat) : Nat → Nat → Nat := fun j x => if i ≠ j ∧ bt code (bx i j) = 1 then x ||| 2 ^ j else x
theorem lstep_lt {code i j x : Nat} (hj : j < 4) (hx : x < 16) : lstep code i j x < 16 := by
  unfold lstep
  split
  · exact Nat.or_lt_two_pow (n := 4) hx (Nat.pow_lt_pow_right (by decide) hj)
  · exact hx
theorem bx4 : ∀ i, i < 4 → ∀ j, j < 4 → bx i j < 16 := by decide
theorem m_look_j {size code i : Nat} {K : Nat → Int32 → Int32 → Int32 → vS → Option (Unit × vS)} (hs : size ≤ 4) (hc : code < 64) (hi : i < size) : ∀ (d j n x : Nat) (m : vM), j + d = size → d < n → x < 16 → rI m 329 i = nI x →
    ∃ m', H_X9_lookInto_22 N K n 322 (nI size) (nI code) (nI i) (nI j) (S m) = K 322 (nI size) (nI code) (nI (i + 1)) (S m') ∧ rI m' 329 i = nI (fld (lstep code i) d j x) ∧ Fr (fun b k => b = 329 ∧ k = i) m m'
  | _, _, 0, _, _, _, h, _, _ => by omega
  | 0, j, n + 1, x, m, hj, _, _, hx => by
    refine ⟨m, ?_, hx, Fr.rf⟩
    unfold H_X9_lookInto_22
    refine e_t (by rw [show j = size by omega]; exact Int32.le_refl _) ?_
    refine e_nm ?_
    rw [addR]
  | d + 1, j, n + 1, x, m, hj, hd, hx, hm => by
    have hb := bx4 i (by omega) j (by omega)
    have hp : (2 : Nat) ^ j < 2 ^ 4 := Nat.pow_lt_pow_right (by decide) (by omega)
    have hbt := bt_lt code (bx i j)
    obtain ⟨m', g1, g2, g3⟩ := m_look_j (K := K) hs hc hi d (j + 1) n (lstep code i j x) (wI m 329 i (nI (lstep code i j x))) (by omega) (by omega) (lstep_lt (by omega) hx) (by rw [rI_s])
    refine ⟨m', ?_, g2, g3.pI ⟨rfl, rfl⟩⟩
    have fin : ∀ y, y < 16 → x ||| y = lstep code i j x → J_X9_lookInto_63 N K (H_X9_lookInto_22 N K n) 322 (nI size) (nI code) (nI i) (nI j) 329 (nI i) (nI x) (nI y) (S m) = K 322 (nI size) (nI code) (nI (i + 1)) (S m') := by
      intro y hy e
      unfold J_X9_lookInto_63
      rw [nI_or (by omega) (by omega), e]
      refine e_asI fmA8 rfl (by omega) ?_
      refine e_nm ?_
      rw [addR]
      exact g1
    have fin0 : x = lstep code i j x → J_X9_lookInto_62 N K (H_X9_lookInto_22 N K n) 322 (nI size) (nI code) (nI i) (nI j) 329 (nI i) (nI x) (S m) = K 322 (nI size) (nI code) (nI (i + 1)) (S m') := by
      intro e
      unfold J_X9_lookInto_62
      exact fin 0 (by omega) (by rw [Nat.or_zero]; exact e)
    unfold H_X9_lookInto_22
    refine e_f (by simp (disch := omega) only [leL, leR, ltL, ltR, eqR, mulL, addR, clL, inL, nI_add, pk_mul, inb_nI, nI_clamp, nI_leI, nI_ltI, nI_eq, nI_1]; omega) ?_
    refine e_ldR fmO fmR8 ?_
    refine e_alIV fmA8 rfl (by omega) hm ?_
    by_cases z : i = j
    · refine e_t (by rw [z]) ?_
      exact fin0 (by unfold lstep; rw [if_neg (fun h => h.1 z)])
    · refine e_f (by rw [nI_eq (by omega) (by omega)]; exact z) ?_
      refine e_bnd (m_bit (by omega) (by omega)) ?_
      rw [shr_and (by omega) (by omega)]
      by_cases y : bt code (bx i j) = 1
      · refine e_t (by rw [y]; rfl) ?_
        rw [shl1 j (by omega)]
        exact fin (2 ^ j) (by omega) (by unfold lstep; rw [if_pos ⟨z, y⟩])
      · refine e_f (by rw [show bt code (bx i j) = 0 by omega]; decide) ?_
        exact fin0 (by unfold lstep; rw [if_neg (fun h => y h.2)])
theorem rowOf_lt {size code i : Nat} : rowOf size code i < 2 ^ size := by
  have := fld_inv (g := lstep code i) (fun j x => x < 2 ^ j) size 0 0 (by decide) (fun j x _ _ h => by
    unfold lstep
    have h2 : (2 : Nat) ^ (j + 1) = 2 ^ j * 2 := Nat.pow_succ 2 j
    split
    · exact Nat.or_lt_two_pow (by omega) (Nat.pow_lt_pow_right (by decide) (Nat.lt_succ_self j))
    · omega)
  rw [Nat.zero_add] at this
  exact this
theorem m_look_i {size code : Nat} (hN : 100 ≤ N) (hs : size ≤ 4) (hc : code < 64) : ∀ (d i n : Nat) (m : vM), i + d = size → d < n → rI m 322 7 = nI size → (∀ k, k < i → rI m 329 k = nI (rowOf size code k)) →
    ∃ m', H_X9_lookInto_7 N n 322 (nI size) (nI code) (nI i) (S m) = some ((), S m') ∧ Fr (fun b _ => b = 329) m m' ∧ LookIs m' size (rowOf size code)
  | _, _, 0, _, _, h, _, _ => by omega
  | 0, i, n + 1, m, hi, _, h7, hl => by
    refine ⟨m, ?_, Fr.rf, h7, by omega, fun k hk => ⟨hl k (by omega), rowOf_lt⟩⟩
    unfold H_X9_lookInto_7
    exact e_t (by rw [show i = size by omega]; exact Int32.le_refl _) rfl
  | d + 1, i, n + 1, m, hi, hd, h7, hl => by
    obtain ⟨m1, g1, g2, g3⟩ := m_look_j (N := N) (K := H_X9_lookInto_7 N n) hs hc (show i < size by omega) size 0 N 0 (wI m 329 i 0) (by omega) (by omega) (by omega) (by rw [rI_s]; rfl)
    obtain ⟨m', j1, j2, j3⟩ := m_look_i hN hs hc d (i + 1) n m1 (by omega) (by omega) (by rw [g3.i (by omega)]; exact h7) (fun k hk => by
      by_cases e : k = i
      · rw [e, g2]; rfl
      · rw [g3.i (by omega), rI_n _ _ (by omega)]; exact hl k (by omega))
    refine ⟨m', ?_, ((g3.mo (fun b k h => h.1) : Fr (fun b _ => b = 329) _ _).pI rfl).tr j2, j3⟩
    unfold H_X9_lookInto_7
    refine e_f (by simp (disch := omega) only [leL, leR, ltL, ltR, eqR, mulL, addR, clL, inL, nI_add, pk_mul, inb_nI, nI_clamp, nI_leI, nI_ltI, nI_eq, nI_1]; omega) ?_
    refine e_ldR fmO fmR8 ?_
    refine e_asI fmA8 rfl (by omega) ?_
    refine Eq.trans g1 ?_
    exact j1
theorem m_lookInto {size code : Nat} (hN : 100 ≤ N) (hs : size ≤ 4) (hc : code < 64) : ∃ m', F_X9_lookInto N 322 (nI size) (nI code) (S m) = some ((), S m') ∧ Fr lkP m m' ∧ LookIs m' size (rowOf size code) := by
  obtain ⟨m', g1, g2, g3⟩ := m_look_i (N := N) hN hs hc size 0 N (wI m 322 7 (nI size)) (by omega) (by omega) (by rw [rI_s]) (fun k hk => absurd hk (Nat.not_lt_zero _))
  refine ⟨m', ?_, (Fr.rf.sI (Or.inr ⟨rfl, rfl⟩)).tr (g2.mo (fun b j h => Or.inl h)), g3⟩
  unfold F_X9_lookInto
  refine e_rcv fmO ?_
  refine e_stI fmO ?_
  exact g1
theorem symT : ∀ q k, k < mny q → ∀ i, i < sz_ q k → ∀ j, j < sz_ q k → bt (rowT q k i) j = bt (rowT q k j) i := by decide +kernel
theorem symT' {q : Bool} {k : Nat} (h : k < mny q) : Sym (sz_ q k) (rowT q k) := fun i j hi hj => symT q k h i hi j hj
end LOOK
section INSIDE
variable {N : Nat} {m : vM} {s : vS}
theorem lN_0 : lN 0 = 0 := rfl
def isP (b j : Nat) : Prop := b = 340 ∨ (b = 322 ∧ (j = 23 ∨ j = 24))
theorem isP_tab {b j : Nat} (h : tabP b j) : ¬ isP b j := by
  unfold tabP at h
  unfold isP
  omega
theorem m_insideOf_l {q : Bool} {nn size k : Nat} {r : Nat → Nat} {root : Option Nat} (hN : 100 ≤ N) (hy : Sym nn r) (hq : q = root.isSome) (hr : ∀ x, root = some x → x < nn) (hs1 : sh_ q ≤ size) (hs2 : size ≤ 4) (hk : k < mny q) (hall : 0 < alls nn root size) : ∀ (d e n : Nat) (m : vM), e + d = 2 ^ nn → d < n → Tab m → LookIs m nn r →
    ∃ m', H_X9_insideOf_9 N n 322 (nI k) (nI size) (rt root) (lN (tl (fN q nn r root size) k e)) (lN (cnt (fun set => pop set = size ∧ rootIn set root = true) e)) (nI e) (S m) = some ((), S (wA m' (red (lN (tl (fN q nn r root size) k (2 ^ nn))) (lN (alls nn root size))))) ∧ Fr (fun b _ => b = 340) m m'
  | _, _, 0, _, _, h, _, _ => by omega
  | 0, e, n + 1, m, he, _, hT, hn => by
    obtain ⟨h1, h2, h3⟩ := hn
    have h8 : (2 : Nat) ^ nn ≤ 2 ^ 8 := Nat.pow_le_pow_right (by decide) h2
    have he : e = 2 ^ nn := by omega
    have hle := cnt_le (fun set => pop set = size ∧ rootIn set root = true) (2 ^ nn)
    refine ⟨m, ?_, Fr.rf⟩
    unfold H_X9_insideOf_9
    refine e_ldIV fmO h1 ?_
    refine e_t (by rw [shl1 _ (by omega), nI_leI (by omega) (by omega)]; omega) ?_
    rw [he]
    refine e_bnd (m_lay hN (lN_pos hall (Nat.lt_of_le_of_lt hle (by omega)))) ?_
    rfl
  | d + 1, e, n + 1, m, he, hd, hT, hn => by
    obtain ⟨h1, h2, h3⟩ := id hn
    have h8 : (2 : Nat) ^ nn ≤ 2 ^ 8 := Nat.pow_le_pow_right (by decide) h2
    have hpe := pop_le e
    have hr8 : ∀ x, root = some x → x < 8 := fun x hx => by have := hr x hx; omega
    have hse := sh_lt q
    have hm := adr q
    have ih := fun m1 (f1 : Fr (fun b _ => b = 340) m m1) => m_insideOf_l (q := q) (k := k) hN hy hq hr hs1 hs2 hk hall d (e + 1) n m1 (by omega) (by omega) (hT.fr (fun b j hb => f1 b j (fun (z : b = 340) => isP_tab hb (Or.inl z)))) ⟨by rw [f1.i (by omega)]; exact h1, h2, fun i hi => by rw [f1.i (by omega)]; exact h3 i hi⟩
    have start : ∀ R, (if nI (pop e) = nI size then (if rt root < 0 then J_X9_insideOf_43 N (H_X9_insideOf_9 N n) 322 (nI k) (nI size) (rt root) (lN (tl (fN q nn r root size) k e)) (lN (cnt (fun set => pop set = size ∧ rootIn set root = true) e)) (nI e) (S m) else (if ((nI e >>> (rt root &&& 31)) &&& 1) = 1 then J_X9_insideOf_43 N (H_X9_insideOf_9 N n) 322 (nI k) (nI size) (rt root) (lN (tl (fN q nn r root size) k e)) (lN (cnt (fun set => pop set = size ∧ rootIn set root = true) e)) (nI e) (S m) else J_X9_insideOf_70 N (H_X9_insideOf_9 N n) 322 (nI k) (nI size) (rt root) (lN (tl (fN q nn r root size) k e)) (lN (cnt (fun set => pop set = size ∧ rootIn set root = true) e)) (nI e) (S m))) else J_X9_insideOf_70 N (H_X9_insideOf_9 N n) 322 (nI k) (nI size) (rt root) (lN (tl (fN q nn r root size) k e)) (lN (cnt (fun set => pop set = size ∧ rootIn set root = true) e)) (nI e) (S m)) = R → H_X9_insideOf_9 N (n + 1) 322 (nI k) (nI size) (rt root) (lN (tl (fN q nn r root size) k e)) (lN (cnt (fun set => pop set = size ∧ rootIn set root = true) e)) (nI e) (S m) = R := by
      intro R hR
      unfold H_X9_insideOf_9
      refine e_ldIV fmO h1 ?_
      refine e_f (by rw [shl1 _ (by omega), nI_leI (by omega) (by omega)]; omega) ?_
      refine e_bnd (m_ones (by omega) hN) ?_
      exact hR
    by_cases hz : pop e = size ∧ rootIn e root = true
    · have hf : fN q nn r root size e = some (nOn q nn r e root) := by unfold fN; rw [if_pos hz]
      have hfl := fN_lt hs1 hs2 hf
      obtain ⟨m1, g1, g2⟩ := m_numberOn (N := N) (m := m) (q := q) hN hT hn hy (show e < 2 ^ nn by omega) hq hr ⟨by omega, by omega, hz.2⟩
      obtain ⟨m', j1, j2⟩ := ih m1 g2
      have hc : cnt (fun set => pop set = size ∧ rootIn set root = true) (e + 1) = cnt (fun set => pop set = size ∧ rootIn set root = true) e + 1 := by rw [cnt, if_pos hz]
      refine ⟨m', start _ ?_, g2.tr j2⟩
      have core : J_X9_insideOf_43 N (H_X9_insideOf_9 N n) 322 (nI k) (nI size) (rt root) (lN (tl (fN q nn r root size) k e)) (lN (cnt (fun set => pop set = size ∧ rootIn set root = true) e)) (nI e) (S m) = some ((), S (wA m' (red (lN (tl (fN q nn r root size) k (2 ^ nn))) (lN (alls nn root size))))) := by
        unfold J_X9_insideOf_43
        refine e_nm ?_
        rw [lN_1, ← hc]
        refine e_bnd g1 ?_
        by_cases w : nOn q nn r e root = k
        · refine e_t (by rw [w]) ?_
          rw [tl_s (by rw [hf, w])] at j1
          unfold J_X9_insideOf_67
          refine e_nm ?_
          rw [lN_1]
          unfold J_X9_insideOf_70
          refine e_nm ?_
          rw [addR]
          exact j1
        · refine e_f (by rw [nI_eq (by omega) (by omega)]; exact w) ?_
          rw [tl_n (by rw [hf]; intro v; cases v; exact w rfl)] at j1
          unfold J_X9_insideOf_67
          refine e_nm ?_
          rw [Int64.add_zero]
          unfold J_X9_insideOf_70
          refine e_nm ?_
          rw [addR]
          exact j1
      refine e_t (by rw [hz.1]) ?_
      cases root with
      | none => exact e_t (by show (-1 : Int32) < 0; decide) core
      | some x =>
        have hx := hr8 x rfl
        refine e_f (nI_pos (by omega)) ?_
        refine e_t ?_ core
        show (nI e >>> (nI x &&& 31)) &&& 1 = 1
        rw [shr_and (by omega) (by omega), show bt e x = 1 from eq_of_beq hz.2]
        rfl
    · have hf : fN q nn r root size e = none := by unfold fN; rw [if_neg hz]
      obtain ⟨m', j1, j2⟩ := ih m Fr.rf
      have hc : cnt (fun set => pop set = size ∧ rootIn set root = true) (e + 1) = cnt (fun set => pop set = size ∧ rootIn set root = true) e := by rw [cnt, if_neg hz]; rfl
      rw [tl_n (by rw [hf]; simp), hc] at j1
      refine ⟨m', start _ ?_, j2⟩
      have core : J_X9_insideOf_70 N (H_X9_insideOf_9 N n) 322 (nI k) (nI size) (rt root) (lN (tl (fN q nn r root size) k e)) (lN (cnt (fun set => pop set = size ∧ rootIn set root = true) e)) (nI e) (S m) = some ((), S (wA m' (red (lN (tl (fN q nn r root size) k (2 ^ nn))) (lN (alls nn root size))))) := by
        unfold J_X9_insideOf_70
        refine e_nm ?_
        rw [addR]
        exact j1
      by_cases hp : pop e = size
      · refine e_t (by rw [hp]) ?_
        cases root with
        | none => exact absurd ⟨hp, rfl⟩ hz
        | some x =>
          have hx := hr8 x rfl
          refine e_f (nI_pos (by omega)) ?_
          refine e_f ?_ core
          show ¬ (nI e >>> (nI x &&& 31)) &&& 1 = 1
          have hb := bt_lt e x
          rw [shr_and (by omega) (by omega)]
          intro h
          have : bt e x = 1 := (eqR (n := 1) (by decide) (by omega)).mp h
          exact hz ⟨hp, by show (bt e x == 1) = true; rw [this]; rfl⟩
      · refine e_f (by rw [nI_eq (by omega) (by omega)]; exact hp) ?_
        exact core
theorem m_insideOf {q : Bool} {nn size k : Nat} {r : Nat → Nat} {root : Option Nat} (hN : 1000 ≤ N) (hT : Tab m) (hn : LookIs m nn r) (hy : Sym nn r) (hq : q = root.isSome) (hr : ∀ x, root = some x → x < nn) (hs1 : sh_ q ≤ size) (hs2 : size ≤ 4) (hs3 : size ≤ nn) (hk : k < mny q) :
    ∃ m', F_X9_insideOf N 322 (nI k) (nI size) (rt root) (S m) = some ((), S (wA m' (shr_ q nn r root size k))) ∧ Fr (fun b _ => b = 340) m m' := by
  obtain ⟨h1, h2, h3⟩ := id hn
  have h8 : (2 : Nat) ^ nn ≤ 2 ^ 8 := Nat.pow_le_pow_right (by decide) h2
  obtain ⟨m', g1, g2⟩ := m_insideOf_l (N := N) (q := q) (k := k) (by omega) hy hq hr hs1 hs2 hk (alls_wyc h2 hs1 hs2 hs3 hq hr).2 (2 ^ nn) 0 N m (by omega) (by omega) hT hn
  refine ⟨m', ?_, g2⟩
  unfold F_X9_insideOf
  refine e_rcv fmO ?_
  exact g1
end INSIDE
