/-! calls: stores told, emptied, moved; the tape; counts -/
section CALLS5
variable {N : Nat} {m m' : vM} {s : vS}
theorem npr_of {a j : Nat} {Q : Prop} (h : ¬ prP a j) : ¬ prP a j ∨ Q := Or.inl h
theorem call_clear (hN : 100 ≤ N) (hR : Rel m) (x : Int32) : SameI (F_X8_clear N 0 x) (F_X9_clear N 322 x) m := by
  rcases rng x (n := 4) (by decide) with ⟨st, hs, rfl⟩ | hx
  · have hst := hR.2.2.1 st hs
    have sa := sumS hs
    obtain ⟨m1, d1, d2, d3, d4⟩ := c_drop (N := N) (m := m) (st := st) hN hs
    have fin : ∀ v, F_X6_terms N (292 + 3 * st) (S m) = some (v, S m) → F_X9_termsIn N 322 (nI st) (S m1) = some (v, S m1) → SameI (F_X8_clear N 0 (nI st)) (F_X9_clear N 322 (nI st)) m := by
      intro v h1 h2
      refine ⟨v, m1, wI m1 330 st 0, ?_, ?_, ?_⟩
      · unfold F_X8_clear
        refine e_rcv fxO ?_
        refine g_y (c_isStore _) (inr hs (by decide)) ?_
        refine e_ldR fxO fxR8 ?_
        refine e_ldR fsO fsR1 ?_
        refine e_alR shA (by decide) rfl (by omega) (shR st hs) ?_
        refine e_bnd h1 ?_
        refine e_ldR fxO fxR8 ?_
        exact e_bnd d1 rfl
      · unfold F_X9_clear
        refine e_rcv fmO ?_
        refine g_y (m_isStoreR _) (inr hs (by decide)) ?_
        refine e_bnd h2 ?_
        refine e_ldR fmO fmR9 ?_
        exact e_asZ fmA9 rfl (by omega) (Or.inl rfl) rfl
      · refine hR.store hs (((d2.mo (fun a j w => Or.inr (by omega))).tr (Fr.rf.sI (Or.inr (by omega))))) (Or.inl ⟨?_, rI_s _ _ _ _, ?_⟩)
        · rw [rI_n _ _ (by omega)]; exact d3
        · exact d4.same (fun b j hb => ⟨rI_n _ _ (by omega), rfl⟩)
    rcases hst with ⟨h1, h2, h3⟩ | ⟨k, o, h⟩
    · refine fin _ (c_ntR sa hN h3.2) ?_
      unfold F_X9_termsIn
      refine e_rcv fmO ?_
      refine e_ldR fmO fmR9 ?_
      refine e_alZV fmA9 rfl (by omega) (show rI m1 330 st = 0 by rw [d2.i (by omega)]; exact h2) ?_
      refine e_t rfl ?_
      have : nt row0 = 0 := nt_emp.mpr row0_emp
      rw [this]
      rfl
    · refine fin _ (c_ntR sa hN h.2.2.2.1.2) ?_
      unfold F_X9_termsIn
      refine e_rcv fmO ?_
      refine e_ldR fmO fmR9 ?_
      refine e_alZV fmA9 rfl (by omega) (show rI m1 330 st = 1 by rw [d2.i (by omega)]; exact h.2.1) ?_
      refine e_f (by decide) ?_
      refine e_bnd (m_ntR (by omega) hN (o := o) (fun j hj => ?_)) rfl
      rw [← h.rowM j hj]
      show (rJ m1 332 _, rJ m1 333 _) = (rJ m 332 _, rJ m 333 _)
      rw [d2.j (by omega), d2.j (by omega)]
  · refine SameI.ro (-1) hR ?_ ?_
    · unfold F_X8_clear
      refine e_rcv fxO ?_
      exact g_n (c_isStore _) hx rfl
    · unfold F_X9_clear
      refine e_rcv fmO ?_
      exact g_n (m_isStoreR _) hx rfl
theorem gvw : ∀ g, g < 7 → 0 < g → gv g = gw g := by decide +kernel
theorem nt_gr {q : Bool} {o : Row} (io : In q o) : nt o = 0 ↔ gr q o = 0 := by
  rw [nt_emp]
  constructor
  · intro h
    refine Classical.byContradiction (fun w => ?_)
    obtain ⟨k, k1, k2, -⟩ := gr_at (q := q) (o := o) (by omega)
    exact k2 (h k (by have := adr q; omega))
  · intro h j hj
    refine Classical.byContradiction (fun w => ?_)
    have := gr_ge (io j hj w) w
    omega
theorem kqx {k : Nat} : ∃ q : Bool, (q = true ↔ k = 1) := ⟨decide (k = 1), decide_eq_true_iff⟩
theorem call_sum (hN : 100 ≤ N) (hR : Rel m) (x y : Int32) : SameI (F_X8_sum N 0 x y) (F_X9_sum N 322 x y) m := by
  have hT := hR.1
  rcases rng x (n := 4) (by decide) with ⟨st, hs, rfl⟩ | hx
  · rcases rng y (n := 3) (by decide) with ⟨w, hw, rfl⟩ | hy
    · have hst := hR.2.2.1 st hs
      have sa := sumS hs
      have startC : ∀ v R, rI m 290 st = v → (if v = 0 then some (-3, S m) else (ldR (S m) 0 8 8 (fun r5 => ldR (S m) r5 5 1 (fun r6 => alR (S m) r6 5 (nI st) (fun r7 => if nI w = 0 then (bnd (F_X6_terms N r7 (S m)) (fun v13 s => some (v13, s))) else (if nI w = 1 then (ldI (S m) r7 6 0 (fun v12 => if v12 = 2 then (J_X8_sum_70 N 1 (S m)) else (J_X8_sum_70 N 0 (S m)))) else (bnd (F_X6_terms N r7 (S m)) (fun v8 s => if v8 = 0 then (J_X8_sum_95 N (-5) s) else (ldR s 0 8 2 (fun r9 => ldI s r7 6 0 (fun v10 => bnd (F_X0_greatestSize N r9 r7 v10 s) (fun v11 s => J_X8_sum_95 N v11 s))))))))))) ) = R → F_X8_sum N 0 (nI st) (nI w) (S m) = R := by
        intro v R hv h
        unfold F_X8_sum
        refine e_rcv fxO ?_
        refine g_y (c_isStore _) (inr hs (by decide)) ?_
        refine e_f (nI_pos (by omega)) ?_
        refine e_t (by rw [leR (by decide) (by omega)]; show w ≤ 2; omega) ?_
        refine e_ldR fxO fxR8 ?_
        refine e_ldR fsO fsR0 ?_
        refine e_alZV fsA0 rfl (by omega) hv ?_
        exact h
      have startM : ∀ v R, rI m 330 st = v → (if v = 0 then some (-3, S m) else (if nI w = 0 then (bnd (F_X9_terms N 322 (nI st) (S m)) (fun v8 s => J_X9_sum_63 N v8 s)) else (if nI w = 1 then (ldR (S m) 322 9 10 (fun r6 => alI (S m) r6 (nI st) (fun v7 => nzI 2 (J_X9_sum_63 N (v7 - v7 / 2 * 2) (S m))))) else (bnd (F_X9_greatest N 322 (nI st) (S m)) (fun v5 s => J_X9_sum_63 N v5 s))))) = R → F_X9_sum N 322 (nI st) (nI w) (S m) = R := by
        intro v R hv h
        unfold F_X9_sum
        refine e_rcv fmO ?_
        refine g_y (m_isStoreR _) (inr hs (by decide)) ?_
        refine g_y (m_inR (n := 2) _ (by decide)) (inr hw (by decide)) ?_
        refine e_ldR fmO fmR9 ?_
        refine e_alZV fmA9 rfl (by omega) hv ?_
        exact h
      rcases hst with ⟨h1, h2, h3⟩ | ⟨k, o, h⟩
      · exact SameI.ro (-3) hR (startC 0 _ h1 (by rw [if_pos rfl])) (startM 0 _ h2 (by rw [if_pos rfl]))
      · obtain ⟨h1, h2, h3, h4, h5, h6⟩ := id h
        have hk := h3.1
        obtain ⟨q, hq⟩ := kqx (k := k)
        have io := h3.inq (fun z => hq.mpr z)
        have kk := kcs k hk k hk
        have t1 := c_ntR (N := N) sa hN h4.2
        have t2 := m_ntR (N := N) (u := st) (by omega) hN h.rowM
        have toC : ∀ R, (ldR (S m) 0 8 8 (fun r5 => ldR (S m) r5 5 1 (fun r6 => alR (S m) r6 5 (nI st) (fun r7 => if nI w = 0 then (bnd (F_X6_terms N r7 (S m)) (fun v13 s => some (v13, s))) else (if nI w = 1 then (ldI (S m) r7 6 0 (fun v12 => if v12 = 2 then (J_X8_sum_70 N 1 (S m)) else (J_X8_sum_70 N 0 (S m)))) else (bnd (F_X6_terms N r7 (S m)) (fun v8 s => if v8 = 0 then (J_X8_sum_95 N (-5) s) else (ldR s 0 8 2 (fun r9 => ldI s r7 6 0 (fun v10 => bnd (F_X0_greatestSize N r9 r7 v10 s) (fun v11 s => J_X8_sum_95 N v11 s))))))))))) = R → F_X8_sum N 0 (nI st) (nI w) (S m) = R := fun R hR => startC 1 R h1 (by rw [if_neg (by decide)]; exact hR)
        have toM : ∀ R, (if nI w = 0 then (bnd (F_X9_terms N 322 (nI st) (S m)) (fun v8 s => J_X9_sum_63 N v8 s)) else (if nI w = 1 then (ldR (S m) 322 9 10 (fun r6 => alI (S m) r6 (nI st) (fun v7 => nzI 2 (J_X9_sum_63 N (v7 - v7 / 2 * 2) (S m))))) else (bnd (F_X9_greatest N 322 (nI st) (S m)) (fun v5 s => J_X9_sum_63 N v5 s)))) = R → F_X9_sum N 322 (nI st) (nI w) (S m) = R := fun R hR => startM 1 R h2 (by rw [if_neg (by decide)]; exact hR)
        rcases (show w = 0 ∨ w = 1 ∨ w = 2 by omega) with rfl | rfl | rfl
        · refine SameI.ro (nI (nt o)) hR (toC _ ?_) (toM _ ?_)
          · refine e_ldR fxO fxR8 ?_
            refine e_ldR fsO fsR1 ?_
            refine e_alR shA (by decide) rfl (by omega) (shR st hs) ?_
            refine e_t rfl ?_
            exact e_bnd t1 rfl
          · refine e_t rfl ?_
            exact e_bnd t2 rfl
        · refine SameI.ro (nI (k % 2)) hR (toC _ ?_) (toM _ ?_)
          · refine e_ldR fxO fxR8 ?_
            refine e_ldR fsO fsR1 ?_
            refine e_alR shA (by decide) rfl (by omega) (shR st hs) ?_
            refine e_f (by decide) ?_
            refine e_t rfl ?_
            refine e_ldIV sa.1 h4.1 ?_
            by_cases z : k = 1
            · refine e_t (kk.2.2.1.mpr z) ?_
              rw [z]
              rfl
            · refine e_f (fun y => z (kk.2.2.1.mp y)) ?_
              rw [show k % 2 = 0 by omega]
              rfl
          · refine e_f (by decide) ?_
            refine e_t rfl ?_
            refine e_ldR fmO fmR10 ?_
            refine e_alIV fmA10 rfl (by omega) h5 ?_
            refine e_nzI (by decide) ?_
            rw [remR (by omega) (by decide) (by decide)]
            rfl
        · refine SameI.ro (gw (gr q o)) hR (toC _ ?_) (toM _ ?_)
          · refine e_ldR fxO fxR8 ?_
            refine e_ldR fsO fsR1 ?_
            refine e_alR shA (by decide) rfl (by omega) (shR st hs) ?_
            refine e_f (by decide) ?_
            refine e_f (by decide) ?_
            refine e_bnd t1 ?_
            have hle := nt_le o
            by_cases z : nt o = 0
            · refine e_t (by rw [z]; rfl) ?_
              rw [(nt_gr io).mp z]
              rfl
            · refine e_f (by rw [eqR (by decide) (by omega)]; exact z) ?_
              refine e_ldR fxO fxR2 ?_
              refine e_ldIV sa.1 h4.1 ?_
              refine e_bnd (c_greatestSize hN (hq.trans kk.2.2.1.symm) sa hT h4.2) ?_
              have g5 := gr_5 (q := q) (o := o)
              have gp : gr q o ≠ 0 := fun y => z ((nt_gr io).mpr y)
              rw [gvw _ (by omega) (by omega)]
              rfl
          · refine e_f (by decide) ?_
            refine e_f (by decide) ?_
            exact e_bnd (m_greatest hN hq hk (by omega) io hT h.rowM h5) rfl
    · refine SameI.ro (-1) hR ?_ ?_
      · unfold F_X8_sum
        refine e_rcv fxO ?_
        refine g_y (c_isStore _) (inr hs (by decide)) ?_
        by_cases h0 : y < 0
        · exact e_t h0 rfl
        · refine e_f h0 ?_
          exact e_f (fun w => hy ((in_r y (n := 2) (by decide)).mp ⟨Int32.not_lt.mp h0, w⟩)) rfl
      · unfold F_X9_sum
        refine e_rcv fmO ?_
        refine g_y (m_isStoreR _) (inr hs (by decide)) ?_
        exact g_n (m_inR (n := 2) _ (by decide)) hy rfl
  · refine SameI.ro (-1) hR ?_ ?_
    · unfold F_X8_sum
      refine e_rcv fxO ?_
      exact g_n (c_isStore _) hx rfl
    · unfold F_X9_sum
      refine e_rcv fmO ?_
      exact g_n (m_isStoreR _) hx rfl
theorem c_nthR {a : Nat} {o : Row} (ha : SumAt a) (hN : 100 ≤ N) (h : RowC m a o) (x : Int32) : F_X6_numberOfTerm N a x (S m) = some (nth (fun k => (o k).1 ≠ 0) x 29 0 0, S m) := by
  rw [c_nth ha hN, nth_c (p := fun k => rJ m (a + 1) k ≠ 0) (q := fun k => (o k).1 ≠ 0) x 29 0 0 (fun k _ hk => by
    have e : rJ m (a + 1) k = (o k).1 := congrArg Prod.fst (h k (by omega))
    rw [e])]
theorem m_nthR {u : Nat} {o : Row} (hu : u < 16) (hN : 100 ≤ N) (h : RowM m u o) (x : Int32) : F_X9_termAt N 322 (nI u) x (S m) = some (nth (fun k => (o k).1 ≠ 0) x 29 0 0, S m) := by
  rw [m_nth hu hN, nth_c (p := fun k => rJ m 332 (29 * u + k) ≠ 0) (q := fun k => (o k).1 ≠ 0) x 29 0 0 (fun k _ hk => by
    have e : rJ m 332 (29 * u + k) = (o k).1 := congrArg Prod.fst (h k (by omega))
    rw [e])]
theorem nth_or (p : Nat → Prop) [DecidablePred p] (x : Int32) : ∀ (d i c : Nat), nth p x d i c = -1 ∨ ∃ k, i ≤ k ∧ k < i + d ∧ nth p x d i c = nI k
  | 0, _, _ => Or.inl rfl
  | d + 1, i, c => by
    rw [nth]
    by_cases h : p i
    · rw [if_pos h]
      by_cases g : nI c = x
      · rw [if_pos g]; exact Or.inr ⟨i, Nat.le_refl _, by omega, rfl⟩
      · rw [if_neg g]
        rcases nth_or p x d (i + 1) (c + 1) with h | ⟨k, h1, h2, h3⟩
        · exact Or.inl h
        · exact Or.inr ⟨k, by omega, by omega, h3⟩
    · rw [if_neg h]
      rcases nth_or p x d (i + 1) c with h | ⟨k, h1, h2, h3⟩
      · exact Or.inl h
      · exact Or.inr ⟨k, by omega, by omega, h3⟩
theorem call_term (hN : 100 ≤ N) (hR : Rel m) (x y : Int32) : SameI (F_X8_term N 0 x y) (F_X9_term N 322 x y) m := by
  rcases rng x (n := 4) (by decide) with ⟨st, hs, rfl⟩ | hx
  · by_cases hy : (0 : Int32) ≤ y
    · have sa := sumS hs
      rcases hR.2.2.1 st hs with ⟨h1, h2, h3⟩ | ⟨k, o, h⟩
      · refine SameI.ro (-3) hR ?_ ?_
        · unfold F_X8_term
          refine e_rcv fxO ?_
          refine g_y (c_isStore _) (inr hs (by decide)) ?_
          refine e_t hy ?_
          refine e_ldR fxO fxR8 ?_
          refine e_ldR fsO fsR0 ?_
          refine e_alZV fsA0 rfl (by omega) h1 ?_
          exact e_t rfl rfl
        · unfold F_X9_term
          refine e_rcv fmO ?_
          refine g_y (m_isStoreR _) (inr hs (by decide)) ?_
          refine e_t hy ?_
          refine e_ldR fmO fmR9 ?_
          refine e_alZV fmA9 rfl (by omega) h2 ?_
          exact e_t rfl rfl
      · refine SameI.ro (nth (fun k => (o k).1 ≠ 0) y 29 0 0) hR ?_ ?_
        · unfold F_X8_term
          refine e_rcv fxO ?_
          refine g_y (c_isStore _) (inr hs (by decide)) ?_
          refine e_t hy ?_
          refine e_ldR fxO fxR8 ?_
          refine e_ldR fsO fsR0 ?_
          refine e_alZV fsA0 rfl (by omega) h.1 ?_
          refine e_f (by decide) ?_
          refine e_ldR fxO fxR8 ?_
          refine e_ldR fsO fsR1 ?_
          refine e_alR shA (by decide) rfl (by omega) (shR st hs) ?_
          exact e_bnd (c_nthR sa hN h.2.2.2.1.2 _) rfl
        · unfold F_X9_term
          refine e_rcv fmO ?_
          refine g_y (m_isStoreR _) (inr hs (by decide)) ?_
          refine e_t hy ?_
          refine e_ldR fmO fmR9 ?_
          refine e_alZV fmA9 rfl (by omega) h.2.1 ?_
          refine e_f (by decide) ?_
          exact e_bnd (m_nthR (by omega) hN h.rowM _) rfl
    · refine SameI.ro (-1) hR ?_ ?_
      · unfold F_X8_term
        refine e_rcv fxO ?_
        refine g_y (c_isStore _) (inr hs (by decide)) ?_
        exact e_f hy rfl
      · unfold F_X9_term
        refine e_rcv fmO ?_
        refine g_y (m_isStoreR _) (inr hs (by decide)) ?_
        exact e_f hy rfl
  · refine SameI.ro (-1) hR ?_ ?_
    · unfold F_X8_term
      refine e_rcv fxO ?_
      exact g_n (c_isStore _) hx rfl
    · unfold F_X9_term
      refine e_rcv fmO ?_
      exact g_n (m_isStoreR _) hx rfl
theorem ltm1 : ¬ (0 : Int32) ≤ -1 := by decide
theorem call_coefficient (hN : 100 ≤ N) (hR : Rel m) (x y z : Int32) : SameJ (F_X8_coefficient N 0 x y z) (F_X9_coefficient N 322 x y z) m := by
  rcases rng x (n := 4) (by decide) with ⟨st, hs, rfl⟩ | hx
  · rcases rng z (n := 2) (by decide) with ⟨p, hp, rfl⟩ | hz
    · have sa := sumS hs
      obtain ⟨o1, o2, o3, o4, o5⟩ := id sa
      rcases hR.2.2.1 st hs with ⟨h1, h2, h3⟩ | ⟨k, o, h⟩
      · refine SameJ.ro (-9223372036854775808) hR ?_ ?_
        · unfold F_X8_coefficient
          refine e_rcv fxO ?_
          refine g_y (c_isStore _) (inr hs (by decide)) ?_
          refine g_y (c_isPart _) (inr hp (by decide)) ?_
          refine e_ldR fxO fxR8 ?_
          refine e_ldR fsO fsR0 ?_
          refine e_alZV fsA0 rfl (by omega) h1 ?_
          exact e_t rfl rfl
        · unfold F_X9_coefficient
          refine e_rcv fmO ?_
          refine g_y (m_isStoreR _) (inr hs (by decide)) ?_
          refine g_y (m_inR (n := 1) _ (by decide)) (inr hp (by decide)) ?_
          refine e_ldR fmO fmR9 ?_
          refine e_alZV fmA9 rfl (by omega) h2 ?_
          exact e_t rfl rfl
      · have tC : ∀ v R, nth (fun k => (o k).1 ≠ 0) y 29 0 0 = v → (if v = -1 then some (-9223372036854775808, S m) else (if nI p = 0 then (ldR (S m) (292 + 3 * st) 6 1 (fun r12 => alJ (S m) r12 v (fun v13 => J_X8_coefficient_82 N v13 (S m)))) else (ldR (S m) (292 + 3 * st) 6 2 (fun r10 => alJ (S m) r10 v (fun v11 => J_X8_coefficient_82 N v11 (S m)))))) = R → F_X8_coefficient N 0 (nI st) y (nI p) (S m) = R := by
          intro v R hv hR
          unfold F_X8_coefficient
          refine e_rcv fxO ?_
          refine g_y (c_isStore _) (inr hs (by decide)) ?_
          refine g_y (c_isPart _) (inr hp (by decide)) ?_
          refine e_ldR fxO fxR8 ?_
          refine e_ldR fsO fsR0 ?_
          refine e_alZV fsA0 rfl (by omega) h.1 ?_
          refine e_f (by decide) ?_
          refine e_ldR fxO fxR8 ?_
          refine e_ldR fsO fsR1 ?_
          refine e_alR shA (by decide) rfl (by omega) (shR st hs) ?_
          refine e_bnd (c_nthR sa hN h.2.2.2.1.2 _) ?_
          rw [hv]
          exact hR
        have tM : ∀ v R, nth (fun k => (o k).1 ≠ 0) y 29 0 0 = v → (if (0 : Int32) ≤ v then (if nI p = 0 then (ldR (S m) 322 9 11 (fun r10 => alJ (S m) r10 (nI (29 * st) + v) (fun v11 => J_X9_coefficient_72 N v11 (S m)))) else (ldR (S m) 322 9 12 (fun r8 => alJ (S m) r8 (nI (29 * st) + v) (fun v9 => J_X9_coefficient_72 N v9 (S m))))) else J_X9_coefficient_34 N (S m)) = R → F_X9_coefficient N 322 (nI st) y (nI p) (S m) = R := by
          intro v R hv hR
          unfold F_X9_coefficient
          refine e_rcv fmO ?_
          refine g_y (m_isStoreR _) (inr hs (by decide)) ?_
          refine g_y (m_inR (n := 1) _ (by decide)) (inr hp (by decide)) ?_
          refine e_ldR fmO fmR9 ?_
          refine e_alZV fmA9 rfl (by omega) h.2.1 ?_
          refine e_f (by decide) ?_
          refine e_bnd (m_nthR (by omega) hN h.rowM _) ?_
          rw [hv]
          refine e_i (fun z => ?_) (fun z => ?_)
          · rw [if_pos z] at hR
            refine e_bnd (m_nthR (by omega) hN h.rowM _) ?_
            rw [hv, mulL]
            refine e_nm ?_
            exact hR
          · rw [if_neg z] at hR
            exact hR
        rcases nth_or (fun k => (o k).1 ≠ 0) y 29 0 0 with e | ⟨j, _, j2, e⟩
        · refine SameJ.ro (-9223372036854775808) hR (tC _ _ e ?_) (tM _ _ e ?_)
          · rw [if_pos rfl]
          · rw [if_neg ltm1]
            rfl
        · have hm1 : ∀ k, k < 29 → ¬ nI k = (-1 : Int32) := by decide +kernel
          have i1 := lt29 (show st < 16 by omega) (show j < 29 by omega)
          have r1 := h.2.2.2.1.2 j (by omega)
          have r2 := h.rowM j (by omega)
          refine SameJ.ro (if p = 0 then (o j).1 else (o j).2) hR (tC _ _ e ?_) (tM _ _ e ?_)
          · rw [if_neg (hm1 j (by omega))]
            rcases (show p = 0 ∨ p = 1 by omega) with rfl | rfl
            · refine e_t rfl ?_
              refine e_ldR o1 o2 ?_
              exact e_alJV o4 rfl (by omega) (congrArg Prod.fst r1) rfl
            · refine e_f (by decide) ?_
              refine e_ldR o1 o3 ?_
              exact e_alJV o5 rfl (by omega) (congrArg Prod.snd r1) rfl
          · rw [if_pos (nI_pos' (by omega)), nI_add]
            rcases (show p = 0 ∨ p = 1 by omega) with rfl | rfl
            · refine e_t rfl ?_
              refine e_ldR fmO fmR11 ?_
              exact e_alJV fmA11 rfl (by omega) (congrArg Prod.fst r2) rfl
            · refine e_f (by decide) ?_
              refine e_ldR fmO fmR12 ?_
              exact e_alJV fmA12 rfl (by omega) (congrArg Prod.snd r2) rfl
    · refine SameJ.ro (-9223372036854775808) hR ?_ ?_
      · unfold F_X8_coefficient
        refine e_rcv fxO ?_
        refine g_y (c_isStore _) (inr hs (by decide)) ?_
        exact g_n (c_isPart _) hz rfl
      · unfold F_X9_coefficient
        refine e_rcv fmO ?_
        refine g_y (m_isStoreR _) (inr hs (by decide)) ?_
        exact g_n (m_inR (n := 1) _ (by decide)) hz rfl
  · refine SameJ.ro (-9223372036854775808) hR ?_ ?_
    · unfold F_X8_coefficient
      refine e_rcv fxO ?_
      exact g_n (c_isStore _) hx rfl
    · unfold F_X9_coefficient
      refine e_rcv fmO ?_
      exact g_n (m_isStoreR _) hx rfl
end CALLS5
