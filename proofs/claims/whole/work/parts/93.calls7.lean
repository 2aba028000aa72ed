section CALLS7
variable {N : Nat} {m m' : vM} {s : vS}
/-- only the class has changed so far: what the model has of a store -/
theorem StH.keep {st k : Nat} {o : Row} (h : StH m 290 292 330 331 332 333 st k o) (f : Fr (fun a _ => a < 322) m m') : rI m' 330 st = 1 ∧ RowM m' st o ∧ rI m' 331 st = nI k := by
  refine ⟨by rw [f.i (by omega)]; exact h.2.1, fun j hj => ?_, by rw [f.i (by omega)]; exact h.2.2.2.2.1⟩
  rw [← h.rowM j hj]
  show (rJ m' 332 _, rJ m' 333 _) = (rJ m 332 _, rJ m 333 _)
  rw [f.j (by omega), f.j (by omega)]
/-- a store gets row 13's sum on both sides: the end of lift and average -/
theorem fin_store {st k : Nat} {row : Row} {m1 m2 m3 : vM} (hN : 100 ≤ N) (hR : Rel m) (hs : st < 4) (c2 : Fr (cmP 283) m m1) (p2 : Fr (fun b j => (b = 290 ∧ j = st) ∨ (292 + 3 * st ≤ b ∧ b ≤ 292 + 3 * st + 2)) m1 m2) (p3 : rI m2 290 st = 1) (p4 : SumC m2 (292 + 3 * st) k row) (g2 : Fr (moQ 13) m2 m3) (h330 : rI m2 330 st = 1) (good : Good k row) (r : RowM m3 13 row) (e : rI m3 331 13 = nI k) :
    ∃ m4, F_X9_copy N 322 13 (nI st) (S m3) = some ((), S m4) ∧ F_X9_terms N 322 (nI st) (S m4) = some (nI (nt row), S m4) ∧ Rel m4 := by
  obtain ⟨m4, s1, s2, s3, s4⟩ := m_store (N := N) (m := m3) hN hs r e
  have f4 : Fr (fun a j => moQ 13 a j ∨ (a = 331 ∧ j = st) ∨ ((a = 332 ∨ a = 333) ∧ 29 * st ≤ j ∧ j < 29 * st + 29)) m2 m4 := (g2.mo (fun _ _ w => Or.inl w)).tr (s2.mo (fun _ _ w => Or.inr w))
  refine ⟨m4, s1, m_ntR (by omega) hN s4, ?_⟩
  refine hR.store hs ((((c2.mo (fun a j w => Or.inl (cm_npr w))).tr (p2.mo (fun a j w => Or.inr (by omega)))).tr (f4.mo (fun a j w => w.elim (fun w => Or.inl (mo_npr w)) (fun w => Or.inr (by omega)))))) (Or.inr ⟨k, row, ?_, ?_, good, ?_, s3, fun j hj => s4 j hj⟩)
  · rw [f4.i (by unfold moQ moP; omega)]
    exact p3
  · rw [f4.i (by unfold moQ moP; omega)]
    exact h330
  · exact p4.same (fun b j hb => ⟨f4.i (by unfold moQ moP; omega), f4.j (by unfold moQ moP; omega)⟩)
theorem gvs : ∀ g, g < 7 → ∀ n, n < 5 → ((gv g ≤ nI n ↔ g ≤ n + 1) ∧ (gw g ≤ nI n ↔ g ≤ n + 1)) := by decide +kernel
theorem cm322 {a j : Nat} (h : cmP 283 a j) : a < 322 := by
  unfold cmP muQ at h
  omega
theorem call_lift (hN : 1000 ≤ N) (hR : Rel m) (x y : Int32) : SameI (F_X8_lift N 0 x y) (F_X9_lift N 322 x y) m := by
  have hT := hR.1
  rcases rng x (n := 4) (by decide) with ⟨st, hs, rfl⟩ | hx
  · rcases rng y (n := 5) (by decide) with ⟨size, hz, rfl⟩ | hy
    · have sa := sumS hs
      have hsz : nI (sh_ false) ≤ nI size ∧ nI size ≤ 4 := ⟨nI_pos' (by omega), by rw [leR (by decide) (by omega)]; show size ≤ 4; omega⟩
      rcases hR.2.2.1 st hs with ⟨h1, h2, h3⟩ | ⟨k, o, h⟩
      · refine SameI.ro (-3) hR ?_ ?_
        · unfold F_X8_lift
          refine e_rcv fxO ?_
          refine g_y (c_isStore _) (inr hs (by decide)) ?_
          refine e_ldR fxO fxR0 ?_
          refine g_y (c_hasSize (q := false) hT _) hsz ?_
          refine e_ldR fxO fxR8 ?_
          refine e_ldR fsO fsR0 ?_
          refine e_alZV fsA0 rfl (by omega) h1 ?_
          exact e_t rfl rfl
        · unfold F_X9_lift
          refine e_rcv fmO ?_
          refine g_y (m_isStoreR _) (inr hs (by decide)) ?_
          refine g_y (m_inR (n := 4) _ (by decide)) (inr hz (by decide)) ?_
          refine e_ldR fmO fmR9 ?_
          refine e_alZV fmA9 rfl (by omega) h2 ?_
          exact e_t rfl rfl
      · obtain ⟨h1, h2, h3, h4, h5, h6⟩ := id h
        have hk := h3.1
        obtain ⟨q, hq⟩ := kqx (k := k)
        have io := h3.inq (fun z => hq.mpr z)
        have kk := kcs k hk k hk
        have g5 := gr_5 (q := q) (o := o)
        have gg := gvs (gr q o) (by omega) size hz
        have cg := c_greatestSize (N := N) (by omega) (hq.trans kk.2.2.1.symm) sa hT h4.2
        have tC : ∀ R, (if gv (gr q o) ≤ nI size then (ldR (S m) 0 8 2 (fun r13 => ldR (S m) 0 8 6 (fun r14 => bnd (F_X0_raise N r13 (292 + 3 * st) (nI size) r14 (S m)) (fun v15 s => if v15 = 0 then (J_X8_lift_97 N (-6) s) else (ldR s 0 8 8 (fun r16 => ldR s 0 8 6 (fun r17 => bnd (F_X5_put N r16 (nI st) r17 s) (fun v18 s => J_X8_lift_97 N v18 s)))))))) else some (-2, S m)) = R → F_X8_lift N 0 (nI st) (nI size) (S m) = R := by
          intro R hR'
          unfold F_X8_lift
          refine e_rcv fxO ?_
          refine g_y (c_isStore _) (inr hs (by decide)) ?_
          refine e_ldR fxO fxR0 ?_
          refine g_y (c_hasSize (q := false) hT _) hsz ?_
          refine e_ldR fxO fxR8 ?_
          refine e_ldR fsO fsR0 ?_
          refine e_alZV fsA0 rfl (by omega) h1 ?_
          refine e_f (by decide) ?_
          refine e_ldR fxO fxR8 ?_
          refine e_ldR fsO fsR1 ?_
          refine e_alR shA (by decide) rfl (by omega) (shR st hs) ?_
          refine e_ldR fxO fxR2 ?_
          refine e_ldIV sa.1 h4.1 ?_
          refine e_bnd cg ?_
          exact hR'
        have tM : ∀ (m1 : vM) R, Fr (fun a _ => a < 322) m m1 → Tab m1 → (if gw (gr q o) ≤ nI size then (stZ (S m1) 322 9 25 0 (fun s => bnd (F_X9_liftTo N 322 (nI st) (nI size) 13 s) (fun _ s => ldI s 322 9 25 (fun v7 => if v7 = 0 then (bnd (F_X9_copy N 322 13 (nI st) s) (fun _ s => bnd (F_X9_terms N 322 (nI st) s) (fun v9 s => some (v9, s)))) else some (-6, s))))) else some (-2, S m1)) = R → F_X9_lift N 322 (nI st) (nI size) (S m1) = R := by
          intro m1 R f hT1 hR'
          obtain ⟨a1, a2, a3⟩ := h.keep f
          unfold F_X9_lift
          refine e_rcv fmO ?_
          refine g_y (m_isStoreR _) (inr hs (by decide)) ?_
          refine g_y (m_inR (n := 4) _ (by decide)) (inr hz (by decide)) ?_
          refine e_ldR fmO fmR9 ?_
          refine e_alZV fmA9 rfl (by omega) a1 ?_
          refine e_f (by decide) ?_
          refine e_bnd (m_greatest (by omega) hq hk (by omega) io hT1 a2 a3) ?_
          exact hR'
        by_cases hg : gr q o ≤ size + 1
        · have hs0 : ∀ f, f < 29 → (o f).1 ≠ 0 → sz_ q f ≤ size := fun f hf z => by have := gr_ge (io f hf z) z; omega
          obtain ⟨m1, r, c1, c2, c3⟩ := c_raise (N := N) (m := m) (q := q) (size := size) (by omega) sa sum283 apS ap283 hk hq h3.2.1 io hz hs0 hT h4
          have hR1 : Rel m1 := hR.fr c2 (fun a j hp hc => cm_npr hc hp)
          have goM : ∀ (m2 : vM), Fr (fun a _ => a < 322) m m2 → Tab m2 → ∃ m3, (∀ R, (if rI m3 322 25 = 0 then (bnd (F_X9_copy N 322 13 (nI st) (S m3)) (fun _ s => bnd (F_X9_terms N 322 (nI st) s) (fun v9 s => some (v9, s)))) else some (-6, S m3)) = R → F_X9_lift N 322 (nI st) (nI size) (S m2) = R) ∧ Fr (moQ 13) m2 m3 ∧ match liftG q size o 29 with
              | some row => rI m3 322 25 = 0 ∧ RowM m3 13 row ∧ rI m3 331 13 = nI (kdE row k)
              | none => rI m3 322 25 = 1 := by
            intro m2 f hT2
            obtain ⟨a1, a2, a3⟩ := h.keep f
            have f0 : Fr (moQ 13) m2 (wI m2 322 25 0) := Fr.rf.sI (Or.inl (Or.inl ⟨rfl, by omega⟩))
            obtain ⟨m3, g1, g2, g3, g4⟩ := m_liftTo (N := N) (m := wI m2 322 25 0) (q := q) (t := 13) (u := st) (size := size) hN hq hk (by omega) (by omega) (by omega) h3.2.1 io hs0 hz (hT2.fr (fun b j hb => f0 b j (moQ_tab hb))) (rI_s _ _ _ _) a2 (by rw [rI_n _ _ (by omega)]; exact a3)
            refine ⟨m3, fun R hR' => tM m2 R f hT2 ?_, f0.tr g2, ?_⟩
            · refine e_t (gg.2.mpr hg) ?_
              refine e_stZ fmO (Or.inl rfl) ?_
              refine e_bnd g1 ?_
              exact e_ldI fmO hR'
            · cases hres : liftG q size o 29 with
              | none => rw [hres] at g3; exact g3.1
              | some row =>
                rw [hres] at g3 g4
                exact ⟨g3.1.1, g3.1.2, g4 row rfl⟩
          cases hres : liftG q size o 29 with
          | none =>
            rw [hres] at c3
            subst c3
            obtain ⟨m3, g1, g2, g3⟩ := goM m1 (c2.mo (fun _ _ => cm322)) hR1.1
            rw [hres] at g3
            refine ⟨-6, m1, m3, tC _ ?_, g1 _ (by rw [if_neg (by rw [g3]; decide)]), hR1.fr g2 (fun a j hp hc => mo_npr hc hp)⟩
            refine e_t (gg.1.mpr hg) ?_
            refine e_ldR fxO fxR2 ?_
            refine e_ldR fxO fxR6 ?_
            refine e_bnd c1 ?_
            exact e_t rfl rfl
          | some row =>
            rw [hres] at c3
            obtain ⟨rfl, c4, c5⟩ := c3
            have good := lift_good h3 hq hres c5
            obtain ⟨m2, p1, p2, p3, p4⟩ := c_put (N := N) (m := m1) (by omega) hs sum283 (by omega) c4
            have f12 : Fr (fun a _ => a < 322) m m2 := (c2.mo (fun _ _ => cm322)).tr (p2.mo (fun a j w => by omega))
            obtain ⟨m3, g1, g2, g3⟩ := goM m2 f12 (hR1.1.fr (fun b j hb => p2 b j (by unfold tabP at hb; omega)))
            rw [hres] at g3
            obtain ⟨m4, s1, s2, s3⟩ := fin_store (N := N) (by omega) hR hs c2 p2 p3 p4 g2 (h.keep f12).1 good g3.2.1 g3.2.2
            refine ⟨nI (nt row), m2, m4, tC _ ?_, g1 _ ?_, s3⟩
            · refine e_t (gg.1.mpr hg) ?_
              refine e_ldR fxO fxR2 ?_
              refine e_ldR fxO fxR6 ?_
              refine e_bnd c1 ?_
              refine e_f (by decide) ?_
              refine e_ldR fxO fxR8 ?_
              refine e_ldR fxO fxR6 ?_
              exact e_bnd p1 rfl
            · rw [if_pos g3.1]
              refine e_bnd s1 ?_
              exact e_bnd s2 rfl
        · refine SameI.ro (-2) hR (tC _ ?_) (tM m _ Fr.rf hT ?_)
          · exact e_f (fun w => hg (gg.1.mp w)) rfl
          · exact e_f (fun w => hg (gg.2.mp w)) rfl
    · refine SameI.ro (-1) hR ?_ ?_
      · unfold F_X8_lift
        refine e_rcv fxO ?_
        refine g_y (c_isStore _) (inr hs (by decide)) ?_
        refine e_ldR fxO fxR0 ?_
        exact g_n (c_hasSize (q := false) hT _) (fun w => hy ((in_r y (n := 4) (by decide)).mp w)) rfl
      · unfold F_X9_lift
        refine e_rcv fmO ?_
        refine g_y (m_isStoreR _) (inr hs (by decide)) ?_
        exact g_n (m_inR (n := 4) _ (by decide)) hy rfl
  · refine SameI.ro (-1) hR ?_ ?_
    · unfold F_X8_lift
      refine e_rcv fxO ?_
      exact g_n (c_isStore _) hx rfl
    · unfold F_X9_lift
      refine e_rcv fmO ?_
      exact g_n (m_isStoreR _) hx rfl
theorem call_average (hN : 1000 ≤ N) (hR : Rel m) (x : Int32) : SameI (F_X8_average N 0 x) (F_X9_average N 322 x) m := by
  have hT := hR.1
  rcases rng x (n := 4) (by decide) with ⟨st, hs, rfl⟩ | hx
  · have sa := sumS hs
    rcases hR.2.2.1 st hs with ⟨h1, h2, h3⟩ | ⟨k, o, h⟩
    · refine SameI.ro (-3) hR ?_ ?_
      · unfold F_X8_average
        refine e_rcv fxO ?_
        refine g_y (c_isStore _) (inr hs (by decide)) ?_
        refine e_ldR fxO fxR8 ?_
        refine e_ldR fsO fsR0 ?_
        refine e_alZV fsA0 rfl (by omega) h1 ?_
        exact e_t rfl rfl
      · unfold F_X9_average
        refine e_rcv fmO ?_
        refine g_y (m_isStoreR _) (inr hs (by decide)) ?_
        refine e_ldR fmO fmR9 ?_
        refine e_alZV fmA9 rfl (by omega) h2 ?_
        exact e_t rfl rfl
    · obtain ⟨h1, h2, h3, h4, h5, h6⟩ := id h
      have hk := h3.1
      obtain ⟨m1, v, c1, c2, c3⟩ := c_uproot (N := N) (m := m) (by omega) sa sum283 apS ap283 (by omega) hk h3.2.1 hT h4
      have hR1 : Rel m1 := hR.fr c2 (fun a j hp hc => cm_npr hc hp)
      have tC : ∀ R, (if v = 0 then (ldR (S m1) 0 8 8 (fun r11 => ldR (S m1) 0 8 6 (fun r12 => bnd (F_X5_put N r11 (nI st) r12 (S m1)) (fun v13 s => J_X8_average_65 N v13 s)))) else (J_X8_average_65 N v (S m1))) = R → F_X8_average N 0 (nI st) (S m) = R := by
        intro R hR'
        unfold F_X8_average
        refine e_rcv fxO ?_
        refine g_y (c_isStore _) (inr hs (by decide)) ?_
        refine e_ldR fxO fxR8 ?_
        refine e_ldR fsO fsR0 ?_
        refine e_alZV fsA0 rfl (by omega) h1 ?_
        refine e_f (by decide) ?_
        refine e_ldR fxO fxR2 ?_
        refine e_ldR fxO fxR8 ?_
        refine e_ldR fsO fsR1 ?_
        refine e_alR shA (by decide) rfl (by omega) (shR st hs) ?_
        refine e_ldR fxO fxR6 ?_
        exact e_bnd c1 hR'
      have tM : ∀ (m2 : vM) R, Fr (fun a _ => a < 322) m m2 → (if nI k = 0 then some (-2, S m2) else (stZ (S m2) 322 9 25 0 (fun s => bnd (F_X9_averageTo N 322 (nI st) 13 s) (fun _ s => ldI s 322 9 25 (fun v7 => if v7 = 0 then (bnd (F_X9_copy N 322 13 (nI st) s) (fun _ s => bnd (F_X9_terms N 322 (nI st) s) (fun v9 s => some (v9, s)))) else some (-6, s)))))) = R → F_X9_average N 322 (nI st) (S m2) = R := by
        intro m2 R f hR'
        obtain ⟨a1, a2, a3⟩ := h.keep f
        unfold F_X9_average
        refine e_rcv fmO ?_
        refine g_y (m_isStoreR _) (inr hs (by decide)) ?_
        refine e_ldR fmO fmR9 ?_
        refine e_alZV fmA9 rfl (by omega) a1 ?_
        refine e_f (by decide) ?_
        refine e_ldR fmO fmR10 ?_
        refine e_alIV fmA10 rfl (by omega) a3 ?_
        exact hR'
      by_cases z0 : k = 0
      · rw [if_pos z0] at c3
        subst c3
        refine ⟨-2, m1, m1, tC _ (e_f (by decide) rfl), tM m1 _ (c2.mo (fun _ _ => cm322)) ?_, hR1⟩
        rw [z0]
        exact e_t rfl rfl
      rw [if_neg z0] at c3
      have goM : ∀ (m2 : vM), Fr (fun a _ => a < 322) m m2 → Tab m2 → ∃ m3, (∀ R, (if rI m3 322 25 = 0 then (bnd (F_X9_copy N 322 13 (nI st) (S m3)) (fun _ s => bnd (F_X9_terms N 322 (nI st) s) (fun v9 s => some (v9, s)))) else some (-6, S m3)) = R → F_X9_average N 322 (nI st) (S m2) = R) ∧ Fr (moQ 13) m2 m3 ∧ match avgX o with
          | some row => rI m3 322 25 = 0 ∧ RowM m3 13 row ∧ rI m3 331 13 = nI (kdE row 0)
          | none => rI m3 322 25 = 1 := by
        intro m2 f hT2
        obtain ⟨a1, a2, a3⟩ := h.keep f
        have f0 : Fr (moQ 13) m2 (wI m2 322 25 0) := Fr.rf.sI (Or.inl (Or.inl ⟨rfl, by omega⟩))
        obtain ⟨m3, g1, g2, g3, g4⟩ := m_averageTo (N := N) (m := wI m2 322 25 0) (t := 13) (u := st) hN (by omega) (by omega) (by omega) h3.2.1 (hT2.fr (fun b j hb => f0 b j (moQ_tab hb))) (rI_s _ _ _ _) a2
        refine ⟨m3, fun R hR' => tM m2 R f ?_, f0.tr g2, ?_⟩
        · refine e_f (by rw [eqR (by decide) (by omega)]; exact z0) ?_
          refine e_stZ fmO (Or.inl rfl) ?_
          refine e_bnd g1 ?_
          exact e_ldI fmO hR'
        · cases hres : avgX o with
          | none => rw [hres] at g3; exact g3.1
          | some row =>
            rw [hres] at g3 g4
            exact ⟨g3.1.1, g3.1.2, g4 row rfl⟩
      -- what comes, and is laid on both sides
      have fin : ∀ row kd, v = 0 → SumC m1 283 kd row → Good kd row → avgX o = some row → kdE row 0 = kd → SameI (F_X8_average N 0 (nI st)) (F_X9_average N 322 (nI st)) m := by
        intro row kd hv c4 good hav hkd
        subst hv
        obtain ⟨m2, p1, p2, p3, p4⟩ := c_put (N := N) (m := m1) (by omega) hs sum283 (by omega) c4
        have f12 : Fr (fun a _ => a < 322) m m2 := (c2.mo (fun _ _ => cm322)).tr (p2.mo (fun a j w => by omega))
        obtain ⟨m3, g1, g2, g3⟩ := goM m2 f12 (hR1.1.fr (fun b j hb => p2 b j (by unfold tabP at hb; omega)))
        rw [hav] at g3
        dsimp only at g3
        rw [hkd] at g3
        obtain ⟨m4, s1, s2, s3⟩ := fin_store (N := N) (by omega) hR hs c2 p2 p3 p4 g2 (h.keep f12).1 good g3.2.1 g3.2.2
        refine ⟨nI (nt row), m2, m4, tC _ ?_, g1 _ ?_, s3⟩
        · refine e_t rfl ?_
          refine e_ldR fxO fxR8 ?_
          refine e_ldR fxO fxR6 ?_
          exact e_bnd p1 rfl
        · rw [if_pos g3.1]
          refine e_bnd s1 ?_
          exact e_bnd s2 rfl
      by_cases z2 : k = 2
      · rw [if_pos z2] at c3
        obtain ⟨hv, c4⟩ := c3
        have he := h3.2.2.2 z2
        -- a row without terms is the empty one
        have hrow : ∀ j, j < 29 → o j = row0 j := fun j hj => by
          have l := h3.2.1 j hj
          have z := he j hj
          have e2 : (o j).2 = 1 := by
            have hg := l.2
            rw [z, show ab (0 : Int64) = 0 from rfl, Nat.gcd_zero_left] at hg
            have hp := l.1
            apply Int64.toInt_inj.mp
            unfold ab at hg
            show (o j).2.toInt = 1
            omega
          exact Prod.ext z e2
        refine fin row0 2 hv ⟨c4.1, fun j hj => (c4.2 j hj).trans (hrow j hj)⟩ ⟨by omega, row0_low, fun _ => row0_in false, fun _ => row0_emp⟩ (avg_emp he) ?_
        exact if_pos (nt_emp.mpr row0_emp)
      · rw [if_neg z2] at c3
        cases hres : avgX o with
        | none =>
          rw [hres] at c3
          subst c3
          obtain ⟨m3, g1, g2, g3⟩ := goM m1 (c2.mo (fun _ _ => cm322)) hR1.1
          rw [hres] at g3
          exact ⟨-6, m1, m3, tC _ (e_f (by decide) rfl), g1 _ (by rw [if_neg (by rw [g3]; decide)]), hR1.fr g2 (fun a j hp hc => mo_npr hc hp)⟩
        | some row =>
          rw [hres] at c3
          exact fin row _ c3.1 c3.2.1 (avg_good hres c3.2.2) hres rfl
  · refine SameI.ro (-1) hR ?_ ?_
    · unfold F_X8_average
      refine e_rcv fxO ?_
      exact g_n (c_isStore _) hx rfl
    · unfold F_X9_average
      refine e_rcv fmO ?_
      exact g_n (m_isStoreR _) hx rfl
end CALLS7
