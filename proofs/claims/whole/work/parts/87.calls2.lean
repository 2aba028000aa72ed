section CALLS2
variable {N : Nat} {m m' : vM} {s : vS}
theorem m_isFlagR (v : Int32) : F_X9_isFlag N v s = some (b2 ((0 : Int32) ≤ v ∧ v < nI 19), s) := (m_isFlag v).trans (congrArg (fun t => some (t, s)) (b2_c (in_r v (n := 18) (by decide))))
theorem m_isRootedR (v : Int32) : F_X9_isRooted N v s = some (b2 ((0 : Int32) ≤ v ∧ v < nI 29), s) := (m_isRooted v).trans (congrArg (fun t => some (t, s)) (b2_c (in_r v (n := 28) (by decide))))
theorem m_isStoreR (v : Int32) : F_X9_isStore N v s = some (b2 ((0 : Int32) ≤ v ∧ v < nI 4), s) := (m_isStore v).trans (congrArg (fun t => some (t, s)) (b2_c (in_r v (n := 3) (by decide))))
theorem lk_ms {a j : Nat} (h : lkP a j) : msP a j := by
  unfold lkP at h
  unfold msP
  omega
theorem jo_ms {a j : Nat} (h : joP a j) : msP a j := by
  unfold joP at h
  unfold msP
  omega
theorem wA_ms {p : Fc} : Fr msP m (wA m p) := (Fr.rf.sJ (Or.inl ⟨rfl, by omega⟩)).sJ (Or.inl ⟨rfl, by omega⟩)
theorem Rel.c282 (h : Rel m) (f : Fr (fun b _ => b = 282) m m') : Rel m' := h.fr f (fun a j ha => sc282 ha)
theorem Rel.ms (h : Rel m) (f : Fr msP m m') : Rel m' := h.fr f (fun a j ha => ms_pr ha)
theorem tabF {k : Nat} (hT : Tab m) (hk : k < 19) : rI m 323 k = nI (sz_ false k) ∧ rI m 324 k = nI (cd_ false k) := by
  have h := hT.2.1 false k hk
  have h1 : rI m 323 (0 + k) = _ := h.2.2.2.1
  have h2 : rI m 324 (0 + k) = _ := h.2.2.2.2
  rw [Nat.zero_add] at h1 h2
  exact ⟨h1, h2⟩
theorem tabR {k : Nat} (hT : Tab m) (hk : k < 29) : rI m 323 (19 + k) = nI (sz_ true k) ∧ rI m 324 (19 + k) = nI (cd_ true k) := ⟨(hT.2.1 true k hk).2.2.2.1, (hT.2.1 true k hk).2.2.2.2⟩
theorem nI19 (k : Nat) : (19 : Int32) + nI k = nI (19 + k) := nI_add 19 k
/-- the model's part of joint: looked into, counted, told -/
theorem m_jointTold {q : Bool} {f g h p : Nat} {x : Int32} {K : Int64 → vS → Option (Int64 × vS)} (hN : 100 ≤ N) (hT : Tab m) (hf : f < mny q) (hg : g < mny q) (hh : h < mny q) (hp : p < 2) (hs : sz_ q f + sz_ q g - sh_ q ≤ sz_ q h) :
    ∃ m1 m2, F_X9_lookInto N 322 (nI (sz_ q h)) (nI (cd_ q h)) (S m) = some ((), S m1) ∧ F_X9_jointOf N 322 (nI f) (nI (sz_ q f)) (nI g) (nI (sz_ q g)) (rt (ro_ q)) (S m1) = some ((), S m2) ∧ F_X9_part N 322 (nI p) (S m2) = some (if p = 0 then (jt q f g h).1 else (jt q f g h).2, S m2) ∧ Tab m1 ∧ Fr msP m m2 := by
  have z1 := szc q h hh
  obtain ⟨m1, l1, l2, l3⟩ := m_lookInto (N := N) (m := m) (size := sz_ q h) (code := cd_ q h) hN z1.1 z1.2.2.2.1
  have hT1 : Tab m1 := hT.fr (fun b j hb => l2 b j (by unfold tabP at hb; unfold lkP; omega))
  obtain ⟨m2, j1, j2⟩ := m_jointOf (N := N) (m := m1) (f := f) (g := g) (h := h) hN hT1 hf hg hh hs l3
  exact ⟨m1, _, l1, j1, m_part hp wA_1 wA_2, hT1, ((l2.mo (fun _ _ => lk_ms)).tr (j2.mo (fun _ _ => jo_ms))).tr wA_ms⟩
theorem call_joint (hN : 100 ≤ N) (hR : Rel m) (x y z w : Int32) : SameJ (F_X8_joint N 0 x y z w) (F_X9_joint N 322 x y z w) m := by
  obtain ⟨hT, -⟩ := id hR
  have startC : ∀ R, F_X8_jointPart N 0 1 x y z w (S m) = some R → F_X8_joint N 0 x y z w (S m) = some R := by
    intro R h
    unfold F_X8_joint
    refine e_rcv fxO ?_
    refine e_ldR fxO fxR0 ?_
    exact e_bnd h rfl
  have no : (¬ ((0 : Int32) ≤ x ∧ x < nI 19) ∨ ¬ ((0 : Int32) ≤ y ∧ y < nI 19) ∨ ¬ ((0 : Int32) ≤ z ∧ z < nI 19) ∨ ¬ ((0 : Int32) ≤ w ∧ w < nI 2)) → SameJ (F_X8_joint N 0 x y z w) (F_X9_joint N 322 x y z w) m := by
    intro h
    refine SameJ.ro (-9223372036854775808) hR (startC _ (c_jointPart_n (q := false) hT h)) ?_
    unfold F_X9_joint
    refine e_rcv fmO ?_
    by_cases h1 : (0 : Int32) ≤ x ∧ x < nI 19
    · refine g_y (m_isFlagR _) h1 ?_
      by_cases h2 : (0 : Int32) ≤ y ∧ y < nI 19
      · refine g_y (m_isFlagR _) h2 ?_
        by_cases h3 : (0 : Int32) ≤ z ∧ z < nI 19
        · refine g_y (m_isFlagR _) h3 ?_
          have h4 : ¬ ((0 : Int32) ≤ w ∧ w < nI 2) := by
            rcases h with h | h | h | h
            · exact absurd h1 h
            · exact absurd h2 h
            · exact absurd h3 h
            · exact h
          exact g_n (m_inR (n := 1) _ (by decide)) h4 rfl
        · exact g_n (m_isFlagR _) h3 rfl
      · exact g_n (m_isFlagR _) h2 rfl
    · exact g_n (m_isFlagR _) h1 rfl
  rcases rng x (n := 19) (by decide) with ⟨f, hf, rfl⟩ | h
  · rcases rng y (n := 19) (by decide) with ⟨g, hg, rfl⟩ | h
    · rcases rng z (n := 19) (by decide) with ⟨h, hh, rfl⟩ | h
      · rcases rng w (n := 2) (by decide) with ⟨p, hp, rfl⟩ | h
        · obtain ⟨m1, c1, c2⟩ := c_jointPart (N := N) (q := false) (m := m) hN hT hf hg hh hp
          have hR1 := hR.c282 c2
          have hT1 := hR1.1
          have startM : ∀ R, (if nI (sz_ false f + sz_ false g) ≤ nI (sz_ false h) then bnd (F_X9_lookInto N 322 (nI (sz_ false h)) (nI (cd_ false h)) (S m1)) (fun _ s => ldR s 322 9 0 (fun r16 => alI s r16 (nI f) (fun v17 => ldR s 322 9 0 (fun r18 => alI s r18 (nI g) (fun v19 => bnd (F_X9_jointOf N 322 (nI f) v17 (nI g) v19 (-1) s) (fun _ s => bnd (F_X9_part N 322 (nI p) s) (fun v21 s => some (v21, s)))))))) else J_X9_joint_53 N (S m1)) = R → F_X9_joint N 322 (nI f) (nI g) (nI h) (nI p) (S m1) = R := by
            intro R hR
            unfold F_X9_joint
            refine e_rcv fmO ?_
            refine g_y (m_isFlagR _) (inr hf (by decide)) ?_
            refine g_y (m_isFlagR _) (inr hg (by decide)) ?_
            refine g_y (m_isFlagR _) (inr hh (by decide)) ?_
            refine g_y (m_inR (n := 1) _ (by decide)) (inr hp (by decide)) ?_
            refine e_ldR fmO fmR0 ?_
            refine e_alIV fmA0 rfl (by omega) (tabF hT1 hh).1 ?_
            refine e_ldR fmO fmR0 ?_
            refine e_alIV fmA0 rfl (by omega) (tabF hT1 hf).1 ?_
            refine e_ldR fmO fmR0 ?_
            refine e_alIV fmA0 rfl (by omega) (tabF hT1 hg).1 ?_
            rw [nI_add]
            refine e_i (fun t => ?_) (fun t => ?_)
            · rw [if_pos t] at hR
              refine e_ldR fmO fmR0 ?_
              refine e_alIV fmA0 rfl (by omega) (tabF hT1 hh).1 ?_
              refine e_ldR fmO fmR1 ?_
              refine e_alIV fmA1 rfl (by omega) (tabF hT1 hh).2 ?_
              exact hR
            · rw [if_neg t] at hR
              exact hR
          have z1 := szc false f hf
          have z2 := szc false g hg
          have z3 := szc false h hh
          have c1' := startC _ c1
          by_cases hs : sz_ false f + sz_ false g - sh_ false ≤ sz_ false h
          · rw [if_pos hs] at c1'
            obtain ⟨m2, m3, l1, l2, l3, l4, l5⟩ := m_jointTold (N := N) (m := m1) (q := false) (x := 0) (K := fun _ _ => none) hN hT1 hf hg hh hp hs
            refine ⟨_, m1, m3, c1', startM _ ?_, hR1.ms l5⟩
            rw [if_pos (by rw [nI_leI (by omega) (by omega)]; exact hs)]
            refine e_bnd l1 ?_
            refine e_ldR fmO fmR0 ?_
            refine e_alIV fmA0 rfl (by omega) (tabF l4 hf).1 ?_
            refine e_ldR fmO fmR0 ?_
            refine e_alIV fmA0 rfl (by omega) (tabF l4 hg).1 ?_
            refine e_bnd l2 ?_
            exact e_bnd l3 rfl
          · rw [if_neg hs] at c1'
            refine ⟨_, m1, m1, c1', startM _ ?_, hR1⟩
            rw [if_neg (by rw [nI_leI (by omega) (by omega)]; exact hs)]
            rfl
        · exact no (Or.inr (Or.inr (Or.inr h)))
      · exact no (Or.inr (Or.inr (Or.inl h)))
    · exact no (Or.inr (Or.inl h))
  · exact no (Or.inl h)
theorem call_jointRooted (hN : 100 ≤ N) (hR : Rel m) (x y z w : Int32) : SameJ (F_X8_jointRooted N 0 x y z w) (F_X9_jointRooted N 322 x y z w) m := by
  obtain ⟨hT, -⟩ := id hR
  have startC : ∀ R, F_X8_jointPart N 0 92 x y z w (S m) = some R → F_X8_jointRooted N 0 x y z w (S m) = some R := by
    intro R h
    unfold F_X8_jointRooted
    refine e_rcv fxO ?_
    refine e_ldR fxO fxR1 ?_
    exact e_bnd h rfl
  have no : (¬ ((0 : Int32) ≤ x ∧ x < nI 29) ∨ ¬ ((0 : Int32) ≤ y ∧ y < nI 29) ∨ ¬ ((0 : Int32) ≤ z ∧ z < nI 29) ∨ ¬ ((0 : Int32) ≤ w ∧ w < nI 2)) → SameJ (F_X8_jointRooted N 0 x y z w) (F_X9_jointRooted N 322 x y z w) m := by
    intro h
    refine SameJ.ro (-9223372036854775808) hR (startC _ (c_jointPart_n (q := true) hT h)) ?_
    unfold F_X9_jointRooted
    refine e_rcv fmO ?_
    by_cases h1 : (0 : Int32) ≤ x ∧ x < nI 29
    · refine g_y (m_isRootedR _) h1 ?_
      by_cases h2 : (0 : Int32) ≤ y ∧ y < nI 29
      · refine g_y (m_isRootedR _) h2 ?_
        by_cases h3 : (0 : Int32) ≤ z ∧ z < nI 29
        · refine g_y (m_isRootedR _) h3 ?_
          have h4 : ¬ ((0 : Int32) ≤ w ∧ w < nI 2) := by
            rcases h with h | h | h | h
            · exact absurd h1 h
            · exact absurd h2 h
            · exact absurd h3 h
            · exact h
          exact g_n (m_inR (n := 1) _ (by decide)) h4 rfl
        · exact g_n (m_isRootedR _) h3 rfl
      · exact g_n (m_isRootedR _) h2 rfl
    · exact g_n (m_isRootedR _) h1 rfl
  rcases rng x (n := 29) (by decide) with ⟨f, hf, rfl⟩ | h
  · rcases rng y (n := 29) (by decide) with ⟨g, hg, rfl⟩ | h
    · rcases rng z (n := 29) (by decide) with ⟨h, hh, rfl⟩ | h
      · rcases rng w (n := 2) (by decide) with ⟨p, hp, rfl⟩ | h
        · obtain ⟨m1, c1, c2⟩ := c_jointPart (N := N) (q := true) (m := m) hN hT hf hg hh hp
          have hR1 := hR.c282 c2
          have hT1 := hR1.1
          have z1 := szc true f hf
          have z2 := szc true g hg
          have z3 := szc true h hh
          have one : 1 ≤ sz_ true f := z1.2.1
          have startM : ∀ R, (if nI (sz_ true f + sz_ true g - 1) ≤ nI (sz_ true h) then bnd (F_X9_lookInto N 322 (nI (sz_ true h)) (nI (cd_ true h)) (S m1)) (fun _ s => ldR s 322 9 0 (fun r16 => alI s r16 (19 + nI f) (fun v17 => ldR s 322 9 0 (fun r18 => alI s r18 (19 + nI g) (fun v19 => bnd (F_X9_jointOf N 322 (nI f) v17 (nI g) v19 0 s) (fun _ s => bnd (F_X9_part N 322 (nI p) s) (fun v21 s => some (v21, s)))))))) else J_X9_jointRooted_64 N (S m1)) = R → F_X9_jointRooted N 322 (nI f) (nI g) (nI h) (nI p) (S m1) = R := by
            intro R hR
            unfold F_X9_jointRooted
            refine e_rcv fmO ?_
            refine g_y (m_isRootedR _) (inr hf (by decide)) ?_
            refine g_y (m_isRootedR _) (inr hg (by decide)) ?_
            refine g_y (m_isRootedR _) (inr hh (by decide)) ?_
            refine g_y (m_inR (n := 1) _ (by decide)) (inr hp (by decide)) ?_
            refine e_ldR fmO fmR0 ?_
            refine e_alIV fmA0 (nI19 h) (by omega) (tabR hT1 hh).1 ?_
            refine e_ldR fmO fmR0 ?_
            refine e_alIV fmA0 (nI19 f) (by omega) (tabR hT1 hf).1 ?_
            refine e_ldR fmO fmR0 ?_
            refine e_alIV fmA0 (nI19 g) (by omega) (tabR hT1 hg).1 ?_
            rw [nI_add, subR (by show 1 ≤ _; omega)]
            refine e_i (fun t => ?_) (fun t => ?_)
            · rw [if_pos t] at hR
              refine e_ldR fmO fmR0 ?_
              refine e_alIV fmA0 (nI19 h) (by omega) (tabR hT1 hh).1 ?_
              refine e_ldR fmO fmR1 ?_
              refine e_alIV fmA1 (nI19 h) (by omega) (tabR hT1 hh).2 ?_
              exact hR
            · rw [if_neg t] at hR
              exact hR
          have c1' := startC _ c1
          by_cases hs : sz_ true f + sz_ true g - sh_ true ≤ sz_ true h
          · rw [if_pos hs] at c1'
            obtain ⟨m2, m3, l1, l2, l3, l4, l5⟩ := m_jointTold (N := N) (m := m1) (q := true) (x := 0) (K := fun _ _ => none) hN hT1 hf hg hh hp hs
            refine ⟨_, m1, m3, c1', startM _ ?_, hR1.ms l5⟩
            rw [if_pos (by rw [nI_leI (by omega) (by omega)]; exact hs)]
            refine e_bnd l1 ?_
            refine e_ldR fmO fmR0 ?_
            refine e_alIV fmA0 (nI19 f) (by omega) (tabR l4 hf).1 ?_
            refine e_ldR fmO fmR0 ?_
            refine e_alIV fmA0 (nI19 g) (by omega) (tabR l4 hg).1 ?_
            refine e_bnd l2 ?_
            exact e_bnd l3 rfl
          · rw [if_neg hs] at c1'
            refine ⟨_, m1, m1, c1', startM _ ?_, hR1⟩
            rw [if_neg (by rw [nI_leI (by omega) (by omega)]; exact hs)]
            rfl
        · exact no (Or.inr (Or.inr (Or.inr h)))
      · exact no (Or.inr (Or.inr (Or.inl h)))
    · exact no (Or.inr (Or.inl h))
  · exact no (Or.inl h)
theorem call_inside (hN : 1000 ≤ N) (hR : Rel m) (y z w : Int32) : SameJ (F_X8_inside N 0 y z w) (F_X9_inside N 322 y z w) m := by
  obtain ⟨hT, -⟩ := id hR
  have startC : ∀ R, F_X8_jointPart N 0 1 0 y z w (S m) = some R → F_X8_inside N 0 y z w (S m) = some R := by
    intro R h
    unfold F_X8_inside
    refine e_rcv fxO ?_
    refine e_ldR fxO fxR0 ?_
    exact e_bnd h rfl
  have no : (¬ ((0 : Int32) ≤ y ∧ y < nI 19) ∨ ¬ ((0 : Int32) ≤ z ∧ z < nI 19) ∨ ¬ ((0 : Int32) ≤ w ∧ w < nI 2)) → SameJ (F_X8_inside N 0 y z w) (F_X9_inside N 322 y z w) m := by
    intro h
    refine SameJ.ro (-9223372036854775808) hR (startC _ (c_jointPart_n (q := false) hT (Or.inr h))) ?_
    unfold F_X9_inside
    refine e_rcv fmO ?_
    by_cases h2 : (0 : Int32) ≤ y ∧ y < nI 19
    · refine g_y (m_isFlagR _) h2 ?_
      by_cases h3 : (0 : Int32) ≤ z ∧ z < nI 19
      · refine g_y (m_isFlagR _) h3 ?_
        have h4 : ¬ ((0 : Int32) ≤ w ∧ w < nI 2) := by
          rcases h with h | h | h
          · exact absurd h2 h
          · exact absurd h3 h
          · exact h
        exact g_n (m_inR (n := 1) _ (by decide)) h4 rfl
      · exact g_n (m_isFlagR _) h3 rfl
    · exact g_n (m_isFlagR _) h2 rfl
  rcases rng y (n := 19) (by decide) with ⟨g, hg, rfl⟩ | h
  · rcases rng z (n := 19) (by decide) with ⟨h, hh, rfl⟩ | h
    · rcases rng w (n := 2) (by decide) with ⟨p, hp, rfl⟩ | h
      · obtain ⟨m1, c1, c2⟩ := c_jointPart (N := N) (q := false) (m := m) (f := 0) (by omega) hT (by decide) hg hh hp
        have hR1 := hR.c282 c2
        have hT1 := hR1.1
        have z2 := szc false g hg
        have z3 := szc false h hh
        have s0 : sz_ false 0 + sz_ false g - sh_ false = sz_ false g := by
          show 0 + sz_ false g - 0 = _
          omega
        rw [s0] at c1
        have startM : ∀ R, (if nI (sz_ false g) ≤ nI (sz_ false h) then bnd (F_X9_lookInto N 322 (nI (sz_ false h)) (nI (cd_ false h)) (S m1)) (fun _ s => ldR s 322 9 0 (fun r13 => alI s r13 (nI g) (fun v14 => bnd (F_X9_insideOf N 322 (nI g) v14 (-1) s) (fun _ s => bnd (F_X9_part N 322 (nI p) s) (fun v16 s => some (v16, s)))))) else J_X9_inside_38 N (S m1)) = R → F_X9_inside N 322 (nI g) (nI h) (nI p) (S m1) = R := by
          intro R hR
          unfold F_X9_inside
          refine e_rcv fmO ?_
          refine g_y (m_isFlagR _) (inr hg (by decide)) ?_
          refine g_y (m_isFlagR _) (inr hh (by decide)) ?_
          refine g_y (m_inR (n := 1) _ (by decide)) (inr hp (by decide)) ?_
          refine e_ldR fmO fmR0 ?_
          refine e_alIV fmA0 rfl (by omega) (tabF hT1 hh).1 ?_
          refine e_ldR fmO fmR0 ?_
          refine e_alIV fmA0 rfl (by omega) (tabF hT1 hg).1 ?_
          refine e_i (fun t => ?_) (fun t => ?_)
          · rw [if_pos t] at hR
            refine e_ldR fmO fmR0 ?_
            refine e_alIV fmA0 rfl (by omega) (tabF hT1 hh).1 ?_
            refine e_ldR fmO fmR1 ?_
            refine e_alIV fmA1 rfl (by omega) (tabF hT1 hh).2 ?_
            exact hR
          · rw [if_neg t] at hR
            exact hR
        have c1' := startC _ c1
        by_cases hs : sz_ false g ≤ sz_ false h
        · rw [if_pos hs] at c1'
          obtain ⟨m2, l1, l2, l3⟩ := m_lookInto (N := N) (m := m1) (size := sz_ false h) (code := cd_ false h) (by omega) z3.1 z3.2.2.2.1
          have hT2 : Tab m2 := hT1.fr (fun b j hb => l2 b j (by unfold tabP at hb; unfold lkP; omega))
          obtain ⟨m3, j1, j2⟩ := m_insideOf (N := N) (m := m2) (q := false) (k := g) (size := sz_ false g) (root := none) hN hT2 l3 (symT' hh) rfl (fun x hx => by cases hx) z2.2.1 z2.1 hs hg
          rw [show shr_ false (sz_ false h) (rowOf (sz_ false h) (cd_ false h)) none (sz_ false g) g = jt false 0 g h from it_eq hg hh hs] at j1
          refine ⟨_, m1, wA m3 (jt false 0 g h), c1', startM _ ?_, hR1.ms (((l2.mo (fun _ _ => lk_ms)).tr (j2.mo (fun b j (w : b = 340) => Or.inr (Or.inr (Or.inl w))))).tr wA_ms)⟩
          rw [if_pos (by rw [nI_leI (by omega) (by omega)]; exact hs)]
          refine e_bnd l1 ?_
          refine e_ldR fmO fmR0 ?_
          refine e_alIV fmA0 rfl (by omega) (tabF hT2 hg).1 ?_
          refine e_bnd j1 ?_
          exact e_bnd (m_part hp wA_1 wA_2) rfl
        · rw [if_neg hs] at c1'
          refine ⟨_, m1, m1, c1', startM _ ?_, hR1⟩
          rw [if_neg (by rw [nI_leI (by omega) (by omega)]; exact hs)]
          rfl
      · exact no (Or.inr (Or.inr h))
    · exact no (Or.inr (Or.inl h))
  · exact no (Or.inl h)
end CALLS2
