section CALLS9
variable {N : Nat} {m m' : vM} {s : vS}
/-! the tape -/
theorem Rel.tape (hR : Rel m) {z : Nat} {t : Nat → Nat} (f : Fr (fun a j => tapP a j ∨ ¬ prP a j) m m') (h : TapeR m' z t) : Rel m' := by
  obtain ⟨h1, ⟨nn, r, h2⟩, h3, -, h5⟩ := hR
  have e : ∀ a j, prP a j → ¬ tapP a j → rI m' a j = rI m a j ∧ rJ m' a j = rJ m a j := fun a j hp hn => f a j (fun w => w.elim hn (fun w => w hp))
  exact ⟨h1.fr (fun a j ha => e a j (Or.inl ha) (by unfold tabP at ha; unfold tapP; omega)), ⟨nn, r, h2.same (fun a j ha => (e a j (Or.inr (Or.inl (by unfold hanP; omega))) (by unfold tapP; omega)).1)⟩, h3.same (fun a j ha => e a j (Or.inr (Or.inr (Or.inl ha))) (by unfold stoP at ha; unfold tapP; omega)), ⟨z, t, h⟩, h5.same (fun a j ha => e a j (Or.inr (Or.inr (Or.inr (Or.inr ha)))) (by unfold imgP at ha; unfold tapP; omega))⟩
theorem call_feed (hR : Rel m) (x : Int32) : SameI (F_X8_feed N 0 x) (F_X9_feed N 322 x) m := by
  obtain ⟨z, t, hz, h1, h2, h3⟩ := id hR.2.2.2.1
  rcases rng x (n := 128) (by decide) with ⟨c, hc, rfl⟩ | hx
  · by_cases hf : z = 60
    · refine SameI.ro (-4) hR ?_ ?_
      · unfold F_X8_feed
        refine e_rcv fxO ?_
        refine e_f (nI_pos (by omega)) ?_
        refine e_t (by rw [leR (by decide) (by omega)]; show c ≤ 127; omega) ?_
        refine e_ldR fxO fxR3 ?_
        refine e_ldIV ftO h1 ?_
        exact e_f (by rw [ltR (by decide) (by omega)]; show ¬ z < 60; omega) rfl
      · unfold F_X9_feed
        refine e_rcv fmO ?_
        refine g_y (m_inR (n := 127) _ (by decide)) (inr hc (by decide)) ?_
        refine e_ldIV fmO h2 ?_
        exact e_t (by rw [hf]; rfl) rfl
    · have c1 : F_X8_feed N 0 (nI c) (S m) = some (nI (z + 1), S (wI (wI m 235 z (nI c)) 234 3 (nI (z + 1)))) := by
        have k1 : rI (wI m 235 z (nI c)) 234 3 = nI z := by rw [rI_n _ _ (by omega)]; exact h1
        unfold F_X8_feed
        refine e_rcv fxO ?_
        refine e_f (nI_pos (by omega)) ?_
        refine e_t (by rw [leR (by decide) (by omega)]; show c ≤ 127; omega) ?_
        refine e_ldR fxO fxR3 ?_
        refine e_ldIV ftO h1 ?_
        refine e_t (by rw [ltR (by decide) (by omega)]; show z < 60; omega) ?_
        refine e_ldR fxO fxR3 ?_
        refine e_ldR ftO ftR2 ?_
        refine e_ldR fxO fxR3 ?_
        refine e_ldIV ftO h1 ?_
        refine e_asI ftA2 rfl (by omega) ?_
        refine e_ldR fxO fxR3 ?_
        refine e_ldIV ftO k1 ?_
        rw [addR]
        refine e_stI ftO ?_
        refine e_ldR fxO fxR3 ?_
        refine e_ldIV ftO (rI_s _ _ _ _) ?_
        rfl
      have k2 : rI (wI (wI m 235 z (nI c)) 234 3 (nI (z + 1))) 322 13 = nI z := by rw [rI_n _ _ (by omega), rI_n _ _ (by omega)]; exact h2
      have c2 : F_X9_feed N 322 (nI c) (S (wI (wI m 235 z (nI c)) 234 3 (nI (z + 1)))) = some (nI (z + 1), S (wI (wI (wI (wI m 235 z (nI c)) 234 3 (nI (z + 1))) 334 z (nI c)) 322 13 (nI (z + 1)))) := by
        have k3 : rI (wI (wI (wI m 235 z (nI c)) 234 3 (nI (z + 1))) 334 z (nI c)) 322 13 = nI z := by rw [rI_n _ _ (by omega)]; exact k2
        unfold F_X9_feed
        refine e_rcv fmO ?_
        refine g_y (m_inR (n := 127) _ (by decide)) (inr hc (by decide)) ?_
        refine e_ldIV fmO k2 ?_
        refine e_f (by rw [eqR (by decide) (by omega)]; show ¬ z = 60; omega) ?_
        refine e_ldR fmO fmR14 ?_
        refine e_ldIV fmO k2 ?_
        refine e_asI fmA14 rfl (by omega) ?_
        refine e_ldIV fmO k3 ?_
        rw [addR]
        refine e_stI fmO ?_
        refine e_ldIV fmO (rI_s _ _ _ _) ?_
        rfl
      refine ⟨_, _, _, c1, c2, hR.tape (z := z + 1) (t := fun i => if i = z then c else t i) ((((Fr.rf.sI ?_).sI ?_).sI ?_).sI ?_) ⟨by omega, ?_, rI_s _ _ _ _, fun i hi => ⟨?_, ?_, ?_⟩⟩⟩
      · exact Or.inl (by unfold tapP; omega)
      · exact Or.inl (by unfold tapP; omega)
      · exact Or.inl (by unfold tapP; omega)
      · exact Or.inl (by unfold tapP; omega)
      · rw [rI_n _ _ (by omega), rI_n _ _ (by omega), rI_s]
      · dsimp only
        by_cases w : i = z
        · rw [if_pos w]; exact hc
        · rw [if_neg w]; exact (h3 i (by omega)).1
      · rw [rI_n _ _ (by omega), rI_n _ _ (by omega), rI_n _ _ (by omega)]
        dsimp only
        by_cases w : i = z
        · rw [if_pos w, w, rI_s]
        · rw [if_neg w, rI_n _ _ (by omega)]; exact (h3 i (by omega)).2.1
      · rw [rI_n _ _ (by omega)]
        dsimp only
        by_cases w : i = z
        · rw [if_pos w, w, rI_s]
        · rw [if_neg w, rI_n _ _ (by omega), rI_n _ _ (by omega), rI_n _ _ (by omega)]; exact (h3 i (by omega)).2.2
  · refine SameI.ro (-2) hR ?_ ?_
    · unfold F_X8_feed
      refine e_rcv fxO ?_
      by_cases h0 : x < 0
      · exact e_t h0 rfl
      · refine e_f h0 ?_
        exact e_f (fun w => hx ((in_r x (n := 127) (by decide)).mp ⟨Int32.not_lt.mp h0, w⟩)) rfl
    · unfold F_X9_feed
      refine e_rcv fmO ?_
      exact g_n (m_inR (n := 127) _ (by decide)) hx rfl
/-! moved -/
theorem call_move (hN : 100 ≤ N) (hR : Rel m) (x y : Int32) : SameI (F_X8_move N 0 x y) (F_X9_move N 322 x y) m := by
  rcases rng x (n := 4) (by decide) with ⟨u, hu, rfl⟩ | hx
  · rcases rng y (n := 4) (by decide) with ⟨st, hs, rfl⟩ | hy
    · have sa := sumS hu
      -- the model's way
      have tM : ∀ (m1 : vM) (v : Int32), rI m1 330 u = v → (v = 0 ∨ v = 1) → ∃ m2, Fr (fun a j => (a = 331 ∧ j = st) ∨ ((a = 332 ∨ a = 333) ∧ 29 * st ≤ j ∧ j < 29 * st + 29)) m1 m2 ∧ rI m2 331 st = rI m1 331 u ∧ (∀ j, j < 29 → rowM m2 st j = rowM m1 u j) ∧ ∀ R, bnd (F_X9_termsIn N 322 (nI st) (S (wI m2 330 st v))) (fun v7 s => some (v7, s)) = R → F_X9_move N 322 (nI u) (nI st) (S m1) = R := by
        intro m1 v hv h01
        obtain ⟨m2, g1, g2, g3, g4⟩ := m_copy (N := N) (m := m1) (p := u) (q := st) (by omega) (by omega) hN
        refine ⟨m2, fun a j ha => ⟨by rw [g2, if_neg (by omega)], g4 a j (by omega)⟩, by rw [g2, if_pos ⟨rfl, rfl⟩], fun j hj => ?_, fun R hR' => ?_⟩
        · show (rJ m2 332 (29 * st + j), rJ m2 333 (29 * st + j)) = (rJ m1 332 (29 * u + j), rJ m1 333 (29 * u + j))
          rw [(g3 j hj).1, (g3 j hj).2]
        · unfold F_X9_move
          refine e_rcv fmO ?_
          refine g_y (m_isStoreR _) (inr hu (by decide)) ?_
          refine g_y (m_isStoreR _) (inr hs (by decide)) ?_
          refine e_bnd g1 ?_
          refine e_ldR fmO fmR9 ?_
          refine e_ldR fmO fmR9 ?_
          refine e_alZV fmA9 rfl (by omega) (show rI m2 330 u = v by rw [g2, if_neg (by omega)]; exact hv) ?_
          refine e_asZ fmA9 rfl (by omega) h01 ?_
          exact hR'
      rcases hR.2.2.1 u hu with ⟨h1, h2, h3⟩ | ⟨k, o, h⟩
      · obtain ⟨m1, d1, d2, d3, d4⟩ := c_drop (N := N) (m := m) (st := st) hN hs
        obtain ⟨m2, e1, e2, e3, e4⟩ := tM m1 0 (by rw [d2.i (by omega)]; exact h2) (Or.inl rfl)
        refine ⟨0, m1, wI m2 330 st 0, ?_, e4 _ ?_, ?_⟩
        · unfold F_X8_move
          refine e_rcv fxO ?_
          refine g_y (c_isStore _) (inr hu (by decide)) ?_
          refine g_y (c_isStore _) (inr hs (by decide)) ?_
          refine e_ldR fxO fxR8 ?_
          refine e_ldR fsO fsR0 ?_
          refine e_alZV fsA0 rfl (by omega) h1 ?_
          refine e_t rfl ?_
          refine e_ldR fxO fxR8 ?_
          exact e_bnd d1 rfl
        · refine e_bnd (r := 0) (s' := S (wI m2 330 st 0)) ?_ rfl
          unfold F_X9_termsIn
          refine e_rcv fmO ?_
          refine e_ldR fmO fmR9 ?_
          refine e_alZV fmA9 rfl (by omega) (rI_s _ _ _ _) ?_
          exact e_t rfl rfl
        · refine hR.store hs (((d2.mo (fun a j w => Or.inr (by omega))).tr (e1.mo (fun a j w => Or.inr (by omega)))).tr (Fr.rf.sI (Or.inr (by omega)))) (Or.inl ⟨?_, rI_s _ _ _ _, ?_⟩)
          · rw [rI_n _ _ (by omega), e1.i (by omega)]; exact d3
          · exact d4.same (fun b j hb => ⟨by rw [rI_n _ _ (by omega), e1.i (by omega)], by
              show rJ m2 b j = _
              rw [e1.j (by omega)]⟩)
      · obtain ⟨h1, h2, h3, h4, h5, h6⟩ := id h
        obtain ⟨m1, p1, p2, p3, p4⟩ := c_put (N := N) (m := m) hN hs sa (by omega) h4
        have f322 : Fr (fun a _ => a < 322) m m1 := p2.mo (fun a j w => by omega)
        obtain ⟨a1, a2, a3⟩ := h.keep f322
        obtain ⟨m2, e1, e2, e3, e4⟩ := tM m1 1 a1 (Or.inr rfl)
        have hrow : RowM (wI m2 330 st 1) st o := fun j hj => by
          show rowM m2 st j = o j
          rw [e3 j hj]
          exact a2 j hj
        refine ⟨nI (nt o), m1, wI m2 330 st 1, ?_, e4 _ ?_, ?_⟩
        · unfold F_X8_move
          refine e_rcv fxO ?_
          refine g_y (c_isStore _) (inr hu (by decide)) ?_
          refine g_y (c_isStore _) (inr hs (by decide)) ?_
          refine e_ldR fxO fxR8 ?_
          refine e_ldR fsO fsR0 ?_
          refine e_alZV fsA0 rfl (by omega) h1 ?_
          refine e_f (by decide) ?_
          refine e_ldR fxO fxR8 ?_
          refine e_ldR fxO fxR8 ?_
          refine e_ldR fsO fsR1 ?_
          refine e_alR shA (by decide) rfl (by omega) (shR u hu) ?_
          exact e_bnd p1 rfl
        · refine e_bnd (r := nI (nt o)) (s' := S (wI m2 330 st 1)) ?_ rfl
          unfold F_X9_termsIn
          refine e_rcv fmO ?_
          refine e_ldR fmO fmR9 ?_
          refine e_alZV fmA9 rfl (by omega) (rI_s _ _ _ _) ?_
          refine e_f (by decide) ?_
          exact e_bnd (m_ntR (by omega) hN hrow) rfl
        · refine hR.store hs (((p2.mo (fun a j w => Or.inr (by omega))).tr (e1.mo (fun a j w => Or.inr (by omega)))).tr (Fr.rf.sI (Or.inr (by omega)))) (Or.inr ⟨k, o, ?_, rI_s _ _ _ _, h3, ?_, ?_, hrow⟩)
          · rw [rI_n _ _ (by omega), e1.i (by omega)]; exact p3
          · exact p4.same (fun b j hb => ⟨by rw [rI_n _ _ (by omega), e1.i (by omega)], by
              show rJ m2 b j = _
              rw [e1.j (by omega)]⟩)
          · rw [rI_n _ _ (by omega), e2]
            exact a3
    · refine SameI.ro (-1) hR ?_ ?_
      · unfold F_X8_move
        refine e_rcv fxO ?_
        refine g_y (c_isStore _) (inr hu (by decide)) ?_
        exact g_n (c_isStore _) hy rfl
      · unfold F_X9_move
        refine e_rcv fmO ?_
        refine g_y (m_isStoreR _) (inr hu (by decide)) ?_
        exact g_n (m_isStoreR _) hy rfl
  · refine SameI.ro (-1) hR ?_ ?_
    · unfold F_X8_move
      refine e_rcv fxO ?_
      exact g_n (c_isStore _) hx rfl
    · unfold F_X9_move
      refine e_rcv fmO ?_
      exact g_n (m_isStoreR _) hx rfl
/-! counted -/
theorem sto_nums (hN : 100 ≤ N) (hR : Rel m) : ∃ hf tf : Nat → Nat, ∀ st, st < 4 → hf st < 2 ∧ tf st ≤ 29 ∧ rI m 290 st = nI (hf st) ∧ rI m 330 st = nI (hf st) ∧ F_X6_terms N (292 + 3 * st) (S m) = some (nI (tf st), S m) ∧ F_X9_termsIn N 322 (nI st) (S m) = some (nI (tf st), S m) := by
  have h : ∀ st : Nat, ∃ p : Nat × Nat, st < 4 → p.1 < 2 ∧ p.2 ≤ 29 ∧ rI m 290 st = nI p.1 ∧ rI m 330 st = nI p.1 ∧ F_X6_terms N (292 + 3 * st) (S m) = some (nI p.2, S m) ∧ F_X9_termsIn N 322 (nI st) (S m) = some (nI p.2, S m) := by
    intro st
    by_cases hs : st < 4
    · rcases hR.2.2.1 st hs with ⟨h1, h2, h3⟩ | ⟨k, o, h⟩
      · refine ⟨(0, 0), fun _ => ⟨by omega, by omega, h1, h2, ?_, ?_⟩⟩
        · rw [c_ntR (sumS hs) hN h3.2, nt_emp.mpr row0_emp]
        · unfold F_X9_termsIn
          refine e_rcv fmO ?_
          refine e_ldR fmO fmR9 ?_
          refine e_alZV fmA9 rfl (by omega) h2 ?_
          exact e_t rfl rfl
      · refine ⟨(1, nt o), fun _ => ⟨by omega, nt_le o, h.1, h.2.1, c_ntR (sumS hs) hN h.2.2.2.1.2, ?_⟩⟩
        unfold F_X9_termsIn
        refine e_rcv fmO ?_
        refine e_ldR fmO fmR9 ?_
        refine e_alZV fmA9 rfl (by omega) h.2.1 ?_
        refine e_f (by decide) ?_
        exact e_bnd (m_ntR (by omega) hN h.rowM) rfl
    · exact ⟨(0, 0), fun w => absurd w hs⟩
  obtain ⟨f, hf⟩ := Classical.axiomOfChoice h
  exact ⟨fun i => (f i).1, fun i => (f i).2, fun st hs => hf st hs⟩
theorem c_held_l {hf : Nat → Nat} (h : ∀ st, st < 4 → hf st < 2 ∧ rI m 290 st = nI (hf st)) : ∀ (d i n x : Nat), i + d = 4 → d < n → H_X5_held_4 N n 289 (nI x) (nI i) (S m) = some (nI (fld (fun i x => x + hf i) d i x), S m)
  | _, _, 0, _, _, h => by omega
  | 0, i, n + 1, x, hi, _ => by
    refine Eq.trans u_H_X5_held_4 ?_
    exact e_t (by rw [leL (by decide) (by omega)]; show 4 ≤ i; omega) rfl
  | d + 1, i, n + 1, x, hi, hd => by
    have hh := h i (by omega)
    have ih := c_held_l h d (i + 1) n (x + hf i) (by omega) (by omega)
    refine Eq.trans u_H_X5_held_4 ?_
    refine e_f (by rw [leL (by decide) (by omega)]; show ¬ 4 ≤ i; omega) ?_
    refine e_ldR fsO fsR0 ?_
    refine e_alZV fsA0 rfl (by omega) hh.2 ?_
    rcases (show hf i = 0 ∨ hf i = 1 by omega) with w | w
    · refine e_t (by rw [w]; rfl) ?_
      unfold J_X5_held_21
      refine e_nm ?_
      rw [addR, fld]
      rw [w] at ih
      show _ = some (nI (fld _ d (i + 1) (x + hf i)), S m)
      rw [w]
      exact ih
    · refine e_f (by rw [w]; decide) ?_
      refine e_nm ?_
      unfold J_X5_held_21
      refine e_nm ?_
      rw [addR, addR, fld]
      rw [w] at ih
      show _ = some (nI (fld _ d (i + 1) (x + hf i)), S m)
      rw [w]
      exact ih
theorem c_termsS_l {tf : Nat → Nat} (h : ∀ st, st < 4 → F_X6_terms N (292 + 3 * st) (S m) = some (nI (tf st), S m)) : ∀ (d i n x : Nat), i + d = 4 → d < n → H_X5_terms_4 N n 289 (nI x) (nI i) (S m) = some (nI (fld (fun i x => x + tf i) d i x), S m)
  | _, _, 0, _, _, h => by omega
  | 0, i, n + 1, x, hi, _ => by
    refine Eq.trans u_H_X5_terms_4 ?_
    exact e_t (by rw [leL (by decide) (by omega)]; show 4 ≤ i; omega) rfl
  | d + 1, i, n + 1, x, hi, hd => by
    have ih := c_termsS_l h d (i + 1) n (x + tf i) (by omega) (by omega)
    refine Eq.trans u_H_X5_terms_4 ?_
    refine e_f (by rw [leL (by decide) (by omega)]; show ¬ 4 ≤ i; omega) ?_
    refine e_ldR fsO fsR1 ?_
    refine e_alR shA (by decide) rfl (by omega) (shR i (by omega)) ?_
    refine e_bnd (h i (by omega)) ?_
    refine e_nm ?_
    refine e_nm ?_
    rw [nI_add, addR]
    exact ih
theorem m_count_l {hf tf : Nat → Nat} {w : Nat} (hw : w < 3) (h : ∀ st, st < 4 → hf st < 2 ∧ rI m 330 st = nI (hf st) ∧ F_X9_termsIn N 322 (nI st) (S m) = some (nI (tf st), S m)) {z : Nat} (h13 : rI m 322 13 = nI z) : ∀ (d i n x y : Nat), i + d = 4 → d < n → H_X9_count_18 N n 322 (nI w) (nI x) (nI y) (nI i) (S m) = some (if w = 0 then nI z else if w = 1 then nI (fld (fun i x => x + hf i) d i x) else nI (fld (fun i x => x + tf i) d i y), S m)
  | _, _, 0, _, _, _, h => by omega
  | 0, i, n + 1, x, y, hi, _ => by
    refine Eq.trans u_H_X9_count_18 ?_
    refine e_t (by rw [leL (by decide) (by omega)]; show 4 ≤ i; omega) ?_
    rcases (show w = 0 ∨ w = 1 ∨ w = 2 by omega) with rfl | rfl | rfl
    · refine e_t rfl ?_
      exact e_ldIV fmO h13 rfl
    · refine e_f (by decide) ?_
      exact e_t rfl rfl
    · refine e_f (by decide) ?_
      exact e_f (by decide) rfl
  | d + 1, i, n + 1, x, y, hi, hd => by
    have hh := h i (by omega)
    have ih := m_count_l hw h h13 d (i + 1) n (x + hf i) (y + tf i) (by omega) (by omega)
    have fin : ∀ v, v = hf i → J_X9_count_40 N (H_X9_count_18 N n) 322 (nI w) (nI y) (nI i) (nI x) (nI v) (S m) = some (if w = 0 then nI z else if w = 1 then nI (fld (fun i x => x + hf i) (d + 1) i x) else nI (fld (fun i x => x + tf i) (d + 1) i y), S m) := by
      intro v e
      unfold J_X9_count_40
      refine e_nm ?_
      refine e_bnd hh.2.2 ?_
      refine e_nm ?_
      refine e_nm ?_
      rw [nI_add, nI_add, addR, e]
      exact ih
    refine Eq.trans u_H_X9_count_18 ?_
    refine e_f (by rw [leL (by decide) (by omega)]; show ¬ 4 ≤ i; omega) ?_
    refine e_ldR fmO fmR9 ?_
    refine e_alZV fmA9 rfl (by omega) hh.2.1 ?_
    rcases (show hf i = 0 ∨ hf i = 1 by omega) with v | v
    · exact e_t (by rw [v]; rfl) (fin 0 v.symm)
    · exact e_f (by rw [v]; decide) (fin 1 v.symm)
theorem call_count (hN : 100 ≤ N) (hR : Rel m) (x : Int32) : SameI (F_X8_count N 0 x) (F_X9_count N 322 x) m := by
  obtain ⟨z, t, hz, h1, h2, h3⟩ := id hR.2.2.2.1
  rcases rng x (n := 3) (by decide) with ⟨w, hw, rfl⟩ | hx
  · obtain ⟨hf, tf, hh⟩ := sto_nums hN hR
    have hM : F_X9_count N 322 (nI w) (S m) = some (if w = 0 then nI z else if w = 1 then nI (fld (fun i x => x + hf i) 4 0 0) else nI (fld (fun i x => x + tf i) 4 0 0), S m) := by
      unfold F_X9_count
      refine e_rcv fmO ?_
      refine g_y (m_inR (n := 2) _ (by decide)) (inr hw (by decide)) ?_
      exact m_count_l hw (fun st hs => ⟨(hh st hs).1, (hh st hs).2.2.2.1, (hh st hs).2.2.2.2.2⟩) h2 4 0 N 0 0 rfl (by omega)
    rcases (show w = 0 ∨ w = 1 ∨ w = 2 by omega) with rfl | rfl | rfl
    · refine SameI.ro _ hR ?_ hM
      unfold F_X8_count
      refine e_rcv fxO ?_
      refine e_t rfl ?_
      refine e_ldR fxO fxR3 ?_
      exact e_ldIV ftO h1 rfl
    · refine SameI.ro _ hR ?_ hM
      unfold F_X8_count
      refine e_rcv fxO ?_
      refine e_f (by decide) ?_
      refine e_t rfl ?_
      refine e_ldR fxO fxR8 ?_
      refine e_bnd (r := nI (fld (fun i x => x + hf i) 4 0 0)) (s' := S m) ?_ rfl
      unfold F_X5_held
      refine e_rcv fsO ?_
      exact c_held_l (fun st hs => ⟨(hh st hs).1, (hh st hs).2.2.1⟩) 4 0 N 0 rfl (by omega)
    · refine SameI.ro _ hR ?_ hM
      unfold F_X8_count
      refine e_rcv fxO ?_
      refine e_f (by decide) ?_
      refine e_f (by decide) ?_
      refine e_t rfl ?_
      refine e_ldR fxO fxR8 ?_
      refine e_bnd (r := nI (fld (fun i x => x + tf i) 4 0 0)) (s' := S m) ?_ rfl
      unfold F_X5_terms
      refine e_rcv fsO ?_
      exact c_termsS_l (fun st hs => (hh st hs).2.2.2.2.1) 4 0 N 0 rfl (by omega)
  · refine SameI.ro (-1) hR ?_ ?_
    · unfold F_X8_count
      refine e_rcv fxO ?_
      refine e_f (fun e => hx (by rw [e]; decide)) ?_
      refine e_f (fun e => hx (by rw [e]; decide)) ?_
      exact e_f (fun e => hx (by rw [e]; decide)) rfl
    · unfold F_X9_count
      refine e_rcv fmO ?_
      exact g_n (m_inR (n := 2) _ (by decide)) hx rfl
end CALLS9
