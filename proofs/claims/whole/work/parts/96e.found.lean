section FOUND
variable {N : Nat} {m m' : vM} {s : vS}
theorem tally_rel {nn size : Nat} {r : Nat → Nat} (hN : 1000 ≤ N) (hR : Rel m) (hh : HandR m 286 5 328 nn r) (hs : size < 5) :
    ∃ m1, F_X1_tally N 1 286 (-1) (nI size) (S m) = some ((), S m1) ∧ Rel m1 ∧ HandR m1 286 5 328 nn r ∧ TaS false (fN false nn r none size) (2 ^ nn) m1 ∧ Fr (taP false) m m1 := by
  obtain ⟨m1, g1, g2, g3⟩ := c_tally (N := N) (m := m) (q := false) (root := none) (size := size) hN hR.1 hh.net rfl (fun x hx => (by cases hx)) (Nat.zero_le _) (by omega)
  have ha := adr false
  exact ⟨m1, g1, hR.fr (g2.mo (fun _ _ w => Or.inl w)) (fun a j hp => ta_pr (q := false) hp), hh.same (fun a j w => g2.i (by unfold taP; omega)), g3, g2⟩
theorem Rel.al (h : Rel m) (f : Fr alP m m') : Rel m' := h.fr f (fun a j ha => al_pr ha)
theorem ngone {y : Int32} (h1 : -1 ≤ y) (h2 : y ≠ -1) : ¬ y < 0 := by
  intro w
  apply h2
  apply Int32.toInt_inj.mp
  rw [Int32.le_iff_toInt_le] at h1
  rw [Int32.lt_iff_toInt_lt] at w
  have a1 : ((-1 : Int32)).toInt = -1 := by decide
  have a2 : ((0 : Int32)).toInt = 0 := by decide
  omega
theorem call_found (hN : 1000 ≤ N) (hR : Rel m) (x y : Int32) : SameI (F_X8_found N 0 x y) (F_X9_found N 322 x y) m := by
  obtain ⟨hT, ⟨nn, r, hh⟩, -⟩ := id hR
  have hN8 := hh.1
  rcases rng x (n := 5) (by decide) with ⟨size, hs, rfl⟩ | hx
  · by_cases hy : -1 ≤ y
    · by_cases hsn : size ≤ nn
      · obtain ⟨m1, g1, hR1, hh1, t1, f1⟩ := tally_rel hN hR hh hs
        obtain ⟨m2, j1, j2, -, j3⟩ := m_foundAll (N := N) hN hR1.1 hh1.mod hh.2.1 (show size ≤ 4 by omega)
        have hle : (fcm (fN false nn r none size) (2 ^ nn)).1 ≤ 11 := fcm_le (nn := nn) (r := r) (q := false) (root := none) (Nat.zero_le size) (show size ≤ 4 by omega) (2 ^ nn)
        have t12 : rI m1 1 12 = nI (fcm (fN false nn r none size) (2 ^ nn)).1 := t1.2.1
        have startC : ∀ R, (bnd (F_X1_tally N 1 286 (-1) (nI size) (S m)) (fun v7 s => if y = -1 then (ldR s 0 8 0 (fun r13 => ldI s r13 1 12 (fun v14 => some (v14, s)))) else (ldR s 0 8 0 (fun r8 => ldI s r8 1 12 (fun v9 => if v9 ≤ y then (J_X8_found_83 N (-5) s) else (ldR s 0 8 0 (fun r10 => ldR s r10 1 11 (fun r11 => alI s r11 y (fun v12 => J_X8_found_83 N v12 s))))))))) = R → F_X8_found N 0 (nI size) y (S m) = R := fun R hR' => by
          unfold F_X8_found
          refine e_rcv fxO ?_
          refine e_ldR fxO fxR0 ?_
          refine g_y (c_sizeR hT _) (inr hs (by decide)) ?_
          refine e_t hy ?_
          refine e_ldR fxO fxR7 ?_
          refine e_ldIV net286.o hh.net.1 ?_
          refine e_t ((nI_leI (by omega) (by omega)).mpr hsn) ?_
          refine e_ldR fxO fxR0 ?_
          refine e_ldR fxO fxR7 ?_
          exact hR'
        have startM : ∀ R, (if y = -1 then (J_X9_found_58 N (nI (fcm (fN false nn r none size) (2 ^ nn)).1) (S m2)) else (if (nI (fcm (fN false nn r none size) (2 ^ nn)).1) ≤ y then (J_X9_found_58 N (-5) (S m2)) else (ldR (S m2) 322 9 28 (fun r4 => alI (S m2) r4 y (fun v5 => J_X9_found_58 N v5 (S m2)))))) = R → F_X9_found N 322 (nI size) y (S m1) = R := fun R hR' => by
          unfold F_X9_found
          refine e_rcv fmO ?_
          refine g_y (m_inR (n := 4) _ (by decide)) (inr hs (by decide)) ?_
          refine e_t hy ?_
          refine e_ldIV fmO hh1.mod.1 ?_
          refine e_t ((nI_leI (by omega) (by omega)).mpr hsn) ?_
          refine e_bnd j1 ?_
          exact hR'
        by_cases h1 : y = -1
        · refine ⟨nI (fcm (fN false nn r none size) (2 ^ nn)).1, m1, m2, startC _ ?_, startM _ ?_, hR1.al j2⟩
          · refine e_bnd g1 ?_
            refine e_t h1 ?_
            refine e_ldR fxO fxR0 ?_
            exact e_ldIV ffO t12 rfl
          · exact e_t h1 rfl
        · have h0 := ngone hy h1
          rcases pk_ix y (n := (fcm (fN false nn r none size) (2 ^ nn)).1) (by omega) with h | h | ⟨j, hj, rfl⟩
          · exact absurd h h0
          · refine ⟨-5, m1, m2, startC _ ?_, startM _ ?_, hR1.al j2⟩
            · refine e_bnd g1 ?_
              refine e_f h1 ?_
              refine e_ldR fxO fxR0 ?_
              refine e_ldIV ffO t12 ?_
              exact e_t h rfl
            · refine e_f h1 ?_
              exact e_t h rfl
          · refine ⟨nI ((fcm (fN false nn r none size) (2 ^ nn)).2 j), m1, m2, startC _ ?_, startM _ ?_, hR1.al j2⟩
            · refine e_bnd g1 ?_
              refine e_f h1 ?_
              refine e_ldR fxO fxR0 ?_
              refine e_ldIV ffO t12 ?_
              refine e_f (by rw [nI_leI (by omega) (by omega)]; omega) ?_
              refine e_ldR fxO fxR0 ?_
              refine e_ldR ffO ffR11 ?_
              exact e_alIV ffA11 rfl (by omega) (t1.2.2 j hj) rfl
            · refine e_f h1 ?_
              refine e_f (by rw [nI_leI (by omega) (by omega)]; omega) ?_
              refine e_ldR fmO fmR28 ?_
              exact e_alIV fmA28 rfl (by omega) (j3 j hj) rfl
      · refine SameI.ro (-3) hR ?_ ?_
        · unfold F_X8_found
          refine e_rcv fxO ?_
          refine e_ldR fxO fxR0 ?_
          refine g_y (c_sizeR hT _) (inr hs (by decide)) ?_
          refine e_t hy ?_
          refine e_ldR fxO fxR7 ?_
          refine e_ldIV net286.o hh.net.1 ?_
          exact e_f (fun w => hsn ((nI_leI (by omega) (by omega)).mp w)) rfl
        · unfold F_X9_found
          refine e_rcv fmO ?_
          refine g_y (m_inR (n := 4) _ (by decide)) (inr hs (by decide)) ?_
          refine e_t hy ?_
          refine e_ldIV fmO hh.mod.1 ?_
          exact e_f (fun w => hsn ((nI_leI (by omega) (by omega)).mp w)) rfl
    · refine SameI.ro (-1) hR ?_ ?_
      · unfold F_X8_found
        refine e_rcv fxO ?_
        refine e_ldR fxO fxR0 ?_
        refine g_y (c_sizeR hT _) (inr hs (by decide)) ?_
        exact e_f hy rfl
      · unfold F_X9_found
        refine e_rcv fmO ?_
        refine g_y (m_inR (n := 4) _ (by decide)) (inr hs (by decide)) ?_
        exact e_f hy rfl
  · refine SameI.ro (-1) hR ?_ ?_
    · unfold F_X8_found
      refine e_rcv fxO ?_
      refine e_ldR fxO fxR0 ?_
      exact g_n (c_sizeR hT _) hx rfl
    · unfold F_X9_found
      refine e_rcv fmO ?_
      exact g_n (m_inR (n := 4) _ (by decide)) hx rfl
theorem c_manyOf {size : Nat} (hT : Tab m) (hs : size < 5) : F_X1_manyOf N 1 (nI size) (S m) = some (nI (fs_ false (size + 1) - fs_ false size), S m) := by
  unfold F_X1_manyOf
  refine e_rcv ffO ?_
  refine g_y (c_sizeR hT _) (inr hs (by decide)) ?_
  refine e_ldR ffO ffR6 ?_
  refine e_alIV ffA6 (show nI size + 1 = nI (size + 1) by rw [addR]) (by omega) (hT.2.2.2.1 false (size + 1) (by omega)) ?_
  refine e_ldR ffO ffR6 ?_
  refine e_alIV ffA6 rfl (by omega) (hT.2.2.2.1 false size (by omega)) ?_
  rw [nI_subN (fs5 size hs).1]
  rfl
theorem call_rank (hN : 1000 ≤ N) (hR : Rel m) (x y : Int32) : SameI (F_X8_rank N 0 x y) (F_X9_rank N 322 x y) m := by
  obtain ⟨hT, ⟨nn, r, hh⟩, -⟩ := id hR
  have hN8 := hh.1
  rcases rng x (n := 5) (by decide) with ⟨size, hs, rfl⟩ | hx
  · obtain ⟨q1, q2, -, q4⟩ := fs5 size hs
    have ct : ∀ (m : vM) (z : Int32), Tab m → H_X9_rank_20 N N 322 (nI size) z 0 0 (S m) = H_X9_rank_20 N (N - 19 - 1 + 1) 322 (nI size) z (nI (fs_ false (size + 1) - fs_ false size)) (nI 19) (S m) := fun m z hT => by
      have := m_rk_c (N := N) (m := m) (y := z) hT hs 19 0 N (by omega) (by omega)
      rw [q4] at this
      rw [show N - 19 - 1 + 1 = N - 19 by omega]
      exact this
    have le19 : (19 : Int32) ≤ nI 19 := by decide
    by_cases hy0 : y < 0
    · refine SameI.ro (-1) hR ?_ ?_
      · unfold F_X8_rank
        refine e_rcv fxO ?_
        refine e_ldR fxO fxR0 ?_
        refine g_y (c_sizeR hT _) (inr hs (by decide)) ?_
        exact e_t hy0 rfl
      · unfold F_X9_rank
        refine e_rcv fmO ?_
        refine g_y (m_inR (n := 4) _ (by decide)) (inr hs (by decide)) ?_
        exact e_f (fun w => absurd hy0 (Int32.not_lt.mpr w)) rfl
    · rcases pk_ix y (n := fs_ false (size + 1) - fs_ false size) (by omega) with h | h | ⟨j, hj, rfl⟩
      · exact absurd h hy0
      · refine SameI.ro (-1) hR ?_ ?_
        · unfold F_X8_rank
          refine e_rcv fxO ?_
          refine e_ldR fxO fxR0 ?_
          refine g_y (c_sizeR hT _) (inr hs (by decide)) ?_
          refine e_f hy0 ?_
          refine e_ldR fxO fxR0 ?_
          refine e_bnd (c_manyOf hT hs) ?_
          exact e_f (Int32.not_lt.mpr h) rfl
        · unfold F_X9_rank
          refine e_rcv fmO ?_
          refine g_y (m_inR (n := 4) _ (by decide)) (inr hs (by decide)) ?_
          refine e_t (Int32.not_lt.mp hy0) ?_
          refine Eq.trans (ct m y hT) ?_
          refine Eq.trans u_H_X9_rank_20 ?_
          refine e_t le19 ?_
          exact e_f (Int32.not_lt.mpr h) rfl
      · by_cases hsn : size ≤ nn
        · obtain ⟨m1, g1, hR1, hh1, t1, f1⟩ := tally_rel hN hR hh hs
          obtain ⟨m2, j1, j2, j3⟩ := m_countAll (N := N) hN hR1.1 hh1.mod hh.2.1 (show size ≤ 4 by omega)
          have hT2 := (hR1.al j2).1
          have h8 : (2 : Nat) ^ nn ≤ 2 ^ 8 := Nat.pow_le_pow_right (by decide) hN8
          have tb : ∀ k, tl (fN false nn r none size) k (2 ^ nn) < 1000 := fun k => by
            have := tl_le (fN false nn r none size) k (2 ^ nn)
            omega
          obtain ⟨v1, a1, a2⟩ := c_rk_l (N := N) (m := m1) (t := fun k => tl (fN false nn r none size) k (2 ^ nn)) (y := j) (by omega) hs hR1.1 (fun k hk => ⟨t1.1 k hk, tb k⟩) (by omega) (fs_ false (size + 1) - fs_ false size) (fs_ false size) N (by omega) (by omega) (by omega) (fun k' h1 h2 => by
            have := ((fs5 size hs).2.2.1 k' (by omega)).mpr h2
            omega)
          obtain ⟨v2, b1, b2'⟩ := m_rk_l (N := N) (m := m2) (t := fun k => tl (fN false nn r none size) k (2 ^ nn)) (y := j) (by omega) hT2 hs (fun k hk => ⟨j3 k hk, tb k⟩) (by omega) 19 0 N (-1) (by omega) (by omega) (Or.inr ⟨rfl, fun k h => absurd h (Nat.not_lt_zero _)⟩)
          rw [← Rk_u a2 b2'] at b1
          refine ⟨v1, m1, m2, ?_, ?_, hR1.al j2⟩
          · unfold F_X8_rank
            refine e_rcv fxO ?_
            refine e_ldR fxO fxR0 ?_
            refine g_y (c_sizeR hT _) (inr hs (by decide)) ?_
            refine e_f hy0 ?_
            refine e_ldR fxO fxR0 ?_
            refine e_bnd (c_manyOf hT hs) ?_
            refine e_t (nI_lt hj (by omega)) ?_
            refine e_ldR fxO fxR7 ?_
            refine e_ldIV net286.o hh.net.1 ?_
            refine e_t ((nI_leI (by omega) (by omega)).mpr hsn) ?_
            refine e_ldR fxO fxR0 ?_
            refine e_ldR fxO fxR7 ?_
            refine e_bnd g1 ?_
            refine e_ldR fxO fxR0 ?_
            refine e_bnd ?_ rfl
            unfold F_X1_ranked
            refine e_rcv ffO ?_
            refine e_ldR ffO ffR6 ?_
            refine e_alIV ffA6 rfl (by omega) (hR1.1.2.2.2.1 false size (by omega)) ?_
            exact a1
          · unfold F_X9_rank
            refine e_rcv fmO ?_
            refine g_y (m_inR (n := 4) _ (by decide)) (inr hs (by decide)) ?_
            refine e_t (nI_pos' (by omega)) ?_
            refine Eq.trans (ct m1 (nI j) hR1.1) ?_
            refine Eq.trans u_H_X9_rank_20 ?_
            refine e_t le19 ?_
            refine e_t (nI_lt hj (by omega)) ?_
            refine e_ldIV fmO hh1.mod.1 ?_
            refine e_t ((nI_leI (by omega) (by omega)).mpr hsn) ?_
            refine e_bnd j1 ?_
            exact b1
        · refine SameI.ro (-3) hR ?_ ?_
          · unfold F_X8_rank
            refine e_rcv fxO ?_
            refine e_ldR fxO fxR0 ?_
            refine g_y (c_sizeR hT _) (inr hs (by decide)) ?_
            refine e_f hy0 ?_
            refine e_ldR fxO fxR0 ?_
            refine e_bnd (c_manyOf hT hs) ?_
            refine e_t (nI_lt hj (by omega)) ?_
            refine e_ldR fxO fxR7 ?_
            refine e_ldIV net286.o hh.net.1 ?_
            exact e_f (fun w => hsn ((nI_leI (by omega) (by omega)).mp w)) rfl
          · unfold F_X9_rank
            refine e_rcv fmO ?_
            refine g_y (m_inR (n := 4) _ (by decide)) (inr hs (by decide)) ?_
            refine e_t (nI_pos' (by omega)) ?_
            refine Eq.trans (ct m (nI j) hT) ?_
            refine Eq.trans u_H_X9_rank_20 ?_
            refine e_t le19 ?_
            refine e_t (nI_lt hj (by omega)) ?_
            refine e_ldIV fmO hh.mod.1 ?_
            exact e_f (fun w => hsn ((nI_leI (by omega) (by omega)).mp w)) rfl
  · refine SameI.ro (-1) hR ?_ ?_
    · unfold F_X8_rank
      refine e_rcv fxO ?_
      refine e_ldR fxO fxR0 ?_
      exact g_n (c_sizeR hT _) hx rfl
    · unfold F_X9_rank
      refine e_rcv fmO ?_
      exact g_n (m_inR (n := 4) _ (by decide)) hx rfl
end FOUND
