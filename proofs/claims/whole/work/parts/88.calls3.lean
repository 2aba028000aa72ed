section CALLS3
variable {N : Nat} {m m' : vM} {s : vS}
theorem row0c : ∀ k, k < 29 → rowT true k 0 < 256 := by decide +kernel
theorem rt_ms {a j : Nat} (h : rtP a j) : msP a j := by
  unfold rtP lkP at h
  unfold msP
  omega
theorem call_rooted (hN : 1000 ≤ N) (hR : Rel m) (x y : Int32) : SameI (F_X8_rooted N 0 x y) (F_X9_rooted N 322 x y) m := by
  obtain ⟨hT, -⟩ := id hR
  by_cases hx : (0 : Int32) ≤ x ∧ x < nI 29
  · rcases rng x (n := 29) (by decide) with ⟨k, hk, rfl⟩ | h
    · rcases rng y (n := 5) (by decide) with ⟨w, hw, rfl⟩ | hy
      · have z := szc true k hk
        have t := hT.2.1 true k hk
        have tb := hT.2.2.2.2.2.2.1 k hk
        have startC : ∀ R, (if nI w = 0 then ldR (S m) 0 8 1 (fun r18 => ldR (S m) r18 1 3 (fun r19 => alI (S m) r19 (nI k) (fun v20 => some (v20, S m)))) else (if nI w = 1 then ldR (S m) 0 8 1 (fun r15 => ldR (S m) r15 1 4 (fun r16 => alI (S m) r16 (nI k) (fun v17 => some (v17, S m)))) else (if nI w = 2 then ldR (S m) 0 8 1 (fun r9 => ldR (S m) r9 1 5 (fun r10 => alR (S m) r10 4 (nI k) (fun r11 => ldR (S m) r11 3 1 (fun r12 => alI (S m) r12 0 (fun v13 => bnd (F_J6_bitCount_0f7a4 N v13 (S m)) (fun v14 s => some (v14, s))))))) else (if nI w = 3 then ldR (S m) 0 8 2 (fun r6 => ldR (S m) r6 0 2 (fun r7 => alI (S m) r7 (nI k) (fun v8 => some (v8, S m)))) else ldR (S m) 0 8 2 (fun r3 => ldR (S m) r3 0 3 (fun r4 => alI (S m) r4 (nI k) (fun v5 => some (v5, S m)))))))) = R → F_X8_rooted N 0 (nI k) (nI w) (S m) = R := by
          intro R h
          unfold F_X8_rooted
          refine e_rcv fxO ?_
          refine e_ldR fxO fxR1 ?_
          refine g_y (c_famHas (q := true) hT _) hx ?_
          refine e_f (nI_pos (by omega)) ?_
          refine e_t (by rw [leR (by decide) (by omega)]; show w ≤ 4; omega) ?_
          exact h
        have startM : ∀ R, (if nI w = 0 then ldR (S m) 322 9 0 (fun r15 => alI (S m) r15 (19 + nI k) (fun v16 => some (v16, S m))) else (if nI w = 1 then ldR (S m) 322 9 1 (fun r13 => alI (S m) r13 (19 + nI k) (fun v14 => some (v14, S m))) else (if nI w = 2 then ldR (S m) 322 9 0 (fun r5 => alI (S m) r5 (19 + nI k) (fun v6 => ldR (S m) 322 9 1 (fun r7 => alI (S m) r7 (19 + nI k) (fun v8 => bnd (F_X9_lookInto N 322 v6 v8 (S m)) (fun _ s => ldR s 322 9 8 (fun r10 => alI s r10 0 (fun v11 => bnd (F_X9_ones N v11 s) (fun v12 s => some (v12, s))))))))) else (if nI w = 3 then bnd (F_X9_plainOf N 322 (nI k) (S m)) (fun v4 s => some (v4, s)) else bnd (F_X9_rootsOf N 322 (nI k) (S m)) (fun v3 s => some (v3, s)))))) = R → F_X9_rooted N 322 (nI k) (nI w) (S m) = R := by
          intro R h
          unfold F_X9_rooted
          refine e_rcv fmO ?_
          refine g_y (m_isRootedR _) hx ?_
          refine g_y (m_inR (n := 4) _ (by decide)) (inr hw (by decide)) ?_
          exact h
        rcases (show w = 0 ∨ w = 1 ∨ w = 2 ∨ w = 3 ∨ w = 4 by omega) with rfl | rfl | rfl | rfl | rfl
        · refine SameI.ro (nI (sz_ true k)) hR (startC _ ?_) (startM _ ?_)
          · refine e_t rfl ?_
            refine e_ldR fxO fxR1 ?_
            refine e_ldR frO frR3 ?_
            exact e_alIV frA3 rfl (by omega) t.1 rfl
          · refine e_t rfl ?_
            refine e_ldR fmO fmR0 ?_
            exact e_alIV fmA0 (nI19 k) (by omega) (tabR hT hk).1 rfl
        · refine SameI.ro (nI (cd_ true k)) hR (startC _ ?_) (startM _ ?_)
          · refine e_f (by decide) ?_
            refine e_t rfl ?_
            refine e_ldR fxO fxR1 ?_
            refine e_ldR frO frR4 ?_
            exact e_alIV frA4 rfl (by omega) t.2.1 rfl
          · refine e_f (by decide) ?_
            refine e_t rfl ?_
            refine e_ldR fmO fmR1 ?_
            exact e_alIV fmA1 (nI19 k) (by omega) (tabR hT hk).2 rfl
        · obtain ⟨m1, l1, l2, l3⟩ := m_lookInto (N := N) (m := m) (size := sz_ true k) (code := cd_ true k) (by omega) z.1 z.2.2.2.1
          have hne := netF (q := true) hk
          have z1 : 1 ≤ sz_ true k := z.2.1
          have hr0 := row0c k hk
          have hc0 := (t.2.2.1.2.2 0 (by omega)).1
          have hl0 := (l3.2.2 0 (by omega)).1
          refine ⟨nI (pop (rowT true k 0)), m, m1, startC _ ?_, startM _ ?_, hR.ms (l2.mo (fun _ _ => lk_ms))⟩
          · refine e_f (by decide) ?_
            refine e_f (by decide) ?_
            refine e_t rfl ?_
            refine e_ldR fxO fxR1 ?_
            refine e_ldR frO frR5 ?_
            refine e_alR (gNs (q := true)) (by decide) rfl (by show k < 29 ∧ 29 < 2 ^ 31; omega) (gNsR true k hk) ?_
            refine e_ldR hne.o hne.r1 ?_
            refine e_alIV (j := 0) hne.a1 rfl (by omega) hc0 ?_
            refine e_bnd (c_bits hr0) ?_
            rfl
          · refine e_f (by decide) ?_
            refine e_f (by decide) ?_
            refine e_t rfl ?_
            refine e_ldR fmO fmR0 ?_
            refine e_alIV fmA0 (nI19 k) (by omega) (tabR hT hk).1 ?_
            refine e_ldR fmO fmR1 ?_
            refine e_alIV fmA1 (nI19 k) (by omega) (tabR hT hk).2 ?_
            refine e_bnd l1 ?_
            refine e_ldR fmO fmR8 ?_
            refine e_alIV (j := 0) fmA8 rfl (by omega) hl0 ?_
            refine e_bnd (m_ones (by have : rowOf (sz_ true k) (cd_ true k) 0 < 256 := hr0; omega) (by omega)) ?_
            rfl
        · refine SameI.ro (nI (ba_ k)) hR (startC _ ?_) (startM _ ?_)
          · refine e_f (by decide) ?_
            refine e_f (by decide) ?_
            refine e_f (by decide) ?_
            refine e_t rfl ?_
            refine e_ldR fxO fxR2 ?_
            refine e_ldR faO faR2 ?_
            exact e_alIV faA2 rfl (by omega) tb.1 rfl
          · refine e_f (by decide) ?_
            refine e_f (by decide) ?_
            refine e_f (by decide) ?_
            refine e_t rfl ?_
            exact e_bnd (m_plainOf hT hk) rfl
        · obtain ⟨m1, l1, l2⟩ := m_rootsOf (N := N) (m := m) hN hT hk
          refine ⟨nI (wy_ k), m, m1, startC _ ?_, startM _ ?_, hR.ms (l2.mo (fun _ _ => rt_ms))⟩
          · refine e_f (by decide) ?_
            refine e_f (by decide) ?_
            refine e_f (by decide) ?_
            refine e_f (by decide) ?_
            refine e_ldR fxO fxR2 ?_
            refine e_ldR faO faR3 ?_
            exact e_alIV faA3 rfl (by omega) tb.2 rfl
          · refine e_f (by decide) ?_
            refine e_f (by decide) ?_
            refine e_f (by decide) ?_
            refine e_f (by decide) ?_
            exact e_bnd l1 rfl
      · refine SameI.ro (-1) hR ?_ ?_
        · unfold F_X8_rooted
          refine e_rcv fxO ?_
          refine e_ldR fxO fxR1 ?_
          refine g_y (c_famHas (q := true) hT _) hx ?_
          by_cases h0 : y < 0
          · exact e_t h0 rfl
          · refine e_f h0 ?_
            exact e_f (fun w => hy ((in_r y (n := 4) (by decide)).mp ⟨Int32.not_lt.mp h0, w⟩)) rfl
        · unfold F_X9_rooted
          refine e_rcv fmO ?_
          refine g_y (m_isRootedR _) hx ?_
          exact g_n (m_inR (n := 4) _ (by decide)) hy rfl
    · exact absurd hx h
  · refine SameI.ro (-1) hR ?_ ?_
    · unfold F_X8_rooted
      refine e_rcv fxO ?_
      refine e_ldR fxO fxR1 ?_
      exact g_n (c_famHas (q := true) hT _) hx rfl
    · unfold F_X9_rooted
      refine e_rcv fmO ?_
      exact g_n (m_isRootedR _) hx rfl
theorem ta_pr {q : Bool} {a j : Nat} (h : prP a j) : ¬ (taP q a j ∨ a = 282) := by
  have ha := adr q
  unfold prP tabP hanP stoP tapP imgP at h
  unfold taP
  omega
theorem call_share (hN : 1000 ≤ N) (hR : Rel m) (x y : Int32) : SameJ (F_X8_share N 0 x y) (F_X9_share N 322 x y) m := by
  obtain ⟨hT, ⟨nn, r, hh⟩, -⟩ := id hR
  have hN8 := hh.1
  have no : (¬ ((0 : Int32) ≤ x ∧ x < nI 19) ∨ ¬ ((0 : Int32) ≤ y ∧ y < nI 2)) → SameJ (F_X8_share N 0 x y) (F_X9_share N 322 x y) m := by
    intro h
    refine SameJ.ro (-9223372036854775808) hR ?_ ?_
    · unfold F_X8_share
      refine e_rcv fxO ?_
      refine e_ldR fxO fxR0 ?_
      by_cases h1 : (0 : Int32) ≤ x ∧ x < nI 19
      · refine g_y (c_famHas (q := false) hT _) h1 ?_
        exact g_n (c_isPart _) (h.elim (fun w => absurd h1 w) id) rfl
      · exact g_n (c_famHas (q := false) hT _) h1 rfl
    · unfold F_X9_share
      refine e_rcv fmO ?_
      by_cases h1 : (0 : Int32) ≤ x ∧ x < nI 19
      · refine g_y (m_isFlagR _) h1 ?_
        exact g_n (m_inR (n := 1) _ (by decide)) (h.elim (fun w => absurd h1 w) id) rfl
      · exact g_n (m_isFlagR _) h1 rfl
  rcases rng x (n := 19) (by decide) with ⟨k, hk, rfl⟩ | h
  · rcases rng y (n := 2) (by decide) with ⟨p, hp, rfl⟩ | h
    · have z := szc false k hk
      by_cases hs : sz_ false k ≤ nn
      · obtain ⟨m1, c1, c2⟩ := c_shareOf (N := N) (m := m) (q := false) (nn := nn) (k := k) (f := 282) (r := r) (root := none) hN hT hh.net rfl (fun x hx => by cases hx) hk hs frac282
        have fc : Fr (fun a j => taP false a j ∨ a = 282) m (wF m1 282 (shr_ false nn r none (sz_ false k) k)) := (c2.mo (fun _ _ w => Or.inl w)).tr (Fr_wF.mo (fun _ _ w => Or.inr w))
        have hR1 := hR.fr fc (fun a j ha => ta_pr ha)
        obtain ⟨hT1, -⟩ := id hR1
        have hh1 : HandM (wF m1 282 (shr_ false nn r none (sz_ false k) k)) nn r := by
          obtain ⟨a1, a2, a3⟩ := hh.mod
          exact ⟨by rw [fc.i (by unfold taP; have := adr false; omega)]; exact a1, a2, fun i hi => by rw [fc.i (by unfold taP; have := adr false; omega)]; exact a3 i hi⟩
        obtain ⟨m2, l1, l2, l3⟩ := m_lookInHand (N := N) (by omega) hh1
        have hT2 : Tab m2 := hT1.fr (fun b j hb => l2 b j (by unfold tabP at hb; unfold lkP; omega))
        obtain ⟨m3, j1, j2⟩ := m_insideOf (N := N) (m := m2) (q := false) (k := k) (size := sz_ false k) (root := none) hN hT2 l3 hh.2.1 rfl (fun x hx => by cases hx) z.2.1 z.1 hs hk
        refine ⟨if p = 0 then (shr_ false nn r none (sz_ false k) k).1 else (shr_ false nn r none (sz_ false k) k).2, wF m1 282 (shr_ false nn r none (sz_ false k) k), wA m3 (shr_ false nn r none (sz_ false k) k), ?_, ?_, hR1.ms (((l2.mo (fun _ _ => lk_ms)).tr (j2.mo (fun b j (w : b = 340) => Or.inr (Or.inr (Or.inl w))))).tr wA_ms)⟩
        · unfold F_X8_share
          refine e_rcv fxO ?_
          refine e_ldR fxO fxR0 ?_
          refine g_y (c_famHas (q := false) hT _) (inr hk (by decide)) ?_
          refine g_y (c_isPart _) (inr hp (by decide)) ?_
          refine e_ldR fxO fxR7 ?_
          refine e_ldIV net286.o hh.net.1 ?_
          refine e_ldR fxO fxR0 ?_
          refine e_ldR ffO ffR3 ?_
          refine e_alIV ffA3 rfl (by omega) (hT.2.1 false k hk).1 ?_
          refine e_t ((nI_leI (by omega) (by omega)).mpr hs) ?_
          refine e_ldR fxO fxR0 ?_
          refine e_ldR fxO fxR7 ?_
          refine e_ldR fxO fxR5 ?_
          refine e_bnd c1 ?_
          refine e_ldR fxO fxR5 ?_
          exact e_bnd (c_part frac282 hp wF0 wF1) rfl
        · unfold F_X9_share
          refine e_rcv fmO ?_
          refine g_y (m_isFlagR _) (inr hk (by decide)) ?_
          refine g_y (m_inR (n := 1) _ (by decide)) (inr hp (by decide)) ?_
          refine e_ldR fmO fmR0 ?_
          refine e_alIV fmA0 rfl (by omega) (tabF hT1 hk).1 ?_
          refine e_ldIV fmO hh1.1 ?_
          refine e_t ((nI_leI (by omega) (by omega)).mpr hs) ?_
          refine e_bnd l1 ?_
          refine e_ldR fmO fmR0 ?_
          refine e_alIV fmA0 rfl (by omega) (tabF hT2 hk).1 ?_
          refine e_bnd j1 ?_
          exact e_bnd (m_part hp wA_1 wA_2) rfl
      · refine SameJ.ro (-9223372036854775808) hR ?_ ?_
        · unfold F_X8_share
          refine e_rcv fxO ?_
          refine e_ldR fxO fxR0 ?_
          refine g_y (c_famHas (q := false) hT _) (inr hk (by decide)) ?_
          refine g_y (c_isPart _) (inr hp (by decide)) ?_
          refine e_ldR fxO fxR7 ?_
          refine e_ldIV net286.o hh.net.1 ?_
          refine e_ldR fxO fxR0 ?_
          refine e_ldR ffO ffR3 ?_
          refine e_alIV ffA3 rfl (by omega) (hT.2.1 false k hk).1 ?_
          exact e_f (fun w => hs ((nI_leI (by omega) (by omega)).mp w)) rfl
        · unfold F_X9_share
          refine e_rcv fmO ?_
          refine g_y (m_isFlagR _) (inr hk (by decide)) ?_
          refine g_y (m_inR (n := 1) _ (by decide)) (inr hp (by decide)) ?_
          refine e_ldR fmO fmR0 ?_
          refine e_alIV fmA0 rfl (by omega) (tabF hT hk).1 ?_
          refine e_ldIV fmO hh.mod.1 ?_
          exact e_f (fun w => hs ((nI_leI (by omega) (by omega)).mp w)) rfl
    · exact no (Or.inr h)
  · exact no (Or.inl h)
theorem call_shareAt (hN : 1000 ≤ N) (hR : Rel m) (v x y : Int32) : SameJ (F_X8_shareAt N 0 v x y) (F_X9_shareAt N 322 v x y) m := by
  obtain ⟨hT, ⟨nn, r, hh⟩, -⟩ := id hR
  have hN8 := hh.1
  have no : (¬ ((0 : Int32) ≤ v ∧ v < nI nn) ∨ ¬ ((0 : Int32) ≤ x ∧ x < nI 29) ∨ ¬ ((0 : Int32) ≤ y ∧ y < nI 2)) → SameJ (F_X8_shareAt N 0 v x y) (F_X9_shareAt N 322 v x y) m := by
    intro h
    refine SameJ.ro (-9223372036854775808) hR ?_ ?_
    · unfold F_X8_shareAt
      refine e_rcv fxO ?_
      refine e_ldR fxO fxR7 ?_
      by_cases h0 : (0 : Int32) ≤ v ∧ v < nI nn
      · refine g_y (c_hasH net286 hh.net.1 _) h0 ?_
        refine e_ldR fxO fxR1 ?_
        by_cases h1 : (0 : Int32) ≤ x ∧ x < nI 29
        · refine g_y (c_famHas (q := true) hT _) h1 ?_
          exact g_n (c_isPart _) (h.elim (fun w => absurd h0 w) (fun h => h.elim (fun w => absurd h1 w) id)) rfl
        · exact g_n (c_famHas (q := true) hT _) h1 rfl
      · exact g_n (c_hasH net286 hh.net.1 _) h0 rfl
    · unfold F_X9_shareAt
      refine e_rcv fmO ?_
      by_cases h0 : (0 : Int32) ≤ v ∧ v < nI nn
      · refine g_y (m_isPoint hh.mod.1 hN8 _) h0 ?_
        by_cases h1 : (0 : Int32) ≤ x ∧ x < nI 29
        · refine g_y (m_isRootedR _) h1 ?_
          exact g_n (m_inR (n := 1) _ (by decide)) (h.elim (fun w => absurd h0 w) (fun h => h.elim (fun w => absurd h1 w) id)) rfl
        · exact g_n (m_isRootedR _) h1 rfl
      · exact g_n (m_isPoint hh.mod.1 hN8 _) h0 rfl
  rcases rng v (n := nn) (by omega) with ⟨u, hu, rfl⟩ | h
  · rcases rng x (n := 29) (by decide) with ⟨k, hk, rfl⟩ | h
    · rcases rng y (n := 2) (by decide) with ⟨p, hp, rfl⟩ | h
      · have z := szc true k hk
        have hroot : ∀ x, some u = some x → x < nn := fun x hx => by cases hx; exact hu
        by_cases hs : sz_ true k ≤ nn
        · obtain ⟨m1, c1, c2⟩ := c_shareOf (N := N) (m := m) (q := true) (nn := nn) (k := k) (f := 282) (r := r) (root := some u) hN hT hh.net rfl hroot hk hs frac282
          have fc : Fr (fun a j => taP true a j ∨ a = 282) m (wF m1 282 (shr_ true nn r (some u) (sz_ true k) k)) := (c2.mo (fun _ _ w => Or.inl w)).tr (Fr_wF.mo (fun _ _ w => Or.inr w))
          have hR1 := hR.fr fc (fun a j ha => ta_pr ha)
          obtain ⟨hT1, -⟩ := id hR1
          have hh1 : HandM (wF m1 282 (shr_ true nn r (some u) (sz_ true k) k)) nn r := by
            obtain ⟨a1, a2, a3⟩ := hh.mod
            exact ⟨by rw [fc.i (by unfold taP; have := adr true; omega)]; exact a1, a2, fun i hi => by rw [fc.i (by unfold taP; have := adr true; omega)]; exact a3 i hi⟩
          obtain ⟨m2, l1, l2, l3⟩ := m_lookInHand (N := N) (by omega) hh1
          have hT2 : Tab m2 := hT1.fr (fun b j hb => l2 b j (by unfold tabP at hb; unfold lkP; omega))
          obtain ⟨m3, j1, j2⟩ := m_insideOf (N := N) (m := m2) (q := true) (k := k) (size := sz_ true k) (root := some u) hN hT2 l3 hh.2.1 rfl hroot z.2.1 z.1 hs hk
          refine ⟨if p = 0 then (shr_ true nn r (some u) (sz_ true k) k).1 else (shr_ true nn r (some u) (sz_ true k) k).2, wF m1 282 (shr_ true nn r (some u) (sz_ true k) k), wA m3 (shr_ true nn r (some u) (sz_ true k) k), ?_, ?_, hR1.ms (((l2.mo (fun _ _ => lk_ms)).tr (j2.mo (fun b j (w : b = 340) => Or.inr (Or.inr (Or.inl w))))).tr wA_ms)⟩
          · unfold F_X8_shareAt
            refine e_rcv fxO ?_
            refine e_ldR fxO fxR7 ?_
            refine g_y (c_hasH net286 hh.net.1 _) (inr hu (by omega)) ?_
            refine e_ldR fxO fxR1 ?_
            refine g_y (c_famHas (q := true) hT _) (inr hk (by decide)) ?_
            refine g_y (c_isPart _) (inr hp (by decide)) ?_
            refine e_ldR fxO fxR7 ?_
            refine e_ldIV net286.o hh.net.1 ?_
            refine e_ldR fxO fxR1 ?_
            refine e_ldR frO frR3 ?_
            refine e_alIV frA3 rfl (by omega) (hT.2.1 true k hk).1 ?_
            refine e_t ((nI_leI (by omega) (by omega)).mpr hs) ?_
            refine e_ldR fxO fxR1 ?_
            refine e_ldR fxO fxR7 ?_
            refine e_ldR fxO fxR5 ?_
            refine e_bnd c1 ?_
            refine e_ldR fxO fxR5 ?_
            exact e_bnd (c_part frac282 hp wF0 wF1) rfl
          · unfold F_X9_shareAt
            refine e_rcv fmO ?_
            refine g_y (m_isPoint hh1.1 hN8 _) (inr hu (by omega)) ?_
            refine g_y (m_isRootedR _) (inr hk (by decide)) ?_
            refine g_y (m_inR (n := 1) _ (by decide)) (inr hp (by decide)) ?_
            refine e_ldR fmO fmR0 ?_
            refine e_alIV fmA0 (nI19 k) (by omega) (tabR hT1 hk).1 ?_
            refine e_ldIV fmO hh1.1 ?_
            refine e_t ((nI_leI (by omega) (by omega)).mpr hs) ?_
            refine e_bnd l1 ?_
            refine e_ldR fmO fmR0 ?_
            refine e_alIV fmA0 (nI19 k) (by omega) (tabR hT2 hk).1 ?_
            refine e_bnd j1 ?_
            exact e_bnd (m_part hp wA_1 wA_2) rfl
        · refine SameJ.ro (-9223372036854775808) hR ?_ ?_
          · unfold F_X8_shareAt
            refine e_rcv fxO ?_
            refine e_ldR fxO fxR7 ?_
            refine g_y (c_hasH net286 hh.net.1 _) (inr hu (by omega)) ?_
            refine e_ldR fxO fxR1 ?_
            refine g_y (c_famHas (q := true) hT _) (inr hk (by decide)) ?_
            refine g_y (c_isPart _) (inr hp (by decide)) ?_
            refine e_ldR fxO fxR7 ?_
            refine e_ldIV net286.o hh.net.1 ?_
            refine e_ldR fxO fxR1 ?_
            refine e_ldR frO frR3 ?_
            refine e_alIV frA3 rfl (by omega) (hT.2.1 true k hk).1 ?_
            exact e_f (fun w => hs ((nI_leI (by omega) (by omega)).mp w)) rfl
          · unfold F_X9_shareAt
            refine e_rcv fmO ?_
            refine g_y (m_isPoint hh.mod.1 hN8 _) (inr hu (by omega)) ?_
            refine g_y (m_isRootedR _) (inr hk (by decide)) ?_
            refine g_y (m_inR (n := 1) _ (by decide)) (inr hp (by decide)) ?_
            refine e_ldR fmO fmR0 ?_
            refine e_alIV fmA0 (nI19 k) (by omega) (tabR hT hk).1 ?_
            refine e_ldIV fmO hh.mod.1 ?_
            exact e_f (fun w => hs ((nI_leI (by omega) (by omega)).mp w)) rfl
      · exact no (Or.inr (Or.inr h))
    · exact no (Or.inr (Or.inl h))
  · exact no (Or.inl h)
end CALLS3
