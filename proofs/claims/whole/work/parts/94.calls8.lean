section UROWS
theorem u_H_X3_become_10 {N : Nat} {n : Nat} {a0 : Nat} {a1 : Nat} {l2 : Int32} {s : vS} : H_X3_become_10 N (n + 1) a0 a1 l2 s = (if (8 : Int32) ≤ l2 then (some ((), s)) else (ldR s a0 3 1 (fun r2 => ldR s a1 3 1 (fun r3 => alI s r3 l2 (fun v4 => asI s r2 l2 v4 (fun s => nm (l2 + (1 : Int32)) (fun l2_5 => H_X3_become_10 N n a0 a1 l2_5 s))))))) := rfl
theorem u_F_X3_become {N : Nat} {a0 : Nat} {a1 : Nat} {s : vS} : F_X3_become N a0 a1 s = (rcv s a0 3 (ldI s a1 3 0 (fun v1 => stI s a0 3 0 v1 (fun s => H_X3_become_10 N N a0 a1 (0 : Int32) s)))) := rfl
theorem u_H_X5_become_2 {N : Nat} {n : Nat} {a0 : Nat} {a1 : Nat} {l2 : Int32} {s : vS} : H_X5_become_2 N (n + 1) a0 a1 l2 s = (if (4 : Int32) ≤ l2 then (some ((), s)) else (ldR s a0 5 0 (fun r1 => ldR s a1 5 0 (fun r2 => alZ s r2 l2 (fun v3 => asZ s r1 l2 v3 (fun s => ldR s a0 5 1 (fun r4 => alR s r4 5 l2 (fun r5 => ldR s a1 5 1 (fun r6 => alR s r6 5 l2 (fun r7 => bnd (F_X6_become N r5 r7 s) (fun v8 s => nm (l2 + (1 : Int32)) (fun l2_9 => H_X5_become_2 N n a0 a1 l2_9 s)))))))))))) := rfl
theorem u_F_X5_become {N : Nat} {a0 : Nat} {a1 : Nat} {s : vS} : F_X5_become N a0 a1 s = (rcv s a0 5 (H_X5_become_2 N N a0 a1 (0 : Int32) s)) := rfl
theorem u_H_X9_image_80 {N : Nat} {n : Nat} {a0 : Nat} {l1 : Int32} {s : vS} : H_X9_image_80 N (n + 1) a0 l1 s = (if (116 : Int32) ≤ l1 then (ldI s a0 9 5 (fun v14 => some (v14, s))) else (ldR s a0 9 20 (fun r15 => ldR s a0 9 11 (fun r16 => alJ s r16 l1 (fun v17 => asJ s r15 l1 v17 (fun s => ldR s a0 9 21 (fun r18 => ldR s a0 9 12 (fun r19 => alJ s r19 l1 (fun v20 => asJ s r18 l1 v20 (fun s => nm (l1 + (1 : Int32)) (fun l1_21 => H_X9_image_80 N n a0 l1_21 s))))))))))) := rfl
theorem u_H_X9_image_43 {N : Nat} {n : Nat} {a0 : Nat} {l1 : Int32} {s : vS} : H_X9_image_43 N (n + 1) a0 l1 s = (if (4 : Int32) ≤ l1 then (H_X9_image_80 N N a0 (0 : Int32) s) else (ldR s a0 9 18 (fun r7 => ldR s a0 9 9 (fun r8 => alZ s r8 l1 (fun v9 => asZ s r7 l1 v9 (fun s => ldR s a0 9 19 (fun r10 => ldR s a0 9 10 (fun r11 => alI s r11 l1 (fun v12 => asI s r10 l1 v12 (fun s => nm (l1 + (1 : Int32)) (fun l1_13 => H_X9_image_43 N n a0 l1_13 s))))))))))) := rfl
theorem u_H_X9_image_15 {N : Nat} {n : Nat} {a0 : Nat} {l1 : Int32} {s : vS} : H_X9_image_15 N (n + 1) a0 l1 s = (ldI s a0 9 5 (fun v2 => if v2 ≤ l1 then (H_X9_image_43 N N a0 (0 : Int32) s) else (ldR s a0 9 17 (fun r3 => ldR s a0 9 6 (fun r4 => alI s r4 l1 (fun v5 => asI s r3 l1 v5 (fun s => nm (l1 + (1 : Int32)) (fun l1_6 => H_X9_image_15 N n a0 l1_6 s)))))))) := rfl
theorem u_F_X9_image {N : Nat} {a0 : Nat} {s : vS} : F_X9_image N a0 s = (rcv s a0 9 (stZ s a0 9 15 (1 : Int32) (fun s => ldI s a0 9 5 (fun v1 => stI s a0 9 16 v1 (fun s => H_X9_image_15 N N a0 (0 : Int32) s))))) := rfl
theorem u_H_X9_back_85 {N : Nat} {n : Nat} {a0 : Nat} {l1 : Int32} {s : vS} : H_X9_back_85 N (n + 1) a0 l1 s = (if (116 : Int32) ≤ l1 then (ldI s a0 9 5 (fun v15 => some (v15, s))) else (ldR s a0 9 11 (fun r16 => ldR s a0 9 20 (fun r17 => alJ s r17 l1 (fun v18 => asJ s r16 l1 v18 (fun s => ldR s a0 9 12 (fun r19 => ldR s a0 9 21 (fun r20 => alJ s r20 l1 (fun v21 => asJ s r19 l1 v21 (fun s => nm (l1 + (1 : Int32)) (fun l1_22 => H_X9_back_85 N n a0 l1_22 s))))))))))) := rfl
theorem u_H_X9_back_48 {N : Nat} {n : Nat} {a0 : Nat} {l1 : Int32} {s : vS} : H_X9_back_48 N (n + 1) a0 l1 s = (if (4 : Int32) ≤ l1 then (H_X9_back_85 N N a0 (0 : Int32) s) else (ldR s a0 9 9 (fun r8 => ldR s a0 9 18 (fun r9 => alZ s r9 l1 (fun v10 => asZ s r8 l1 v10 (fun s => ldR s a0 9 10 (fun r11 => ldR s a0 9 19 (fun r12 => alI s r12 l1 (fun v13 => asI s r11 l1 v13 (fun s => nm (l1 + (1 : Int32)) (fun l1_14 => H_X9_back_48 N n a0 l1_14 s))))))))))) := rfl
theorem u_H_X9_back_20 {N : Nat} {n : Nat} {a0 : Nat} {l1 : Int32} {s : vS} : H_X9_back_20 N (n + 1) a0 l1 s = (ldI s a0 9 5 (fun v3 => if v3 ≤ l1 then (H_X9_back_48 N N a0 (0 : Int32) s) else (ldR s a0 9 6 (fun r4 => ldR s a0 9 17 (fun r5 => alI s r5 l1 (fun v6 => asI s r4 l1 v6 (fun s => nm (l1 + (1 : Int32)) (fun l1_7 => H_X9_back_20 N n a0 l1_7 s)))))))) := rfl
theorem u_F_X9_back {N : Nat} {a0 : Nat} {s : vS} : F_X9_back N a0 s = (rcv s a0 9 (ldI s a0 9 15 (fun v1 => if v1 = (0 : Int32) then (some ((-3 : Int32), s)) else (ldI s a0 9 16 (fun v2 => stI s a0 9 5 v2 (fun s => H_X9_back_20 N N a0 (0 : Int32) s)))))) := rfl
end UROWS
section CALLS8
variable {N : Nat} {m m' : vM} {s : vS}
theorem we_npr {q : Bool} {a j : Nat} (h : weP q a j) : ¬ prP a j := by
  have ha := adr q
  unfold weP muQ taP at h
  unfold prP tabP hanP stoP tapP imgP
  omega
theorem we322 {q : Bool} {a j : Nat} (h : weP q a j) : a < 322 := by
  have ha := adr q
  unfold weP muQ taP at h
  omega
theorem gw_nn : ∀ g, g < 7 → ∀ n, n < 9 → (nI n < gw g ↔ n + 1 < g) := by decide +kernel
/-- the two values, once the guards are through -/
theorem value_core {q : Bool} {st k p nn : Nat} {r : Nat → Nat} {root : Option Nat} {o : Row} (hN : 1000 ≤ N) (hR : Rel m) (hs : st < 4) (hp : p < 2) (h : StH m 290 292 330 331 332 333 st k o) (hh : HandR m 286 5 328 nn r) (hq : q = true ↔ k = 1) (hr : ∀ x, root = some x → x < nn) (hqr : ∀ k, k < 29 → (o k).1 ≠ 0 → q = root.isSome) :
    ∃ (v : Int32) (m1 : vM), F_X0_weigh N 223 (292 + 3 * st) 286 (rt root) 282 (S m) = some (v, S m1) ∧ Fr (weP q) m m1 ∧ Rel m1 ∧
      ((∃ w : Int64, v = 1 ∧ F_X2_part N 282 (nI p) (S m1) = some (w, S m1) ∧ ∃ m2, gr q o ≤ nn + 1 ∧ F_X9_isValued N 322 (nI st) (rt root) (S m1) = some (1, S m2) ∧ (if p = 0 then rJ m2 332 377 else rJ m2 333 377) = w ∧ Rel m2) ∨
       (v = 0 ∧ (¬ gr q o ≤ nn + 1 ∨ ∃ m2, gr q o ≤ nn + 1 ∧ F_X9_isValued N 322 (nI st) (rt root) (S m1) = some (0, S m2) ∧ Rel m2))) := by
  obtain ⟨h1, h2, h3, h4, h5, h6⟩ := id h
  have hk := h3.1
  have io := h3.inq (fun z => hq.mpr z)
  obtain ⟨m1, v, c1, c2, c3⟩ := c_weigh (N := N) (m := m) (q := q) (nn := nn) (r := r) (root := root) hN (sumS hs) apS (by omega) (Or.inr (by omega)) hk hq h3.2.1 io hr hqr hR.1 hh.net h4
  have hR1 : Rel m1 := hR.fr c2 (fun a j hp hc => we_npr hc hp)
  have f322 : Fr (fun a _ => a < 322) m m1 := c2.mo (fun _ _ => we322)
  refine ⟨v, m1, c1, c2, hR1, ?_⟩
  by_cases hg : gr q o ≤ nn + 1
  · rw [if_pos hg] at c3
    obtain ⟨a1, a2, a3⟩ := h.keep f322
    have hh1 : HandM m1 nn r := by
      obtain ⟨b1, b2', b3⟩ := hh.mod
      exact ⟨by rw [f322.i (by omega)]; exact b1, b2', fun i hi => by rw [f322.i (by omega)]; exact b3 i hi⟩
    obtain ⟨m2, w, g1, g2, g3, g4⟩ := m_isValued (N := N) (m := m1) (q := q) (u := st) (nn := nn) (r := r) (root := root) hN hq hk (by omega) h3.2.1 io hr (fun j hj hz => ⟨hqr j hj hz, by have := gr_ge (io j hj hz) hz; omega⟩) hh.2.1 hR1.1 hh1 a2 a3
    have hR2 : Rel m2 := hR1.fr g2 (fun a j hp hc => mo_npr hc hp)
    cases hres : valX q nn r root o 29 with
    | none =>
      rw [hres] at c3 g4
      subst g4
      exact Or.inr ⟨c3, Or.inr ⟨m2, hg, by rw [g1, b2_f (by simp)], hR2⟩⟩
    | some row =>
      rw [hres] at c3 g3 g4
      subst g4
      obtain ⟨rfl, e1, e2⟩ := c3
      have r13 := g3.1.2 0 (by omega)
      refine Or.inl ⟨_, rfl, c_part frac282 hp e1 e2, m2, hg, by rw [g1, b2_t (by simp)], ?_, hR2⟩
      have x1 : rJ m2 332 377 = (row 0).1 := congrArg Prod.fst r13
      have x2 : rJ m2 333 377 = (row 0).2 := congrArg Prod.snd r13
      rw [x1, x2]
  · rw [if_neg hg] at c3
    exact Or.inr ⟨c3, Or.inl hg⟩
theorem call_value (hN : 1000 ≤ N) (hR : Rel m) (x y : Int32) : SameJ (F_X8_value N 0 x y) (F_X9_value N 322 x y) m := by
  obtain ⟨hT, ⟨nn, r, hh⟩, -⟩ := id hR
  have no : (¬ ((0 : Int32) ≤ x ∧ x < nI 4) ∨ ¬ ((0 : Int32) ≤ y ∧ y < nI 2)) → SameJ (F_X8_value N 0 x y) (F_X9_value N 322 x y) m := by
    intro h
    refine SameJ.ro (-9223372036854775808) hR ?_ ?_
    · unfold F_X8_value
      refine e_rcv fxO ?_
      by_cases h1 : (0 : Int32) ≤ x ∧ x < nI 4
      · refine g_y (c_isStore _) h1 ?_
        exact g_n (c_isPart _) (h.elim (fun w => absurd h1 w) id) rfl
      · exact g_n (c_isStore _) h1 rfl
    · unfold F_X9_value
      refine e_rcv fmO ?_
      by_cases h1 : (0 : Int32) ≤ x ∧ x < nI 4
      · refine g_y (m_isStoreR _) h1 ?_
        exact g_n (m_inR (n := 1) _ (by decide)) (h.elim (fun w => absurd h1 w) id) rfl
      · exact g_n (m_isStoreR _) h1 rfl
  rcases rng x (n := 4) (by decide) with ⟨st, hs, rfl⟩ | hx
  · rcases rng y (n := 2) (by decide) with ⟨p, hp, rfl⟩ | hy
    · have sa := sumS hs
      rcases hR.2.2.1 st hs with ⟨h1, h2, h3⟩ | ⟨k, o, h⟩
      · refine SameJ.ro (-9223372036854775808) hR ?_ ?_
        · unfold F_X8_value
          refine e_rcv fxO ?_
          refine g_y (c_isStore _) (inr hs (by decide)) ?_
          refine g_y (c_isPart _) (inr hp (by decide)) ?_
          refine e_ldR fxO fxR8 ?_
          refine e_ldR fsO fsR0 ?_
          refine e_alZV fsA0 rfl (by omega) h1 ?_
          exact e_t rfl rfl
        · unfold F_X9_value
          refine e_rcv fmO ?_
          refine g_y (m_isStoreR _) (inr hs (by decide)) ?_
          refine g_y (m_inR (n := 1) _ (by decide)) (inr hp (by decide)) ?_
          refine e_ldR fmO fmR9 ?_
          refine e_alZV fmA9 rfl (by omega) h2 ?_
          exact e_t rfl rfl
      · obtain ⟨h1, h2, h3, h4, h5, h6⟩ := id h
        have hk := h3.1
        have kk := kcs k hk k hk
        have tC : ∀ R, (if kc k = 2 then J_X8_value_42 N (S m) else bnd (F_X0_weigh N 223 (292 + 3 * st) 286 (-1) 282 (S m)) (fun v16 s => if v16 = 0 then (J_X8_value_88 N (-9223372036854775808 : Int64) s) else (ldR s 0 8 5 (fun r17 => bnd (F_X2_part N r17 (nI p) s) (fun v18 s => J_X8_value_88 N v18 s))))) = R → F_X8_value N 0 (nI st) (nI p) (S m) = R := by
          intro R hR'
          unfold F_X8_value
          refine e_rcv fxO ?_
          refine g_y (c_isStore _) (inr hs (by decide)) ?_
          refine g_y (c_isPart _) (inr hp (by decide)) ?_
          refine e_ldR fxO fxR8 ?_
          refine e_ldR fsO fsR0 ?_
          refine e_alZV fsA0 rfl (by omega) h1 ?_
          refine e_f (by decide) ?_
          refine e_ldR fxO fxR8 ?_
          refine e_ldR fsO fsR1 ?_
          refine e_alR shA (by decide) rfl (by omega) (shR st hs) ?_
          refine e_ldIV sa.1 h4.1 ?_
          refine e_i (fun z => ?_) (fun z => ?_)
          · rw [if_pos z] at hR'; exact hR'
          · rw [if_neg z] at hR'
            refine e_ldR fxO fxR2 ?_
            refine e_ldR fxO fxR8 ?_
            refine e_ldR fsO fsR1 ?_
            refine e_alR shA (by decide) rfl (by omega) (shR st hs) ?_
            refine e_ldR fxO fxR7 ?_
            refine e_ldR fxO fxR5 ?_
            exact hR'
        by_cases z1 : k = 1
        · refine SameJ.ro (-9223372036854775808) hR (tC _ (by rw [if_pos (kk.2.2.1.mpr z1)]; rfl)) ?_
          unfold F_X9_value
          refine e_rcv fmO ?_
          refine g_y (m_isStoreR _) (inr hs (by decide)) ?_
          refine g_y (m_inR (n := 1) _ (by decide)) (inr hp (by decide)) ?_
          refine e_ldR fmO fmR9 ?_
          refine e_alZV fmA9 rfl (by omega) h2 ?_
          refine e_f (by decide) ?_
          refine e_ldR fmO fmR10 ?_
          refine e_alIV fmA10 rfl (by omega) h5 ?_
          exact e_t (by rw [z1]; rfl) rfl
        · have hq : (false = true) ↔ k = 1 := ⟨fun w => (by cases w), fun w => absurd w z1⟩
          obtain ⟨v, m1, c1, c2, hR1, hc⟩ := value_core (N := N) (q := false) (root := none) hN hR hs hp h hh hq (fun x hx => by cases hx) (fun _ _ _ => rfl)
          have f322 : Fr (fun a _ => a < 322) m m1 := c2.mo (fun _ _ => we322)
          obtain ⟨a1, a2, a3⟩ := h.keep f322
          have h5' : rI m1 322 5 = nI nn := by rw [f322.i (by omega)]; exact hh.mod.1
          have io := h3.inq (fun z => hq.mpr z)
          have g5 := gr_5 (q := false) (o := o)
          have hgn := gw_nn (gr false o) (by omega) nn (by have := hh.1; omega)
          have tM : ∀ R, (if nI nn < gw (gr false o) then J_X9_value_56 N (S m1) else bnd (F_X9_isValued N 322 (nI st) (-1) (S m1)) (fun v9 s => if v9 = 0 then J_X9_value_56 N s else (if nI p = 0 then (ldR s 322 9 11 (fun r12 => alJ s r12 377 (fun v13 => J_X9_value_83 N v13 s))) else (ldR s 322 9 12 (fun r10 => alJ s r10 377 (fun v11 => J_X9_value_83 N v11 s)))))) = R → F_X9_value N 322 (nI st) (nI p) (S m1) = R := by
            intro R hR'
            unfold F_X9_value
            refine e_rcv fmO ?_
            refine g_y (m_isStoreR _) (inr hs (by decide)) ?_
            refine g_y (m_inR (n := 1) _ (by decide)) (inr hp (by decide)) ?_
            refine e_ldR fmO fmR9 ?_
            refine e_alZV fmA9 rfl (by omega) a1 ?_
            refine e_f (by decide) ?_
            refine e_ldR fmO fmR10 ?_
            refine e_alIV fmA10 rfl (by omega) a3 ?_
            refine e_f (by rw [eqR (by decide) (by omega)]; exact z1) ?_
            refine e_bnd (m_greatest (by omega) hq hk (by omega) io hR1.1 a2 a3) ?_
            refine e_ldIV fmO h5' ?_
            exact hR'
          have tC' : ∀ R, (if v = 0 then (J_X8_value_88 N (-9223372036854775808 : Int64) (S m1)) else (ldR (S m1) 0 8 5 (fun r17 => bnd (F_X2_part N r17 (nI p) (S m1)) (fun v18 s => J_X8_value_88 N v18 s)))) = R → F_X8_value N 0 (nI st) (nI p) (S m) = R := by
            intro R hR'
            refine tC R ?_
            rw [if_neg (fun w => z1 (kk.2.2.1.mp w))]
            exact e_bnd c1 hR'
          rcases hc with ⟨w, rfl, e1, m2, e2, e3, e4, e5⟩ | ⟨rfl, hc⟩
          · refine ⟨w, m1, m2, tC' _ ?_, tM _ ?_, e5⟩
            · refine e_f (by decide) ?_
              refine e_ldR fxO fxR5 ?_
              exact e_bnd e1 rfl
            · refine e_f (fun t => by have := hgn.mp t; omega) ?_
              refine e_bnd e3 ?_
              refine e_f (by decide) ?_
              rcases (show p = 0 ∨ p = 1 by omega) with rfl | rfl
              · refine e_t rfl ?_
                refine e_ldR fmO fmR11 ?_
                exact e_alJV (j := 377) fmA11 rfl (by omega) e4 rfl
              · refine e_f (by decide) ?_
                refine e_ldR fmO fmR12 ?_
                exact e_alJV (j := 377) fmA12 rfl (by omega) e4 rfl
          · rcases hc with hc | ⟨m2, e2, e3, e5⟩
            · exact ⟨_, m1, m1, tC' _ (e_t rfl rfl), tM _ (e_t (hgn.mpr (by omega)) rfl), hR1⟩
            · refine ⟨_, m1, m2, tC' _ (e_t rfl rfl), tM _ ?_, e5⟩
              refine e_f (fun t => by have := hgn.mp t; omega) ?_
              refine e_bnd e3 ?_
              exact e_t rfl rfl
    · exact no (Or.inr hy)
  · exact no (Or.inl hx)
theorem call_valueAt (hN : 1000 ≤ N) (hR : Rel m) (x t y : Int32) : SameJ (F_X8_valueAt N 0 x t y) (F_X9_valueAt N 322 x t y) m := by
  obtain ⟨hT, ⟨nn, r, hh⟩, -⟩ := id hR
  have h8 := hh.1
  have no : (¬ ((0 : Int32) ≤ x ∧ x < nI 4) ∨ ¬ ((0 : Int32) ≤ t ∧ t < nI nn) ∨ ¬ ((0 : Int32) ≤ y ∧ y < nI 2)) → SameJ (F_X8_valueAt N 0 x t y) (F_X9_valueAt N 322 x t y) m := by
    intro h
    refine SameJ.ro (-9223372036854775808) hR ?_ ?_
    · unfold F_X8_valueAt
      refine e_rcv fxO ?_
      by_cases h1 : (0 : Int32) ≤ x ∧ x < nI 4
      · refine g_y (c_isStore _) h1 ?_
        refine e_ldR fxO fxR7 ?_
        by_cases h2 : (0 : Int32) ≤ t ∧ t < nI nn
        · refine g_y (c_hasH net286 hh.net.1 _) h2 ?_
          exact g_n (c_isPart _) (h.elim (fun w => absurd h1 w) (fun h => h.elim (fun w => absurd h2 w) id)) rfl
        · exact g_n (c_hasH net286 hh.net.1 _) h2 rfl
      · exact g_n (c_isStore _) h1 rfl
    · unfold F_X9_valueAt
      refine e_rcv fmO ?_
      by_cases h1 : (0 : Int32) ≤ x ∧ x < nI 4
      · refine g_y (m_isStoreR _) h1 ?_
        by_cases h2 : (0 : Int32) ≤ t ∧ t < nI nn
        · refine g_y (m_isPoint hh.mod.1 h8 _) h2 ?_
          exact g_n (m_inR (n := 1) _ (by decide)) (h.elim (fun w => absurd h1 w) (fun h => h.elim (fun w => absurd h2 w) id)) rfl
        · exact g_n (m_isPoint hh.mod.1 h8 _) h2 rfl
      · exact g_n (m_isStoreR _) h1 rfl
  rcases rng x (n := 4) (by decide) with ⟨st, hs, rfl⟩ | hx
  · rcases rng t (n := nn) (by omega) with ⟨u, hu, rfl⟩ | ht
    · rcases rng y (n := 2) (by decide) with ⟨p, hp, rfl⟩ | hy
      · have sa := sumS hs
        rcases hR.2.2.1 st hs with ⟨h1, h2, h3⟩ | ⟨k, o, h⟩
        · refine SameJ.ro (-9223372036854775808) hR ?_ ?_
          · unfold F_X8_valueAt
            refine e_rcv fxO ?_
            refine g_y (c_isStore _) (inr hs (by decide)) ?_
            refine e_ldR fxO fxR7 ?_
            refine g_y (c_hasH net286 hh.net.1 _) (inr hu (by omega)) ?_
            refine g_y (c_isPart _) (inr hp (by decide)) ?_
            refine e_ldR fxO fxR8 ?_
            refine e_ldR fsO fsR0 ?_
            refine e_alZV fsA0 rfl (by omega) h1 ?_
            exact e_t rfl rfl
          · unfold F_X9_valueAt
            refine e_rcv fmO ?_
            refine g_y (m_isStoreR _) (inr hs (by decide)) ?_
            refine g_y (m_isPoint hh.mod.1 h8 _) (inr hu (by omega)) ?_
            refine g_y (m_inR (n := 1) _ (by decide)) (inr hp (by decide)) ?_
            refine e_ldR fmO fmR9 ?_
            refine e_alZV fmA9 rfl (by omega) h2 ?_
            exact e_t rfl rfl
        · obtain ⟨h1, h2, h3, h4, h5, h6⟩ := id h
          have hk := h3.1
          have kk := kcs k hk k hk
          have tC : ∀ R, (if kc k = 1 then J_X8_valueAt_53 N (S m) else bnd (F_X0_weigh N 223 (292 + 3 * st) 286 (nI u) 282 (S m)) (fun v16 s => if v16 = 0 then (J_X8_valueAt_99 N (-9223372036854775808 : Int64) s) else (ldR s 0 8 5 (fun r17 => bnd (F_X2_part N r17 (nI p) s) (fun v18 s => J_X8_valueAt_99 N v18 s))))) = R → F_X8_valueAt N 0 (nI st) (nI u) (nI p) (S m) = R := by
            intro R hR'
            unfold F_X8_valueAt
            refine e_rcv fxO ?_
            refine g_y (c_isStore _) (inr hs (by decide)) ?_
            refine e_ldR fxO fxR7 ?_
            refine g_y (c_hasH net286 hh.net.1 _) (inr hu (by omega)) ?_
            refine g_y (c_isPart _) (inr hp (by decide)) ?_
            refine e_ldR fxO fxR8 ?_
            refine e_ldR fsO fsR0 ?_
            refine e_alZV fsA0 rfl (by omega) h1 ?_
            refine e_f (by decide) ?_
            refine e_ldR fxO fxR8 ?_
            refine e_ldR fsO fsR1 ?_
            refine e_alR shA (by decide) rfl (by omega) (shR st hs) ?_
            refine e_ldIV sa.1 h4.1 ?_
            refine e_i (fun z => ?_) (fun z => ?_)
            · rw [if_pos z] at hR'; exact hR'
            · rw [if_neg z] at hR'
              refine e_ldR fxO fxR2 ?_
              refine e_ldR fxO fxR8 ?_
              refine e_ldR fsO fsR1 ?_
              refine e_alR shA (by decide) rfl (by omega) (shR st hs) ?_
              refine e_ldR fxO fxR7 ?_
              refine e_ldR fxO fxR5 ?_
              exact hR'
          by_cases z1 : k = 0
          · refine SameJ.ro (-9223372036854775808) hR (tC _ (by rw [if_pos (kk.2.2.2.mpr z1)]; rfl)) ?_
            unfold F_X9_valueAt
            refine e_rcv fmO ?_
            refine g_y (m_isStoreR _) (inr hs (by decide)) ?_
            refine g_y (m_isPoint hh.mod.1 h8 _) (inr hu (by omega)) ?_
            refine g_y (m_inR (n := 1) _ (by decide)) (inr hp (by decide)) ?_
            refine e_ldR fmO fmR9 ?_
            refine e_alZV fmA9 rfl (by omega) h2 ?_
            refine e_f (by decide) ?_
            refine e_ldR fmO fmR10 ?_
            refine e_alIV fmA10 rfl (by omega) h5 ?_
            exact e_t (by rw [z1]; rfl) rfl
          · obtain ⟨q, hq⟩ := kqx (k := k)
            have hqr : ∀ j, j < 29 → (o j).1 ≠ 0 → q = (some u).isSome := fun j hj hz => by
              by_cases w : k = 1
              · exact hq.mpr w
              · exact absurd (h3.2.2.2 (by omega) j hj) hz
            obtain ⟨v, m1, c1, c2, hR1, hc⟩ := value_core (N := N) (q := q) (root := some u) hN hR hs hp h hh hq (fun x hx => by cases hx; exact hu) hqr
            have f322 : Fr (fun a _ => a < 322) m m1 := c2.mo (fun _ _ => we322)
            obtain ⟨a1, a2, a3⟩ := h.keep f322
            have h5' : rI m1 322 5 = nI nn := by rw [f322.i (by omega)]; exact hh.mod.1
            have io := h3.inq (fun z => hq.mpr z)
            have g5 := gr_5 (q := q) (o := o)
            have hgn := gw_nn (gr q o) (by omega) nn (by omega)
            have tM : ∀ R, (if nI nn < gw (gr q o) then J_X9_valueAt_63 N (S m1) else bnd (F_X9_isValued N 322 (nI st) (nI u) (S m1)) (fun v9 s => if v9 = 0 then J_X9_valueAt_63 N s else (if nI p = 0 then (ldR s 322 9 11 (fun r12 => alJ s r12 377 (fun v13 => J_X9_valueAt_90 N v13 s))) else (ldR s 322 9 12 (fun r10 => alJ s r10 377 (fun v11 => J_X9_valueAt_90 N v11 s)))))) = R → F_X9_valueAt N 322 (nI st) (nI u) (nI p) (S m1) = R := by
              intro R hR'
              unfold F_X9_valueAt
              refine e_rcv fmO ?_
              refine g_y (m_isStoreR _) (inr hs (by decide)) ?_
              refine g_y (m_isPoint h5' h8 _) (inr hu (by omega)) ?_
              refine g_y (m_inR (n := 1) _ (by decide)) (inr hp (by decide)) ?_
              refine e_ldR fmO fmR9 ?_
              refine e_alZV fmA9 rfl (by omega) a1 ?_
              refine e_f (by decide) ?_
              refine e_ldR fmO fmR10 ?_
              refine e_alIV fmA10 rfl (by omega) a3 ?_
              refine e_f (by rw [eqR (by decide) (by omega)]; exact z1) ?_
              refine e_bnd (m_greatest (by omega) hq hk (by omega) io hR1.1 a2 a3) ?_
              refine e_ldIV fmO h5' ?_
              exact hR'
            have tC' : ∀ R, (if v = 0 then (J_X8_valueAt_99 N (-9223372036854775808 : Int64) (S m1)) else (ldR (S m1) 0 8 5 (fun r17 => bnd (F_X2_part N r17 (nI p) (S m1)) (fun v18 s => J_X8_valueAt_99 N v18 s)))) = R → F_X8_valueAt N 0 (nI st) (nI u) (nI p) (S m) = R := by
              intro R hR'
              refine tC R ?_
              rw [if_neg (fun w => z1 (kk.2.2.2.mp w))]
              exact e_bnd c1 hR'
            rcases hc with ⟨w, rfl, e1, m2, e2, e3, e4, e5⟩ | ⟨rfl, hc⟩
            · refine ⟨w, m1, m2, tC' _ ?_, tM _ ?_, e5⟩
              · refine e_f (by decide) ?_
                refine e_ldR fxO fxR5 ?_
                exact e_bnd e1 rfl
              · refine e_f (fun t => by have := hgn.mp t; omega) ?_
                refine e_bnd e3 ?_
                refine e_f (by decide) ?_
                rcases (show p = 0 ∨ p = 1 by omega) with rfl | rfl
                · refine e_t rfl ?_
                  refine e_ldR fmO fmR11 ?_
                  exact e_alJV (j := 377) fmA11 rfl (by omega) e4 rfl
                · refine e_f (by decide) ?_
                  refine e_ldR fmO fmR12 ?_
                  exact e_alJV (j := 377) fmA12 rfl (by omega) e4 rfl
            · rcases hc with hc | ⟨m2, e2, e3, e5⟩
              · exact ⟨_, m1, m1, tC' _ (e_t rfl rfl), tM _ (e_t (hgn.mpr (by omega)) rfl), hR1⟩
              · refine ⟨_, m1, m2, tC' _ (e_t rfl rfl), tM _ ?_, e5⟩
                refine e_f (fun t => by have := hgn.mp t; omega) ?_
                refine e_bnd e3 ?_
                exact e_t rfl rfl
      · exact no (Or.inr (Or.inr hy))
    · exact no (Or.inr (Or.inl ht))
  · exact no (Or.inl hx)
end CALLS8
