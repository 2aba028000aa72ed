/-! calls: sums and products of stores, lifted, averaged -/
section CALLS6
variable {N : Nat} {m m' : vM} {s : vS}
theorem m_sumUpR {u w t k1 k2 : Nat} {o p : Row} {less : Prop} [Decidable less] {l3 : Int64} (hu : u < 16) (hw : w < 16) (ht : t < 16) (hut : u ≠ t) (hwt : w ≠ t) (hk1 : k1 < 3) (hk2 : k2 < 3) (hl3 : 0 ≤ l3 ↔ ¬ less) (hN : 100 ≤ N) (ho : rI m 322 25 = 0) (lo : Lows o) (lp : Lows p) (r1 : RowM m u o) (r2 : RowM m w p) (e1 : rI m 331 u = nI k1) (e2 : rI m 331 w = nI k2) :
    ∃ m', F_X9_sumUp N 322 (nI u) (nI w) l3 (nI t) (S m) = some ((), S m') ∧ Fr (moQ t) m m' ∧ match sumF p less 29 0 o with
      | some row => rI m' 322 25 = 0 ∧ RowM m' t row ∧ rI m' 331 t = nI (kdE row (mn k1 k2))
      | none => rI m' 322 25 = 1 := by
  obtain ⟨m1, h1, h2, h3, h4⟩ := m_copy (N := N) (m := m) hu ht hN
  have hk : ∀ kk, ∃ m', J_X9_sumUp_30 N 322 (nI u) (nI w) l3 (nI t) (nI kk) (S m) = some ((), S m') ∧ Fr (moQ t) m m' ∧ match sumF p less 29 0 o with
      | some row => rI m' 322 25 = 0 ∧ RowM m' t row ∧ rI m' 331 t = nI (kdE row kk)
      | none => rI m' 322 25 = 1 := by
    intro kk
    have hrt : ∀ j, j < 29 → rowM (wI m1 331 t (nI kk)) t j = o j := fun j hj => by
      rw [← r1 j hj]
      show (rJ m1 332 (29 * t + j), rJ m1 333 (29 * t + j)) = (rJ m 332 (29 * u + j), rJ m 333 (29 * u + j))
      rw [(h3 j hj).1, (h3 j hj).2]
    have hrw : ∀ j, j < 29 → rowM (wI m1 331 t (nI kk)) w j = p j := fun j hj => by
      rw [← r2 j hj]
      show (rJ m1 332 (29 * w + j), rJ m1 333 (29 * w + j)) = (rJ m 332 (29 * w + j), rJ m 333 (29 * w + j))
      rw [h4 _ _ (by omega), h4 _ _ (by omega)]
    obtain ⟨m', g1, g2, g3, g4⟩ := m_sumUp_l (N := N) hw ht hwt hl3 hN 29 0 N (wI m1 331 t (nI kk)) o false rfl (by omega) (by rw [rI_wI, if_neg (by omega), h2, if_neg (by omega), ho]; rfl) (fun _ => hrt) (fun j hj => by rw [hrt j hj]; exact lo j hj) (fun j hj => by rw [hrw j hj]; exact lp j hj)
    refine ⟨m', ?_, fun a j ha => ⟨?_, ?_⟩, ?_⟩
    · unfold J_X9_sumUp_30
      refine e_bnd h1 ?_
      refine e_ldR fmO fmR10 ?_
      refine e_asI fmA10 rfl (by omega) ?_
      exact g1
    · unfold moQ moP at ha
      rw [g2 a j (by omega) (by omega), rI_n _ _ (by omega), h2, if_neg (by omega)]
    · unfold moQ moP at ha
      rw [g3 a j (by omega) (by omega)]
      show rJ m1 a j = rJ m a j
      exact h4 a j (by omega)
    · rw [if_neg (by decide), sumF_o hrw 29 0 o rfl] at g4
      cases hres : sumF p less 29 0 o with
      | none => rw [hres] at g4; exact g4
      | some row =>
        rw [hres] at g4
        refine ⟨g4.1, g4.2.1, ?_⟩
        rw [g4.2.2, rI_s]
        unfold kdE
        split <;> rfl
  unfold F_X9_sumUp
  by_cases z : k2 ≤ k1
  · obtain ⟨m', g1, g2, g3⟩ := hk k2
    refine ⟨m', ?_, g2, by unfold mn; rw [if_pos z]; exact g3⟩
    refine e_rcv fmO ?_
    refine e_ldR fmO fmR10 ?_
    refine e_alIV fmA10 rfl (by omega) e1 ?_
    refine e_ldR fmO fmR10 ?_
    refine e_alIV fmA10 rfl (by omega) e2 ?_
    refine e_t (by rw [nI_leI (by omega) (by omega)]; exact z) ?_
    refine e_ldR fmO fmR10 ?_
    refine e_alIV fmA10 rfl (by omega) e2 ?_
    exact g1
  · obtain ⟨m', g1, g2, g3⟩ := hk k1
    refine ⟨m', ?_, g2, by unfold mn; rw [if_neg z]; exact g3⟩
    refine e_rcv fmO ?_
    refine e_ldR fmO fmR10 ?_
    refine e_alIV fmA10 rfl (by omega) e1 ?_
    refine e_ldR fmO fmR10 ?_
    refine e_alIV fmA10 rfl (by omega) e2 ?_
    refine e_f (by rw [nI_leI (by omega) (by omega)]; exact z) ?_
    refine e_ldR fmO fmR10 ?_
    refine e_alIV fmA10 rfl (by omega) e1 ?_
    exact g1
theorem m_areUnlike {u w k1 k2 : Nat} (hu : u < 16) (hw : w < 16) (hk1 : k1 < 3) (hk2 : k2 < 3) (e1 : rI m 331 u = nI k1) (e2 : rI m 331 w = nI k2) : F_X9_areUnlike N 322 (nI u) (nI w) (S m) = some (b2 (k1 + k2 = 1), S m) := by
  unfold F_X9_areUnlike
  refine e_rcv fmO ?_
  refine e_ldR fmO fmR10 ?_
  refine e_alIV fmA10 rfl (by omega) e1 ?_
  refine e_ldR fmO fmR10 ?_
  refine e_alIV fmA10 rfl (by omega) e2 ?_
  rw [nI_add]
  by_cases z : k1 + k2 = 1
  · refine e_t (by rw [z]; rfl) ?_
    rw [b2_t z]
    rfl
  · refine e_f (by rw [eqR (by decide) (by omega)]; exact z) ?_
    rw [b2_f z]
    rfl
/-- the model's sum or product of two rows, in row 13 -/
theorem m_sumX {q : Bool} {u w wh k1 k2 : Nat} {o p : Row} (hN : 100 ≤ N) (hu : u < 13) (hw : w < 13) (hwh : wh < 3) (hk1 : k1 < 3) (hk2 : k2 < 3) (hq : q = true ↔ mn k1 k2 = 1) (lo : Lows o) (lp : Lows p) (io : In q o) (ip : In q p) (hT : Tab m) (ho : rI m 322 25 = 0) (r1 : RowM m u o) (r2 : RowM m w p) (e1 : rI m 331 u = nI k1) (e2 : rI m 331 w = nI k2) {K : vS → Option (Int32 × vS)} {F : Option (Unit × vS)} (hF : F = if wh = 2 then F_X9_multiply N 322 (nI u) (nI w) 13 (S m) else F_X9_sumUp N 322 (nI u) (nI w) (if wh = 1 then -1 else 1) 13 (S m)) :
    ∃ m', F = some ((), S m') ∧ Fr (moQ 13) m m' ∧ match sumX wh q o p with
      | some row => rI m' 322 25 = 0 ∧ RowM m' 13 row ∧ rI m' 331 13 = nI (kdE row (mn k1 k2))
      | none => rI m' 322 25 = 1 := by
  subst hF
  by_cases z : wh = 2
  · obtain ⟨m', g1, g2, g3, g4⟩ := m_multiply (N := N) (m := m) (q := q) (t := 13) hN hk1 hk2 hq (by omega) (show u < 16 by omega) (show w < 16 by omega) (by omega) (by omega) lo lp io ip hT ho r1 r2 e1 e2
    refine ⟨m', by rw [if_pos z]; exact g1, g2, ?_⟩
    rw [mulG_29 io ip] at g3 g4
    unfold sumX
    rw [if_pos z]
    cases hres : mulG q (fun f g => sz_ q f + sz_ q g - sh_ q) o p (mny q) with
    | none => rw [hres] at g3; exact g3.1
    | some row =>
      rw [hres] at g3 g4
      exact ⟨g3.1.1, g3.1.2, g4 row rfl⟩
  · obtain ⟨m', g1, g2, g3⟩ := m_sumUpR (N := N) (m := m) (t := 13) (less := wh = 1) (l3 := if wh = 1 then -1 else 1) (show u < 16 by omega) (show w < 16 by omega) (by omega) (by omega) (by omega) hk1 hk2 (by
      by_cases y : wh = 1
      · rw [if_pos y]; exact ⟨fun h => absurd h (by decide), fun h => absurd y h⟩
      · rw [if_neg y]; exact ⟨fun _ => y, fun _ => by decide⟩) hN ho lo lp r1 r2 e1 e2
    refine ⟨m', by rw [if_neg z]; exact g1, g2, ?_⟩
    unfold sumX
    rw [if_neg z]
    exact g3
/-- row 13 goes into a store -/
theorem m_store {st k : Nat} {row : Row} (hN : 100 ≤ N) (hs : st < 4) (r : RowM m 13 row) (e : rI m 331 13 = nI k) :
    ∃ m', F_X9_copy N 322 13 (nI st) (S m) = some ((), S m') ∧ Fr (fun a j => (a = 331 ∧ j = st) ∨ ((a = 332 ∨ a = 333) ∧ 29 * st ≤ j ∧ j < 29 * st + 29)) m m' ∧ rI m' 331 st = nI k ∧ RowM m' st row := by
  obtain ⟨m', h1, h2, h3, h4⟩ := m_copy (N := N) (m := m) (p := 13) (q := st) (by omega) (by omega) hN
  refine ⟨m', h1, fun a j ha => ⟨by rw [h2, if_neg (by omega)], h4 a j (by omega)⟩, by rw [h2, if_pos ⟨rfl, rfl⟩]; exact e, fun j hj => ?_⟩
  rw [← r j hj]
  show (rJ m' 332 (29 * st + j), rJ m' 333 (29 * st + j)) = (rJ m 332 (29 * 13 + j), rJ m 333 (29 * 13 + j))
  rw [(h3 j hj).1, (h3 j hj).2]
theorem cm_npr {a j : Nat} (h : cmP 283 a j) : ¬ prP a j := by
  unfold cmP muQ at h
  unfold prP tabP hanP stoP tapP imgP
  omega
theorem mo_npr {a j : Nat} (h : moQ 13 a j) : ¬ prP a j := by
  unfold moQ moP at h
  unfold prP tabP hanP stoP tapP imgP
  omega
theorem apS {st : Nat} : Apart (292 + 3 * st) := Or.inr (by omega)
theorem ap283 : Apart 283 := Or.inr (by omega)
theorem call_makes (hN : 100 ≤ N) (hR : Rel m) (x y z w : Int32) : SameI (F_X8_makes N 0 x y z w) (F_X9_makes N 322 x y z w) m := by
  have hT := hR.1
  have no : (¬ ((0 : Int32) ≤ x ∧ x < nI 4) ∨ ¬ ((0 : Int32) ≤ y ∧ y < nI 4) ∨ ¬ ((0 : Int32) ≤ w ∧ w < nI 4) ∨ ¬ ((0 : Int32) ≤ z ∧ z < nI 3)) → SameI (F_X8_makes N 0 x y z w) (F_X9_makes N 322 x y z w) m := by
    intro h
    refine SameI.ro (-1) hR ?_ ?_
    · unfold F_X8_makes
      refine e_rcv fxO ?_
      by_cases h1 : (0 : Int32) ≤ x ∧ x < nI 4
      · refine g_y (c_isStore _) h1 ?_
        by_cases h2 : (0 : Int32) ≤ y ∧ y < nI 4
        · refine g_y (c_isStore _) h2 ?_
          by_cases h3 : (0 : Int32) ≤ w ∧ w < nI 4
          · refine g_y (c_isStore _) h3 ?_
            have h4 : ¬ ((0 : Int32) ≤ z ∧ z < nI 3) := by
              rcases h with h | h | h | h
              · exact absurd h1 h
              · exact absurd h2 h
              · exact absurd h3 h
              · exact h
            by_cases h0 : z < 0
            · exact e_t h0 rfl
            · refine e_f h0 ?_
              exact e_f (fun t => h4 ((in_r z (n := 2) (by decide)).mp ⟨Int32.not_lt.mp h0, t⟩)) rfl
          · exact g_n (c_isStore _) h3 rfl
        · exact g_n (c_isStore _) h2 rfl
      · exact g_n (c_isStore _) h1 rfl
    · unfold F_X9_makes
      refine e_rcv fmO ?_
      by_cases h1 : (0 : Int32) ≤ x ∧ x < nI 4
      · refine g_y (m_isStoreR _) h1 ?_
        by_cases h2 : (0 : Int32) ≤ y ∧ y < nI 4
        · refine g_y (m_isStoreR _) h2 ?_
          by_cases h3 : (0 : Int32) ≤ z ∧ z < nI 3
          · refine g_y (m_inR (n := 2) _ (by decide)) h3 ?_
            have h4 : ¬ ((0 : Int32) ≤ w ∧ w < nI 4) := by
              rcases h with h | h | h | h
              · exact absurd h1 h
              · exact absurd h2 h
              · exact h
              · exact absurd h3 h
            exact g_n (m_isStoreR _) h4 rfl
          · exact g_n (m_inR (n := 2) _ (by decide)) h3 rfl
        · exact g_n (m_isStoreR _) h2 rfl
      · exact g_n (m_isStoreR _) h1 rfl
  rcases rng x (n := 4) (by decide) with ⟨u, hu, rfl⟩ | h
  · rcases rng y (n := 4) (by decide) with ⟨v, hv, rfl⟩ | h
    · rcases rng w (n := 4) (by decide) with ⟨st, hs, rfl⟩ | h
      · rcases rng z (n := 3) (by decide) with ⟨wh, hw, rfl⟩ | h
        · have tC : ∀ v1 v2 R, rI m 290 u = v1 → rI m 290 v = v2 → (if v1 = 0 then J_X8_makes_57 N (S m) else (if v2 = 0 then J_X8_makes_57 N (S m) else (bnd (F_X0_combine N 223 (292 + 3 * u) (292 + 3 * v) (nI wh) 283 (S m)) (fun v18 s => if v18 = 0 then (ldR s 0 8 8 (fun r19 => ldR s 0 8 6 (fun r20 => bnd (F_X5_put N r19 (nI st) r20 s) (fun v21 s => J_X8_makes_115 N v21 s)))) else (J_X8_makes_115 N v18 s))))) = R → F_X8_makes N 0 (nI u) (nI v) (nI wh) (nI st) (S m) = R := by
            intro v1 v2 R h1 h2 hR'
            unfold F_X8_makes
            refine e_rcv fxO ?_
            refine g_y (c_isStore _) (inr hu (by decide)) ?_
            refine g_y (c_isStore _) (inr hv (by decide)) ?_
            refine g_y (c_isStore _) (inr hs (by decide)) ?_
            refine e_f (nI_pos (by omega)) ?_
            refine e_t (by rw [leR (by decide) (by omega)]; show wh ≤ 2; omega) ?_
            refine e_ldR fxO fxR8 ?_
            refine e_ldR fsO fsR0 ?_
            refine e_alZV fsA0 rfl (by omega) h1 ?_
            refine e_i (fun t => ?_) (fun t => ?_)
            · rw [if_pos t] at hR'; exact hR'
            · rw [if_neg t] at hR'
              refine e_ldR fxO fxR8 ?_
              refine e_ldR fsO fsR0 ?_
              refine e_alZV fsA0 rfl (by omega) h2 ?_
              refine e_i (fun t => ?_) (fun t => ?_)
              · rw [if_pos t] at hR'; exact hR'
              · rw [if_neg t] at hR'
                refine e_ldR fxO fxR2 ?_
                refine e_ldR fxO fxR8 ?_
                refine e_ldR fsO fsR1 ?_
                refine e_alR shA (by decide) rfl (by omega) (shR u hu) ?_
                refine e_ldR fxO fxR8 ?_
                refine e_ldR fsO fsR1 ?_
                refine e_alR shA (by decide) rfl (by omega) (shR v hv) ?_
                refine e_ldR fxO fxR6 ?_
                exact hR'
          have tM : ∀ (m1 : vM) v1 v2 R, rI m1 330 u = v1 → rI m1 330 v = v2 → (if v1 = 0 then J_X9_makes_51 N (S m1) else (if v2 = 0 then J_X9_makes_51 N (S m1) else (bnd (F_X9_areUnlike N 322 (nI u) (nI v) (S m1)) (fun v9 s => if v9 = 0 then (if nI wh = 2 then (bnd (F_X9_isTooGreat N 322 (nI u) (nI v) s) (fun v10 s => if v10 = 0 then (J_X9_makes_83 N 322 (nI u) (nI v) (nI wh) (nI st) s) else (some (-4, s)))) else (J_X9_makes_83 N 322 (nI u) (nI v) (nI wh) (nI st) s)) else (some (-2, s)))))) = R → F_X9_makes N 322 (nI u) (nI v) (nI wh) (nI st) (S m1) = R := by
            intro m1 v1 v2 R h1 h2 hR'
            unfold F_X9_makes
            refine e_rcv fmO ?_
            refine g_y (m_isStoreR _) (inr hu (by decide)) ?_
            refine g_y (m_isStoreR _) (inr hv (by decide)) ?_
            refine g_y (m_inR (n := 2) _ (by decide)) (inr hw (by decide)) ?_
            refine g_y (m_isStoreR _) (inr hs (by decide)) ?_
            refine e_ldR fmO fmR9 ?_
            refine e_alZV fmA9 rfl (by omega) h1 ?_
            refine e_i (fun t => ?_) (fun t => ?_)
            · rw [if_pos t] at hR'; exact hR'
            · rw [if_neg t] at hR'
              refine e_ldR fmO fmR9 ?_
              refine e_alZV fmA9 rfl (by omega) h2 ?_
              refine e_i (fun t => ?_) (fun t => ?_)
              · rw [if_pos t] at hR'; exact hR'
              · rw [if_neg t] at hR'; exact hR'
          rcases hR.2.2.1 u hu with ⟨a1, a2, -⟩ | ⟨k1, o, hU⟩
          · exact SameI.ro (-3) hR (tC 0 _ _ a1 rfl (by rw [if_pos rfl]; rfl)) (tM m 0 _ _ a2 rfl (by rw [if_pos rfl]; rfl))
          rcases hR.2.2.1 v hv with ⟨a1, a2, -⟩ | ⟨k2, p, hV⟩
          · exact SameI.ro (-3) hR (tC 1 0 _ hU.1 a1 (by rw [if_neg (by decide), if_pos rfl]; rfl)) (tM m 1 0 _ hU.2.1 a2 (by rw [if_neg (by decide), if_pos rfl]; rfl))
          obtain ⟨b1, b2', b3, b4, b5, b6⟩ := id hU
          obtain ⟨d1, d2, d3, d4, d5, d6⟩ := id hV
          obtain ⟨q, hq⟩ := kqx (k := mn k1 k2)
          have un_q : k1 + k2 ≠ 1 → In q o ∧ In q p := fun un => by
            have := b3.1
            have := d3.1
            exact ⟨b3.inq (fun t => hq.mpr (by unfold mn; split <;> omega)), d3.inq (fun t => hq.mpr (by unfold mn; split <;> omega))⟩
          obtain ⟨m1, vc, c1, c2, c3⟩ := c_combine (N := N) (m := m) (q := q) (w := wh) hN (sumS hu) (sumS hv) sum283 apS apS ap283 b3.1 d3.1 hw hq b3.2.1 d3.2.1 hT b4 d4
          have tC' : ∀ R, (if vc = 0 then (ldR (S m1) 0 8 8 (fun r19 => ldR (S m1) 0 8 6 (fun r20 => bnd (F_X5_put N r19 (nI st) r20 (S m1)) (fun v21 s => J_X8_makes_115 N v21 s)))) else (J_X8_makes_115 N vc (S m1))) = R → F_X8_makes N 0 (nI u) (nI v) (nI wh) (nI st) (S m) = R := by
            intro R h
            refine tC 1 1 R b1 d1 ?_
            rw [if_neg (by decide), if_neg (by decide)]
            exact e_bnd c1 h
          have hR1 : Rel m1 := hR.fr c2 (fun a j hp hc => cm_npr hc hp)
          -- what the model has, as long as only the class has changed
          have keep : ∀ m2, Fr (fun a _ => a < 322) m m2 → rI m2 330 u = 1 ∧ rI m2 330 v = 1 ∧ RowM m2 u o ∧ RowM m2 v p ∧ rI m2 331 u = nI k1 ∧ rI m2 331 v = nI k2 := by
            intro m2 f
            refine ⟨by rw [f.i (by omega)]; exact b2', by rw [f.i (by omega)]; exact d2, fun j hj => ?_, fun j hj => ?_, by rw [f.i (by omega)]; exact b5, by rw [f.i (by omega)]; exact d5⟩
            · rw [← hU.rowM j hj]
              show (rJ m2 332 _, rJ m2 333 _) = (rJ m 332 _, rJ m 333 _)
              rw [f.j (by omega), f.j (by omega)]
            · rw [← hV.rowM j hj]
              show (rJ m2 332 _, rJ m2 333 _) = (rJ m 332 _, rJ m 333 _)
              rw [f.j (by omega), f.j (by omega)]
          have c322 : Fr (fun a _ => a < 322) m m1 := c2.mo (fun a j w => by unfold cmP muQ at w; omega)
          obtain ⟨k330, k330', kr1, kr2, kk1, kk2⟩ := keep m1 c322
          by_cases un : k1 + k2 = 1
          · rw [if_pos un] at c3
            subst c3
            refine ⟨-2, m1, m1, tC' _ (e_f (by decide) rfl), tM m1 1 1 _ k330 k330' ?_, hR1⟩
            rw [if_neg (by decide), if_neg (by decide)]
            exact g_y (m_areUnlike (by omega) (by omega) b3.1 d3.1 kk1 kk2) un rfl
          rw [if_neg un] at c3
          obtain ⟨io, ip⟩ := un_q un
          by_cases tg : tooX wh q o p = true
          · rw [if_pos tg] at c3
            subst c3
            have tg2 := of_decide_eq_true tg
            refine ⟨-4, m1, m1, tC' _ (e_f (by decide) rfl), tM m1 1 1 _ k330 k330' ?_, hR1⟩
            rw [if_neg (by decide), if_neg (by decide)]
            refine g_n (m_areUnlike (by omega) (by omega) b3.1 d3.1 kk1 kk2) un ?_
            refine e_t (by rw [tg2.1]; rfl) ?_
            rcases m_isTooGreat (N := N) hN b3.1 d3.1 hq (show u < 16 by omega) (show v < 16 by omega) io ip hR1.1 kr1 kr2 kk1 kk2 with ⟨_, g⟩ | ⟨g, _⟩
            · exact e_bnd g (e_f (by decide) rfl)
            · exact absurd tg2.2 g
          rw [if_neg tg] at c3
          -- the model goes on in row 13
          have goM : ∀ (m2 : vM), Fr (fun a _ => a < 322) m m2 → Tab m2 → ∃ m3, (∀ R, J_X9_makes_124 N 322 (nI st) (S m3) = R → F_X9_makes N 322 (nI u) (nI v) (nI wh) (nI st) (S m2) = R) ∧ Fr (moQ 13) m2 m3 ∧ match sumX wh q o p with
              | some row => rI m3 322 25 = 0 ∧ RowM m3 13 row ∧ rI m3 331 13 = nI (kdE row (mn k1 k2))
              | none => rI m3 322 25 = 1 := by
            intro m2 f2 hT2
            obtain ⟨a1, a2, a3, a4, a5, a6⟩ := keep m2 f2
            have f0 : Fr (moQ 13) m2 (wI m2 322 25 0) := Fr.rf.sI (Or.inl (Or.inl ⟨rfl, by omega⟩))
            obtain ⟨m3, g1, g2, g3⟩ := m_sumX (N := N) (m := wI m2 322 25 0) (q := q) (wh := wh) (K := fun _ => none) hN (show u < 13 by omega) (show v < 13 by omega) hw b3.1 d3.1 hq b3.2.1 d3.2.1 io ip (hT2.fr (fun b j hb => f0 b j (moQ_tab hb))) (rI_s _ _ _ _) a3 a4 (by rw [rI_n _ _ (by omega)]; exact a5) (by rw [rI_n _ _ (by omega)]; exact a6) rfl
            refine ⟨m3, fun R hR' => ?_, f0.tr g2, g3⟩
            refine tM m2 1 1 R a1 a2 ?_
            rw [if_neg (by decide), if_neg (by decide)]
            refine g_n (m_areUnlike (by omega) (by omega) b3.1 d3.1 a5 a6) un ?_
            have j83 : J_X9_makes_83 N 322 (nI u) (nI v) (nI wh) (nI st) (S m2) = R := by
              unfold J_X9_makes_83
              refine e_stZ fmO (Or.inl rfl) ?_
              by_cases z2 : wh = 2
              · rw [if_pos z2] at g1
                refine e_t (by rw [z2]; rfl) ?_
                exact e_bnd g1 hR'
              · rw [if_neg z2] at g1
                refine e_f (by rw [eqR (by decide) (by omega)]; exact z2) ?_
                by_cases z1 : wh = 1
                · rw [if_pos z1] at g1
                  refine e_t (by rw [z1]; rfl) ?_
                  unfold J_X9_makes_119
                  exact e_bnd g1 hR'
                · rw [if_neg z1] at g1
                  refine e_f (by rw [eqR (by decide) (by omega)]; exact z1) ?_
                  unfold J_X9_makes_119
                  exact e_bnd g1 hR'
            by_cases z2 : wh = 2
            · refine e_t (by rw [z2]; rfl) ?_
              rcases m_isTooGreat (N := N) hN b3.1 d3.1 hq (show u < 16 by omega) (show v < 16 by omega) io ip hT2 a3 a4 a5 a6 with ⟨g, _⟩ | ⟨_, g⟩
              · exact absurd (decide_eq_true ⟨z2, g⟩) tg
              · exact e_bnd g (e_t rfl j83)
            · exact e_f (by rw [eqR (by decide) (by omega)]; exact z2) j83
          cases hres : sumX wh q o p with
          | none =>
            rw [hres] at c3
            subst c3
            obtain ⟨m3, g1, g2, g3⟩ := goM m1 c322 hR1.1
            rw [hres] at g3
            refine ⟨-6, m1, m3, tC' _ (e_f (by decide) rfl), g1 _ ?_, hR1.fr g2 (fun a j hp hc => mo_npr hc hp)⟩
            unfold J_X9_makes_124
            refine e_ldIV fmO g3 ?_
            exact e_f (by decide) rfl
          | some row =>
            rw [hres] at c3
            obtain ⟨rfl, c4, c5⟩ := c3
            have good := sumX_good b3 d3 un hq hres c5
            obtain ⟨m2, p1, p2, p3, p4⟩ := c_put (N := N) (m := m1) hN hs sum283 (by omega) c4
            have f12 : Fr (fun a _ => a < 322) m m2 := c322.tr (p2.mo (fun a j w => by omega))
            have hT2 : Tab m2 := hR1.1.fr (fun b j hb => p2 b j (by unfold tabP at hb; omega))
            obtain ⟨m3, g1, g2, g3⟩ := goM m2 f12 hT2
            rw [hres] at g3
            obtain ⟨m4, s1, s2, s3, s4⟩ := m_store (N := N) (m := m3) hN hs g3.2.1 g3.2.2
            refine ⟨nI (nt row), m2, wI m4 330 st 1, tC' _ ?_, g1 _ ?_, ?_⟩
            · refine e_t rfl ?_
              refine e_ldR fxO fxR8 ?_
              refine e_ldR fxO fxR6 ?_
              exact e_bnd p1 rfl
            · unfold J_X9_makes_124
              refine e_ldIV fmO g3.1 ?_
              refine e_t rfl ?_
              refine e_bnd s1 ?_
              refine e_ldR fmO fmR9 ?_
              refine e_asZ fmA9 rfl (by omega) (Or.inr rfl) ?_
              exact e_bnd (m_ntR (by omega) hN (o := row) s4) rfl
            · have f4 : Fr (fun a j => moQ 13 a j ∨ (a = 331 ∧ j = st) ∨ ((a = 332 ∨ a = 333) ∧ 29 * st ≤ j ∧ j < 29 * st + 29)) m2 m4 := (g2.mo (fun _ _ w => Or.inl w)).tr (s2.mo (fun _ _ w => Or.inr w))
              refine hR.store hs (((((c2.mo (fun a j w => Or.inl (cm_npr w))).tr (p2.mo (fun a j w => Or.inr (by omega)))).tr (f4.mo (fun a j w => w.elim (fun w => Or.inl (mo_npr w)) (fun w => Or.inr (by omega)))))).tr (Fr.rf.sI (Or.inr (by omega)))) (Or.inr ⟨_, row, ?_, rI_s _ _ _ _, good, ?_, ?_, fun j hj => s4 j hj⟩)
              · rw [rI_n _ _ (by omega), f4.i (by unfold moQ moP; omega)]
                exact p3
              · exact p4.same (fun b j hb => ⟨by rw [rI_n _ _ (by omega), f4.i (by unfold moQ moP; omega)], by
                  show rJ m4 b j = _
                  rw [f4.j (by unfold moQ moP; omega)]⟩)
              · rw [rI_n _ _ (by omega)]
                exact s3
        · exact no (Or.inr (Or.inr (Or.inr h)))
      · exact no (Or.inr (Or.inr (Or.inl h)))
    · exact no (Or.inr (Or.inl h))
  · exact no (Or.inl h)
end CALLS6
