section RDA
variable {N z a : Nat} {t : Nat → Nat} {m m' : vM} {s : vS}
theorem m_isOne {f : Nat} {T : List Tok} {L : List Lev} (hN : 100 ≤ N) (hz : z < a + f) (hTb : Tab m) (h : StM m z t a T L) :
    ∃ v m', F_X9_isOne N 322 (S m) = some (v, S m') ∧ Fr mqP m m' ∧ ((v = 0 ∧ ∃ b, (pars t z f a false L).1 = some b ∧ b ≤ z ∧ rI m' 322 29 = nI b) ∨ (v = 1 ∧ ∃ b T' L', (pars t z f a false L).1 = some b ∧ fig t z b ∧ StM m' z t b T' L') ∨ (v = 1 ∧ ∃ f' a' X L', f' < f ∧ z < a' + f' ∧ StM m' z t a' (T ++ X) L' ∧ pars t z f a false L = ((pars t z f' a' true L').1, X ++ (pars t z f' a' true L').2))) := by
  obtain ⟨v, m', g1, g2, g3⟩ := m_isOne_l (N := N) hN f a N T L m hz (by omega) hTb h
  refine ⟨v, m', ?_, g2, g3⟩
  unfold F_X9_isOne
  refine e_rcv fmO ?_
  refine e_bnd (m_here h.1.1 h.1.2.1 h.1.2.2) ?_
  exact g1
/-- a sign behind a ONE -/
theorem StM.sgn {T : List Tok} {L L' : List Lev} {x : Tok} {m1 : vM} (h : StM m z t a T L) (ha : a < z) (f : Fr mqP m m1) (hO : TokM m1 (T ++ [x])) (h35 : rI m1 322 35 = nI (L'.length - 1)) (hOp : OpnM t m1 L') (hG : LevG t z L') : StM (wI m1 322 29 (nI (a + 1))) z t (a + 1) (T ++ [x]) L' := by
  have fa : Fr atP m1 (wI m1 322 29 (nI (a + 1))) := Fr.rf.sI ⟨rfl, rfl⟩
  exact ⟨⟨(h.1.1.fr f).fr (fa.mo (fun _ _ => at_mq)), ha, rI_s _ _ _ _⟩, ⟨hO.fr fa, by rw [List.length_append]; have := h.2.1.2; show T.length + 1 ≤ a + 1; omega⟩, by rw [rI_n _ _ (by omega)]; exact h35, hOp.same (fun j _ => rI_n _ _ (by omega)), hG⟩
theorem m_text_l (hN : 100 ≤ N) : ∀ (n f a : Nat) (T : List Tok) (L : List Lev) (m : vM), f ≤ n → z < a + f → Tab m → StM m z t a T L →
    ∃ v m', H_X9_isText_24 N n 322 (S m) = some (v, S m') ∧ Fr mqP m m' ∧ ((v = 0 ∧ ∃ b, (pars t z f a true L).1 = some b ∧ b ≤ z ∧ rI m' 322 29 = nI b) ∨ (v = 1 ∧ (pars t z f a true L).1 = none ∧ TokM m' (T ++ (pars t z f a true L).2) ∧ (T ++ (pars t z f a true L).2).length ≤ 60))
  | 0, f, a, T, L, m, h1, h2, _, h => by
    have := h.1.2.1
    omega
  | n + 1, 0, a, T, L, m, h1, h2, _, h => by
    have := h.1.2.1
    omega
  | n + 1, f + 1, a, T, L, m, h1, h2, hTb, h => by
    obtain ⟨⟨hT, haz, h9⟩, ⟨hO, hOl⟩, h35, hOp, hG⟩ := id h
    have h60 := hT.1
    have hpos := hG.1.pos
    have h4 := hG.2.1
    have lit : ∀ k : Nat, k < 128 → (hr t z a = nI k ↔ (a < z ∧ t a = k)) := fun k hk => hr_eq hT hk
    by_cases wend : ¬ a < z ∧ L.length = 1
    · -- the whole text
      rw [pars_end wend.1]
      refine ⟨1, m, ?_, Fr.rf, Or.inr ⟨rfl, if_pos ⟨rfl, wend.2⟩, by rw [List.append_nil]; exact hO, by rw [List.append_nil]; omega⟩⟩
      refine Eq.trans u_H_X9_isText_24 ?_
      refine e_ldIV fmO (h9) ?_
      refine e_ldIV fmO (hT.2.1) ?_
      refine e_f (by rw [nI_ltI (by omega) (by omega)]; exact wend.1) ?_
      refine e_ldIV fmO (h35) ?_
      refine e_t (by rw [wend.2]; exact Int32.le_refl _) ?_
      rfl
    have start : ∀ R, J_X9_isText_42 N (H_X9_isText_24 N n) 322 (S m) = R → H_X9_isText_24 N (n + 1) 322 (S m) = R := by
      intro R hR
      refine Eq.trans u_H_X9_isText_24 ?_
      refine e_ldIV fmO (h9) ?_
      refine e_ldIV fmO (hT.2.1) ?_
      by_cases w : a < z
      · exact e_t (by rw [nI_ltI (by omega) (by omega)]; exact w) hR
      · refine e_f (by rw [nI_ltI (by omega) (by omega)]; exact w) ?_
        refine e_ldIV fmO (h35) ?_
        exact e_f (by rw [leR (by decide) (by omega)]; show ¬ L.length - 1 ≤ 0; omega) hR
    have hhere := m_here (N := N) hT haz h9
    by_cases wop : a < z ∧ opr (t a)
    · -- + - *
      obtain ⟨w, wo⟩ := wop
      have hh : hr t z a = nI (t a) := if_pos w
      match L, h, hG, hpos, h4, h35, hOp, wend with
      | g :: r, h, hG, hpos, h4, h35, hOp, wend =>
        have e1 : tkn t z a true (g :: r) = .inr ((t a, a, 0, 0), a + 1) := by
          unfold tkn
          rw [if_pos rfl, if_pos (Or.inr wo)]
        obtain ⟨k1, k2, k3, k4⟩ := tkn_ok w e1
        have hG2 := ok_lev hG k1
        have hlv : ∃ g' : Lev, lvn (t a, a, 0, 0) (g :: r) = g' :: r ∧ g'.1 = g.1 ∧ bhn (t a, a, 0, 0) = false := by
          by_cases y : t a = 42
          · obtain ⟨-, b1, b2'⟩ := emi_t (t := t) (x := (t a, a, 0, 0)) (g := g) (r := r) y
            exact ⟨_, b1, rfl, b2'⟩
          · obtain ⟨-, b1, b2'⟩ := emi_s (t := t) (x := (t a, a, 0, 0)) (g := g) (r := r) (show t a = 43 ∨ t a = 45 by unfold opr at wo; omega)
            exact ⟨_, b1, rfl, b2'⟩
        obtain ⟨g', l1, l2, l3⟩ := hlv
        rw [l1] at hG2
        have hp := pars_ok (f := f) w e1
        rw [l1, l3] at hp
        obtain ⟨m1, d1, d2, d3⟩ := m_add (N := N) hO (by omega) (t a) a 0 0
        have hmc : mc (t a) = t a := if_neg (by unfold opr at wo; omega)
        rw [hmc] at d1
        have f1 : Fr mqP m m1 := d2.mo (fun _ _ => ad_mq)
        have f2 : Fr mqP m (wI m1 322 29 (nI (a + 1))) := f1.sI (Or.inl ⟨rfl, by omega⟩)
        have hS2 : StM (wI m1 322 29 (nI (a + 1))) z t (a + 1) (T ++ [(t a, a, 0, 0)]) (g' :: r) := h.sgn w f1 d3 (by rw [d2.i (by unfold adP; omega)]; exact h35) ⟨fun k hk o ho => by rw [d2.i (by unfold adP; omega)]; exact hOp.1 k hk o (l2 ▸ ho), hOp.2.same (fun j _ => d2.i (by unfold adP; omega))⟩ hG2
        have hTb2 : Tab (wI m1 322 29 (nI (a + 1))) := hTb.fr (fun b j hb => f2 b j (mq_tab hb))
        obtain ⟨v, m3, i1, i2, i3⟩ := m_isOne (N := N) (f := f) hN (by omega) hTb2 hS2
        have start2 : ∀ R, (if v = 0 then rtZ (0) (S m3) else H_X9_isText_24 N n 322 (S m3)) = R → H_X9_isText_24 N (n + 1) 322 (S m) = R := by
          intro R hR
          refine start R ?_
          have j65 : J_X9_isText_65 N (H_X9_isText_24 N n) 322 (nI (t a)) (S m) = R := by
            unfold J_X9_isText_65
            refine e_ldIV fmO (h9) ?_
            refine e_bnd (d1) ?_
            refine e_ldIV fmO (show rI _ 322 29 = nI a by rw [d2.i (by unfold adP; omega)]; exact h9) ?_
            rw [addR]
            refine e_stI fmO ?_
            refine e_bnd (i1) ?_
            exact hR
          unfold J_X9_isText_42
          refine e_bnd (hhere) ?_
          rw [hh]
          by_cases y1 : t a = 43
          · exact e_t (by rw [y1]; rfl) j65
          · refine e_f (fun q => y1 ((nI_eq (by unfold opr at wo; omega) (by omega)).mp q)) ?_
            by_cases y2 : t a = 45
            · exact e_t (by rw [y2]; rfl) j65
            · refine e_f (fun q => y2 ((nI_eq (by unfold opr at wo; omega) (by omega)).mp q)) ?_
              have y3 : t a = 42 := by
                rcases wo with y | y | y
                · exact absurd y y1
                · exact absurd y y2
                · exact y
              exact e_t (by rw [y3]; rfl) j65
        rw [hp]
        rcases i3 with ⟨v0, b, b1, b2', b3⟩ | ⟨v1, b, T', L', b1, b2', b3⟩ | ⟨v1, f', a', X, L', b1, b2', b3, b4⟩
        · exact ⟨0, m3, start2 _ (e_t v0 rfl), f2.tr i2, Or.inl ⟨rfl, b, b1, b2', b3⟩⟩
        · -- a figure too many: the loop goes on, and ends
          have bz := b2'.1
          have hT3 := b3.1.1
          have h93 := b3.1.2.2
          have hG3 := b3.2.2.2.2
          have hl4 := hG3.2.1
          have hp3 := hG3.1.pos
          have t57 := b2'.2
          have n1 : ∀ k : Nat, k < 128 → ¬ (48 ≤ k ∧ k ≤ 57) → ¬ hr t z b = nI k := fun k hk hn q => by have := ((hr_eq hT3 hk).mp q).2; omega
          refine ⟨0, m3, start2 _ ?_, f2.tr i2, Or.inl ⟨rfl, b, b1, by omega, h93⟩⟩
          refine e_f (by rw [v1]; decide) ?_
          have hn : ∃ n', n = n' + 1 := ⟨n - 1, by have := hS2.1.2.1; omega⟩
          obtain ⟨n', rfl⟩ := hn
          refine Eq.trans u_H_X9_isText_24 ?_
          refine e_ldIV fmO (h93) ?_
          refine e_ldIV fmO (hT3.2.1) ?_
          refine e_t (by rw [nI_ltI (by omega) (by omega)]; exact bz) ?_
          unfold J_X9_isText_42
          refine e_bnd (m_here hT3 (by omega) h93) ?_
          refine e_f (n1 43 (by omega) (by omega)) ?_
          refine e_f (n1 45 (by omega) (by omega)) ?_
          refine e_f (n1 42 (by omega) (by omega)) ?_
          refine e_ldIV fmO (b3.2.2.1) ?_
          by_cases y : L'.length = 1
          · refine e_t (by rw [y]; exact Int32.le_refl _) ?_
            rfl
          · refine e_f (by rw [leR (by decide) (by omega)]; show ¬ L'.length - 1 ≤ 0; omega) ?_
            refine e_ldR fmO fmR36 ?_
            refine e_ldIV fmO (b3.2.2.1) ?_
            refine e_alI fmA36 (j := L'.length - 2) (by rw [subR (by show 1 ≤ L'.length - 1; omega)]; exact congrArg nI (by show L'.length - 1 - 1 = _; omega)) (by omega) ?_
            refine e_i (fun _ => ?_) (fun _ => ?_)
            · unfold J_X9_isText_126
              refine e_f (n1 41 (by omega) (by omega)) ?_
              rfl
            · unfold J_X9_isText_126
              refine e_f (n1 125 (by omega) (by omega)) ?_
              rfl
        · obtain ⟨v2, m4, j1, j2, j3⟩ := m_text_l hN n f' a' _ L' m3 (by omega) b2' (hTb2.fr (fun b j hb => i2 b j (mq_tab hb))) b3
          refine ⟨v2, m4, start2 _ (e_f (by rw [v1]; decide) j1), (f2.tr i2).tr j2, ?_⟩
          rw [b4]
          rcases j3 with ⟨w0, b, c1, c2, c3⟩ | ⟨w1, c1, c2, c3⟩
          · exact Or.inl ⟨w0, b, c1, c2, c3⟩
          · refine Or.inr ⟨w1, c1, ?_, ?_⟩
            · rw [show T ++ (t a, a, 0, 0) :: (X ++ (pars t z f' a' true L').2) = (T ++ [(t a, a, 0, 0)]) ++ X ++ (pars t z f' a' true L').2 by simp]
              exact c2
            · rw [show T ++ (t a, a, 0, 0) :: (X ++ (pars t z f' a' true L').2) = (T ++ [(t a, a, 0, 0)]) ++ X ++ (pars t z f' a' true L').2 by simp]
              exact c3
    · -- no sign of these
      have no : ∀ k : Nat, k = 43 ∨ k = 45 ∨ k = 42 → ¬ hr t z a = nI k := fun k hk q => by
        have := (lit k (by omega)).mp q
        exact wop ⟨this.1, by unfold opr; omega⟩
      have start2 : ∀ R, (ldI (S m) 322 9 35 (fun v6 => if v6 ≤ (0) then (J_X9_isText_163 N (S m)) else (ldR (S m) 322 9 36 (fun r7 => ldI (S m) 322 9 35 (fun v8 => alI (S m) r7 (v8 - (1)) (fun v9 => if v9 = (40) then (J_X9_isText_126 N (H_X9_isText_24 N n) 322 (hr t z a) (hr t z a) (41) (S m)) else (J_X9_isText_126 N (H_X9_isText_24 N n) 322 (hr t z a) (hr t z a) (125) (S m)))))))) = R → H_X9_isText_24 N (n + 1) 322 (S m) = R := by
        intro R hR
        refine start R ?_
        unfold J_X9_isText_42
        refine e_bnd (hhere) ?_
        refine e_f (no 43 (by omega)) ?_
        refine e_f (no 45 (by omega)) ?_
        refine e_f (no 42 (by omega)) ?_
        exact hR
      match L, h, hG, hpos, h4, h35, hOp, wend with
      | [g], h, hG, hpos, h4, h35, hOp, wend =>
        have w : a < z := by
          rcases Nat.lt_or_ge a z with y | y
          · exact y
          · exact absurd ⟨by omega, rfl⟩ wend
        have hg : g.1 = none := hG.1
        have e1 : tkn t z a true [g] = .inl a := by
          unfold tkn
          rw [if_pos rfl, if_neg (fun q => q.elim (fun q => by
            obtain ⟨-, -, o, ho⟩ := cls_r hG.1 (show cls t g (t a) from q)
            rw [hg] at ho
            cases ho) (fun q => wop ⟨w, q⟩))]
        rw [pars_bad w e1]
        refine ⟨0, m, start2 _ ?_, Fr.rf, Or.inl ⟨rfl, a, rfl, haz, h9⟩⟩
        refine e_ldIV fmO (h35) ?_
        refine e_t (Int32.le_refl 0) ?_
        rfl
      | g :: g2 :: r, h, hG, hpos, h4, h35, hOp, wend =>
        have hlen : (g :: g2 :: r).length = r.length + 2 := rfl
        obtain ⟨⟨o, ho⟩, hW2⟩ := hG.1
        have to := (hG.2.2.2 g List.mem_cons_self).2 o ho
        have h35' : rI m 322 35 = nI (r.length + 1) := h35
        have h348 : rI m 348 r.length = nI (t o) := hOp.1 r.length rfl o ho
        have opc_ : opc t g = t o := by unfold opc; rw [ho]
        have start3 : ∀ R, (if nI (t o) = (40) then (J_X9_isText_126 N (H_X9_isText_24 N n) 322 (hr t z a) (hr t z a) (41) (S m)) else (J_X9_isText_126 N (H_X9_isText_24 N n) 322 (hr t z a) (hr t z a) (125) (S m))) = R → H_X9_isText_24 N (n + 1) 322 (S m) = R := by
          intro R hR
          refine start2 R ?_
          refine e_ldIV fmO (h35') ?_
          refine e_f (by rw [leR (by decide) (by omega)]; show ¬ r.length + 1 ≤ 0; omega) ?_
          refine e_ldR fmO fmR36 ?_
          refine e_ldIV fmO (h35') ?_
          refine e_alIV fmA36 (j := r.length) (by rw [subR (by show 1 ≤ r.length + 1; omega)]; rfl) (by omega) h348 ?_
          exact hR
        by_cases wc : a < z ∧ cls t g (t a)
        · -- a closing one
          obtain ⟨w, wc⟩ := wc
          have hh : hr t z a = nI (t a) := if_pos w
          have hc : t a = 41 ∨ t a = 125 := wc.elim (fun q => Or.inl q.2) (fun q => Or.inr q.2)
          have e1 : tkn t z a true (g :: g2 :: r) = .inr ((t a, a, 0, 0), a + 1) := by
            unfold tkn
            rw [if_pos rfl]
            exact if_pos (Or.inl wc)
          obtain ⟨k1, k2, k3, k4⟩ := tkn_ok w e1
          have hG2 := ok_lev hG k1
          obtain ⟨-, l1, l3⟩ := emi_c (t := t) (x := (t a, a, 0, 0)) (g := g) (g2 := g2) (r := r) hc
          rw [l1] at hG2
          have hp := pars_ok (f := f) w e1
          rw [l1, l3] at hp
          have f0 : Fr mqP m (wI m 322 35 (nI r.length)) := Fr.rf.sI (Or.inl ⟨rfl, by omega⟩)
          have hO0 : TokM (wI m 322 35 (nI r.length)) T := ⟨by rw [rI_n _ _ (by omega)]; exact hO.1, fun i x hx => by
            rw [rI_n _ _ (by omega), rI_n _ _ (by omega), rI_n _ _ (by omega), rI_n _ _ (by omega)]
            exact hO.2 i x hx⟩
          obtain ⟨m1, d1, d2, d3⟩ := m_add (N := N) hO0 (by omega) (t a) a 0 0
          have hmc : mc (t a) = t a := if_neg (by omega)
          rw [hmc] at d1
          have f1 : Fr mqP m m1 := f0.tr (d2.mo (fun _ _ => ad_mq))
          have f2 : Fr mqP m (wI m1 322 29 (nI (a + 1))) := f1.sI (Or.inl ⟨rfl, by omega⟩)
          have hS2 : StM (wI m1 322 29 (nI (a + 1))) z t (a + 1) (T ++ [(t a, a, 0, 0)]) ((g2.1, g2.2.1, none) :: r) := h.sgn w f1 d3 (by rw [d2.i (by unfold adP; omega), rI_s]; rfl) ⟨fun k hk o ho => by rw [d2.i (by unfold adP; omega), rI_n _ _ (by omega)]; exact hOp.2.1 k hk o ho, hOp.2.2.same (fun j _ => by rw [d2.i (by unfold adP; omega), rI_n _ _ (by omega)])⟩ hG2
          have hTb2 : Tab (wI m1 322 29 (nI (a + 1))) := hTb.fr (fun b j hb => f2 b j (mq_tab hb))
          obtain ⟨v2, m4, j1, j2, j3⟩ := m_text_l hN n f (a + 1) _ _ _ (by omega) (by omega) hTb2 hS2
          have j126 : ∀ k1 : Int32, k1 = nI (t a) → J_X9_isText_126 N (H_X9_isText_24 N n) 322 (hr t z a) (hr t z a) k1 (S m) = some (v2, S m4) := by
            intro k1 hk1
            unfold J_X9_isText_126
            refine e_t (hh.trans hk1.symm) ?_
            refine e_ldIV fmO (h35') ?_
            rw [subR (by show 1 ≤ r.length + 1; omega)]
            refine e_stI fmO ?_
            refine e_ldIV fmO (show rI _ 322 29 = nI a by rw [rI_n _ _ (by omega)]; exact h9) ?_
            rw [hh]
            refine e_bnd (d1) ?_
            refine e_ldIV fmO (show rI _ 322 29 = nI a by rw [d2.i (by unfold adP; omega), rI_n _ _ (by omega)]; exact h9) ?_
            rw [addR]
            refine e_stI fmO ?_
            exact j1
          rw [hp]
          refine ⟨v2, m4, start3 _ ?_, f2.tr j2, ?_⟩
          · rcases wc with q | q
            · rw [opc_] at q
              exact e_t (by rw [q.1]; rfl) (j126 41 (by rw [q.2]; rfl))
            · rw [opc_] at q
              exact e_f (by rw [q.1]; decide) (j126 125 (by rw [q.2]; rfl))
          · rcases j3 with ⟨w0, b, c1, c2, c3⟩ | ⟨w1, c1, c2, c3⟩
            · exact Or.inl ⟨w0, b, c1, c2, c3⟩
            · refine Or.inr ⟨w1, c1, ?_, ?_⟩
              · rw [show T ++ (t a, a, 0, 0) :: (pars t z f (a + 1) true ((g2.1, g2.2.1, none) :: r)).2 = (T ++ [(t a, a, 0, 0)]) ++ (pars t z f (a + 1) true ((g2.1, g2.2.1, none) :: r)).2 by simp]
                exact c2
              · rw [show T ++ (t a, a, 0, 0) :: (pars t z f (a + 1) true ((g2.1, g2.2.1, none) :: r)).2 = (T ++ [(t a, a, 0, 0)]) ++ (pars t z f (a + 1) true ((g2.1, g2.2.1, none) :: r)).2 by simp]
                exact c3
        · -- none
          have bad_ : H_X9_isText_24 N (n + 1) 322 (S m) = some (0, S m) := by
            refine start3 _ ?_
            rcases to with y | y
            · refine e_t (by rw [y]; rfl) ?_
              unfold J_X9_isText_126
              refine e_f (fun q => wc ⟨((lit 41 (by omega)).mp q).1, Or.inl ⟨by rw [opc_]; exact y, ((lit 41 (by omega)).mp q).2⟩⟩) ?_
              rfl
            · refine e_f (by rw [y]; decide) ?_
              unfold J_X9_isText_126
              refine e_f (fun q => wc ⟨((lit 125 (by omega)).mp q).1, Or.inr ⟨by rw [opc_]; exact y, ((lit 125 (by omega)).mp q).2⟩⟩) ?_
              rfl
          by_cases w : a < z
          · have e1 : tkn t z a true (g :: g2 :: r) = .inl a := by
              unfold tkn
              rw [if_pos rfl]
              exact if_neg (fun q => q.elim (fun q => wc ⟨w, q⟩) (fun q => wop ⟨w, q⟩))
            rw [pars_bad w e1]
            exact ⟨0, m, bad_, Fr.rf, Or.inl ⟨rfl, a, rfl, haz, h9⟩⟩
          · have hp : pars t z (f + 1) a true (g :: g2 :: r) = (some z, []) := by rw [pars_end w, if_neg (fun q => by have := q.2; omega)]
            rw [hp]
            exact ⟨0, m, bad_, Fr.rf, Or.inl ⟨rfl, z, rfl, Nat.le_refl _, by rw [h9]; exact congrArg nI (by omega)⟩⟩
theorem m_isText (hN : 200 ≤ N) (hTb : Tab m) (hT : TpM m z t) : ∃ v m', F_X9_isText N 322 (S m) = some (v, S m') ∧ Fr mqP m m' ∧ ((v = 0 ∧ ∃ b, (pars t z 61 0 false L0).1 = some b ∧ b ≤ z ∧ rI m' 322 29 = nI b) ∨ (v = 1 ∧ (pars t z 61 0 false L0).1 = none ∧ TokM m' (pars t z 61 0 false L0).2 ∧ (pars t z 61 0 false L0).2.length ≤ 60)) := by
  have h60 := hT.1
  have f : Fr mqP m (wI (wI (wI m 322 29 (nI 0)) 322 30 (nI 0)) 322 35 (nI 0)) := ((Fr.rf.sI (Or.inl ⟨rfl, by omega⟩)).sI (Or.inl ⟨rfl, by omega⟩)).sI (Or.inl ⟨rfl, by omega⟩)
  have hS : StM (wI (wI (wI m 322 29 (nI 0)) 322 30 (nI 0)) 322 35 (nI 0)) z t 0 [] L0 := by
    refine ⟨⟨hT.fr f, Nat.zero_le _, ?_⟩, ⟨⟨?_, fun i x hx => by cases hx⟩, Nat.le_refl _⟩, rI_s _ _ _ _, ⟨fun k hk => ?_, trivial⟩, ⟨rfl, by decide, fun g hg p hp => ?_, fun g hg => ?_⟩⟩
    · rw [rI_n _ _ (by omega), rI_n _ _ (by omega), rI_s]
    · rw [rI_n _ _ (by omega), rI_s]
      rfl
    · have hk : 0 = k + 1 := hk
      omega
    · rcases List.mem_cons.mp hg with rfl | hg
      · rcases hp with hp | hp | hp <;> cases hp
      · cases hg
    · rcases List.mem_cons.mp hg with rfl | hg
      · exact ⟨fun q hq => absurd (show (none : Option Nat) = some q from hq) (fun w => by cases w), fun q hq => absurd (show (none : Option Nat) = some q from hq) (fun w => by cases w)⟩
      · cases hg
  have hTb1 : Tab (wI (wI (wI m 322 29 (nI 0)) 322 30 (nI 0)) 322 35 (nI 0)) := hTb.fr (fun b j hb => f b j (mq_tab hb))
  obtain ⟨v, m1, g1, g2, g3⟩ := m_isOne (N := N) (f := 61) (by omega) (by omega) hTb1 hS
  have start : ∀ R, (if v = 0 then rtZ (0) (S m1) else H_X9_isText_24 N N 322 (S m1)) = R → F_X9_isText N 322 (S m) = R := by
    intro R hR
    unfold F_X9_isText
    refine e_rcv fmO ?_
    refine e_stI fmO ?_
    refine e_stI fmO ?_
    refine e_stI fmO ?_
    refine e_bnd (g1) ?_
    exact hR
  rcases g3 with ⟨v0, b, b1, b2', b3⟩ | ⟨v1, b, T', L', b1, b2', b3⟩ | ⟨v1, f', a', X, L', b1, b2', b3, b4⟩
  · exact ⟨0, m1, start _ (e_t v0 rfl), f.tr g2, Or.inl ⟨rfl, b, b1, b2', b3⟩⟩
  · have bz := b2'.1
    have hp : pars t z 61 b true L' = (some b, []) := by
      refine pars_bad bz ?_
      unfold tkn
      rw [if_pos rfl, if_neg]
      have := b2'.2
      unfold cls opr
      omega
    obtain ⟨v2, m4, j1, j2, j3⟩ := m_text_l (N := N) (by omega) N 61 b T' L' m1 (by omega) (by omega) (hTb1.fr (fun b j hb => g2 b j (mq_tab hb))) b3
    rw [hp] at j3
    rcases j3 with ⟨w0, b', c1, c2, c3⟩ | ⟨w1, c1, _⟩
    · cases c1
      exact ⟨v2, m4, start _ (e_f (by rw [v1]; decide) j1), (f.tr g2).tr j2, Or.inl ⟨w0, b, b1, c2, c3⟩⟩
    · cases c1
  · obtain ⟨v2, m4, j1, j2, j3⟩ := m_text_l (N := N) (by omega) N f' a' _ L' m1 (by omega) b2' (hTb1.fr (fun b j hb => g2 b j (mq_tab hb))) b3
    rw [b4]
    refine ⟨v2, m4, start _ (e_f (by rw [v1]; decide) j1), (f.tr g2).tr j2, ?_⟩
    rcases j3 with ⟨w0, b, c1, c2, c3⟩ | ⟨w1, c1, c2, c3⟩
    · exact Or.inl ⟨w0, b, c1, c2, c3⟩
    · exact Or.inr ⟨w1, c1, c2, c3⟩
end RDA
