section RD9
variable {N z a : Nat} {t : Nat → Nat} {m m' : vM} {s : vS}
def OpnM (t : Nat → Nat) (m : vM) : List Lev → Prop
  | [] => True
  | g :: r => (∀ k, r.length = k + 1 → ∀ o, g.1 = some o → rI m 348 k = nI (t o)) ∧ OpnM t m r
theorem OpnM.same : ∀ {L : List Lev}, OpnM t m L → (∀ j, j + 1 < L.length → rI m' 348 j = rI m 348 j) → OpnM t m' L
  | [], _, _ => trivial
  | g :: r, h, e => by
    have hl : (g :: r).length = r.length + 1 := rfl
    exact ⟨fun k hk o ho => by rw [e k (by omega)]; exact h.1 k hk o ho, OpnM.same h.2 (fun j hj => e j (by omega))⟩
/-- the model's text, on the way -/
def StM (m : vM) (z : Nat) (t : Nat → Nat) (a : Nat) (T : List Tok) (L : List Lev) : Prop := (TpM m z t ∧ a ≤ z ∧ rI m 322 29 = nI a) ∧ (TokM m T ∧ T.length ≤ a) ∧ rI m 322 35 = nI (L.length - 1) ∧ OpnM t m L ∧ LevG t z L
def ndP (b j : Nat) : Prop := atP b j ∨ adP b j
theorem nd_mq {b j : Nat} (h : ndP b j) : mqP b j := h.elim at_mq ad_mq
theorem mq_tab {b j : Nat} (h : tabP b j) : ¬ mqP b j := by
  unfold tabP at h
  unfold mqP
  omega
theorem StM.nx {T : List Tok} {g g' : Lev} {r : List Lev} {a' : Nat} {x : Tok} (h : StM m z t a T (g :: r)) (f : Fr ndP m m') (h9 : rI m' 322 29 = nI a') (ha : a < a') (hz : a' ≤ z) (hO : TokM m' (T ++ [x])) (hg : g'.1 = g.1) (hG : LevG t z (g' :: r)) : StM m' z t a' (T ++ [x]) (g' :: r) := by
  obtain ⟨⟨b1, b2', b3⟩, ⟨b4, b5⟩, b6, b7, b8⟩ := h
  refine ⟨⟨b1.fr (f.mo (fun _ _ => nd_mq)), hz, h9⟩, ⟨hO, by rw [List.length_append]; show T.length + 1 ≤ a'; omega⟩, by rw [f.i (by unfold ndP atP adP; omega)]; exact b6, ⟨fun k hk o ho => ?_, ?_⟩, hG⟩
  · rw [f.i (by unfold ndP atP adP; omega)]
    exact b7.1 k hk o (hg ▸ ho)
  · exact b7.2.same (fun j _ => f.i (by unfold ndP atP adP; omega))
theorem m_isOne_l (hN : 100 ≤ N) : ∀ (f a n : Nat) (T : List Tok) (L : List Lev) (m : vM), z < a + f → 5 ≤ n + L.length → Tab m → StM m z t a T L →
    ∃ v m', H_X9_isOne_5 N n 322 (hr t z a) (S m) = some (v, S m') ∧ Fr mqP m m' ∧ ((v = 0 ∧ ∃ b, (pars t z f a false L).1 = some b ∧ b ≤ z ∧ rI m' 322 29 = nI b) ∨ (v = 1 ∧ ∃ b T' L', (pars t z f a false L).1 = some b ∧ fig t z b ∧ StM m' z t b T' L') ∨ (v = 1 ∧ ∃ f' a' X L', f' < f ∧ z < a' + f' ∧ StM m' z t a' (T ++ X) L' ∧ pars t z f a false L = ((pars t z f' a' true L').1, X ++ (pars t z f' a' true L').2)))
  | 0, a, n, T, L, m, h1, _, _, h => by
    have := h.1.2.1
    omega
  | f + 1, a, 0, T, L, m, h1, h2, hTb, h => by
    have := h.2.2.2.2.2.1
    omega
  | f + 1, a, n + 1, T, L, m, h1, h2, hTb, h => by
    obtain ⟨⟨hT, haz, h9⟩, ⟨hO, hOl⟩, h35, hOp, hG⟩ := id h
    have h60 := hT.1
    have hpos := hG.1.pos
    have h4 := hG.2.1
    have lit : ∀ k : Nat, k < 128 → (hr t z a = nI k ↔ (a < z ∧ t a = k)) := fun k hk => hr_eq hT hk
    by_cases w : a < z
    · -- something stands there
      have hh : hr t z a = nI (t a) := if_pos w
      by_cases wo : t a = 40 ∨ t a = 123
      · -- opening
        have e1 : tkn t z a false L = if L.length < 4 then .inr ((t a, a, 0, 0), a + 1) else .inl a := by
          unfold tkn
          rw [if_neg (by decide), if_pos wo]
        have start : ∀ R, J_X9_isOne_17 N (H_X9_isOne_5 N n) 322 (nI (t a)) (S m) = R → H_X9_isOne_5 N (n + 1) 322 (hr t z a) (S m) = R := by
          intro R hR
          refine Eq.trans u_H_X9_isOne_5 ?_
          by_cases y : t a = 40
          · refine e_t ((lit 40 (by omega)).mpr ⟨w, y⟩) ?_
            rw [hh]
            exact hR
          · refine e_f (fun q => y ((lit 40 (by omega)).mp q).2) ?_
            refine e_t ((lit 123 (by omega)).mpr ⟨w, by omega⟩) ?_
            rw [hh]
            exact hR
        by_cases hl4 : L.length < 4
        · rw [if_pos hl4] at e1
          obtain ⟨k1, k2, k3, k4⟩ := tkn_ok w e1
          have hG2 := ok_lev hG k1
          have hlv : lvn (t a, a, 0, 0) L = (some a, none, none) :: L ∧ bhn (t a, a, 0, 0) = false := by
            match L, hG.1 with
            | g :: r, _ => exact ⟨(emi_o (t := t) (x := (t a, a, 0, 0)) (g := g) (r := r) wo).2.1, (emi_o (t := t) (x := (t a, a, 0, 0)) (g := g) (r := r) wo).2.2⟩
          rw [hlv.1] at hG2
          have f1 : Fr mqP m (wI (wI m 348 (L.length - 1) (nI (t a))) 322 35 (nI L.length)) := (Fr.rf.sI (Or.inr (by omega))).sI (Or.inl ⟨rfl, by omega⟩)
          have hO1 : TokM (wI (wI m 348 (L.length - 1) (nI (t a))) 322 35 (nI L.length)) T := ⟨by rw [rI_n _ _ (by omega), rI_n _ _ (by omega)]; exact hO.1, fun i x hx => by
            rw [rI_n _ _ (by omega), rI_n _ _ (by omega), rI_n _ _ (by omega), rI_n _ _ (by omega)]
            rw [rI_n _ _ (by omega), rI_n _ _ (by omega), rI_n _ _ (by omega), rI_n _ _ (by omega)]
            exact hO.2 i x hx⟩
          obtain ⟨m1, d1, d2, d3⟩ := m_add (N := N) hO1 (by omega) (t a) a 0 0
          have hmc : mc (t a) = t a := if_neg (by omega)
          rw [hmc] at d1
          have f2 : Fr mqP m (wI m1 322 29 (nI (a + 1))) := (f1.tr (d2.mo (fun _ _ => ad_mq))).sI (Or.inl ⟨rfl, by omega⟩)
          have fa : Fr atP m1 (wI m1 322 29 (nI (a + 1))) := Fr.rf.sI ⟨rfl, rfl⟩
          have hS2 : StM (wI m1 322 29 (nI (a + 1))) z t (a + 1) (T ++ [(t a, a, 0, 0)]) ((some a, none, none) :: L) := by
            refine ⟨⟨hT.fr f2, w, rI_s _ _ _ _⟩, ⟨d3.fr fa, by rw [List.length_append]; show T.length + 1 ≤ _; omega⟩, ?_, ⟨fun k hk o ho => ?_, ?_⟩, hG2⟩
            · rw [rI_n _ _ (by omega), d2.i (by unfold adP; omega), rI_s]
              rfl
            · rw [rI_n _ _ (by omega), d2.i (by unfold adP; omega), rI_n _ _ (by omega), show k = L.length - 1 by omega, rI_s]
              cases ho
              rfl
            · exact hOp.same (fun j hj => by rw [rI_n _ _ (by omega), d2.i (by unfold adP; omega), rI_n _ _ (by omega), rI_n _ _ (by omega)])
          obtain ⟨v, m', g1, g2, g3⟩ := m_isOne_l hN f (a + 1) n _ _ _ (by omega) (by show 5 ≤ n + (L.length + 1); omega) (hTb.fr (fun b j hb => f2 b j (mq_tab hb))) hS2
          have hp := pars_ok (f := f) w e1
          rw [hlv.1, hlv.2] at hp
          rw [hp]
          refine ⟨v, m', start _ ?_, f2.tr g2, ?_⟩
          · unfold J_X9_isOne_17
            refine e_ldIV fmO (h35) ?_
            refine e_f (by rw [eqR (by decide) (by omega)]; show ¬ L.length - 1 = 3; omega) ?_
            refine e_ldR fmO fmR36 ?_
            refine e_ldIV fmO (h35) ?_
            refine e_asI fmA36 rfl (by omega) ?_
            refine e_ldIV fmO (show rI _ 322 35 = nI (L.length - 1) by rw [rI_n _ _ (by omega)]; exact h35) ?_
            rw [addR, show L.length - 1 + (OfNat.ofNat 1 : Nat) = L.length from Nat.sub_add_cancel hpos]
            refine e_stI fmO ?_
            refine e_ldIV fmO (show rI _ 322 29 = nI a by rw [rI_n _ _ (by omega), rI_n _ _ (by omega)]; exact h9) ?_
            refine e_bnd (d1) ?_
            refine e_ldIV fmO (show rI _ 322 29 = nI a by rw [d2.i (by unfold adP; omega), rI_n _ _ (by omega), rI_n _ _ (by omega)]; exact h9) ?_
            rw [addR]
            refine e_stI fmO ?_
            refine e_bnd (m_here (hT.fr f2) w (rI_s _ _ _ _)) ?_
            exact g1
          · rcases g3 with ⟨v0, b, b1, b2', b3⟩ | ⟨v1, b, T', L', b1, b2', b3⟩ | ⟨v1, f', a', X, L', b1, b2', b3, b4⟩
            · exact Or.inl ⟨v0, b, b1, b2', b3⟩
            · exact Or.inr (Or.inl ⟨v1, b, T', L', b1, b2', b3⟩)
            · refine Or.inr (Or.inr ⟨v1, f', a', (t a, a, 0, 0) :: X, L', by omega, b2', ?_, ?_⟩)
              · rw [show T ++ (t a, a, 0, 0) :: X = (T ++ [(t a, a, 0, 0)]) ++ X by simp]
                exact b3
              · rw [b4]
                rfl
        · rw [if_neg hl4] at e1
          rw [pars_bad w e1]
          refine ⟨0, m, start _ ?_, Fr.rf, Or.inl ⟨rfl, a, rfl, haz, h9⟩⟩
          unfold J_X9_isOne_17
          refine e_ldIV fmO (h35) ?_
          refine e_t (by rw [eqR (by decide) (by omega)]; show L.length - 1 = 3; omega) ?_
          rfl
      · -- a ONE
        match L, h, hG, hpos, h4, h2, h35, hOp with
        | g :: r, h, hG, hpos, h4, h2, h35, hOp =>
          have n40 : ¬ hr t z a = 40 := fun q => wo (Or.inl ((lit 40 (by omega)).mp q).2)
          have n123 : ¬ hr t z a = 123 := fun q => wo (Or.inr ((lit 123 (by omega)).mp q).2)
          have done : ∀ (x : Tok) (a' : Nat) (m1 : vM), tkn t z a false (g :: r) = .inr (x, a') → (x.1 = 48 ∨ x.1 = 91 ∨ x.1 = 60) → Fr ndP m m1 → rI m1 322 29 = nI a' → TokM m1 (T ++ [x]) → ∃ f' a' X L', f' < f + 1 ∧ z < a' + f' ∧ StM m1 z t a' (T ++ X) L' ∧ pars t z (f + 1) a false (g :: r) = ((pars t z f' a' true L').1, X ++ (pars t z f' a' true L').2) := by
            intro x a' m1 e1 hx f1 h91 hO1
            obtain ⟨k1, k2, k3, k4⟩ := tkn_ok w e1
            have hG2 := ok_lev hG k1
            obtain ⟨-, e2, e3⟩ := emi_n (t := t) (g := g) (r := r) hx
            have hp := pars_ok (f := f) w e1
            rw [e2] at hG2
            rw [e2, e3] at hp
            exact ⟨f, a', [x], (g.1, g.2.1, none) :: r, by omega, by omega, h.nx f1 h91 k2 k3 hO1 rfl hG2, hp⟩
          by_cases w1 : t a = 91
          · have e1 : tkn t z a false (g :: r) = (match tkN false t z a 93 with
              | .inl b => .inl b
              | .inr (v, a') => .inr ((91, a, v, 0), a')) := by
              unfold tkn
              rw [if_neg (by decide), if_neg wo, if_pos w1]
              rfl
            obtain ⟨v, m1, c1, c2, c3⟩ := m_isNetwork (N := N) (q := false) (c := 91) (cl := 93) hN (Or.inl ⟨rfl, rfl, rfl⟩) hTb hT hO hOl w h9
            have go : ∀ v', v = v' → (v' = 0 ∨ v' = 1) → H_X9_isOne_5 N (n + 1) 322 (hr t z a) (S m) = some (v', S m1) := by
              intro v' hv hv2
              refine Eq.trans u_H_X9_isOne_5 ?_
              refine e_f (n40) ?_
              refine e_f (n123) ?_
              refine e_t ((lit 91 (by omega)).mpr ⟨w, w1⟩) ?_
              unfold J_X9_isOne_88
              rw [hh, w1]
              refine e_bnd (c1) ?_
              unfold J_X9_isOne_115
              rw [hv]
              rcases hv2 with rfl | rfl <;> rfl
            rcases c3 with ⟨v0, b, b1, b2', b3⟩ | ⟨v1, y, a', b1, b2', b3, b4, b5⟩
            · rw [b1] at e1
              rw [pars_bad w e1]
              exact ⟨0, m1, go 0 v0 (Or.inl rfl), c2.mo (fun _ _ => nd_mq), Or.inl ⟨rfl, b, rfl, b2', b3⟩⟩
            · rw [b1] at e1
              exact ⟨1, m1, go 1 v1 (Or.inr rfl), c2.mo (fun _ _ => nd_mq), Or.inr (Or.inr ⟨rfl, done _ a' m1 e1 (Or.inr (Or.inl rfl)) c2 b4 b5⟩)⟩
          · by_cases w2 : t a = 60
            · have e1 : tkn t z a false (g :: r) = (match tkN true t z a 62 with
                | .inl b => .inl b
                | .inr (v, a') => .inr ((60, a, v, 0), a')) := by
                unfold tkn
                rw [if_neg (by decide), if_neg wo, if_neg w1, if_pos w2]
                rfl
              obtain ⟨v, m1, c1, c2, c3⟩ := m_isNetwork (N := N) (q := true) (c := 60) (cl := 62) hN (Or.inr ⟨rfl, rfl, rfl⟩) hTb hT hO hOl w h9
              have go : ∀ v', v = v' → (v' = 0 ∨ v' = 1) → H_X9_isOne_5 N (n + 1) 322 (hr t z a) (S m) = some (v', S m1) := by
                intro v' hv hv2
                refine Eq.trans u_H_X9_isOne_5 ?_
                refine e_f (n40) ?_
                refine e_f (n123) ?_
                refine e_f (fun q => w1 ((lit 91 (by omega)).mp q).2) ?_
                refine e_t ((lit 60 (by omega)).mpr ⟨w, w2⟩) ?_
                unfold J_X9_isOne_88
                rw [hh, w2]
                refine e_bnd (c1) ?_
                unfold J_X9_isOne_115
                rw [hv]
                rcases hv2 with rfl | rfl <;> rfl
              rcases c3 with ⟨v0, b, b1, b2', b3⟩ | ⟨v1, y, a', b1, b2', b3, b4, b5⟩
              · rw [b1] at e1
                rw [pars_bad w e1]
                exact ⟨0, m1, go 0 v0 (Or.inl rfl), c2.mo (fun _ _ => nd_mq), Or.inl ⟨rfl, b, rfl, b2', b3⟩⟩
              · rw [b1] at e1
                exact ⟨1, m1, go 1 v1 (Or.inr rfl), c2.mo (fun _ _ => nd_mq), Or.inr (Or.inr ⟨rfl, done _ a' m1 e1 (Or.inr (Or.inr rfl)) c2 b4 b5⟩)⟩
            · have e1 : tkn t z a false (g :: r) = (match tkF t z a with
                | .inl b => .inl b
                | .inr (u, v, a') => .inr ((48, a, nI u, nI v), a')) := by
                unfold tkn
                rw [if_neg (by decide), if_neg wo, if_neg w1, if_neg w2]
                rfl
              have start : ∀ R, (if b2 (fig t z a) = 0 then (J_X9_isOne_114 N (S m)) else (bnd (F_X9_isFraction N 322 (S m)) (fun v3 s => if v3 = (0) then (J_X9_isOne_114 N  s) else (J_X9_isOne_115 N (1) s)))) = R → H_X9_isOne_5 N (n + 1) 322 (hr t z a) (S m) = R := by
                intro R hR
                refine Eq.trans u_H_X9_isOne_5 ?_
                refine e_f (n40) ?_
                refine e_f (n123) ?_
                refine e_f (fun q => w1 ((lit 91 (by omega)).mp q).2) ?_
                refine e_f (fun q => w2 ((lit 60 (by omega)).mp q).2) ?_
                refine e_bnd (m_isFigure hT haz h9) ?_
                exact hR
              by_cases wf : fig t z a
              · obtain ⟨v, m1, c1, c2, c3⟩ := m_isFraction (N := N) hN hT hO hOl wf h9
                rcases c3 with ⟨v0, b, b1, b2', b3⟩ | ⟨v1, b, T', b1, b2', b3, b4, b5⟩ | ⟨v1, p, q, a', b1, b2', b3, b4, b5⟩
                · rw [b1] at e1
                  rw [pars_bad w e1]
                  refine ⟨0, m1, start _ ?_, c2.mo (fun _ _ => nd_mq), Or.inl ⟨rfl, b, rfl, b2', b3⟩⟩
                  refine e_f (b2_nz wf) ?_
                  refine e_bnd (c1) ?_
                  refine e_t (v0) ?_
                  rfl
                · rw [b1] at e1
                  rw [pars_bad w e1]
                  refine ⟨1, m1, start _ ?_, c2.mo (fun _ _ => nd_mq), Or.inr (Or.inl ⟨rfl, b, T', g :: r, rfl, b2', ⟨hT.fr (c2.mo (fun _ _ => nd_mq)), by have := b2'.1; omega, b3⟩, ⟨b4, b5⟩, by rw [c2.i (by unfold atP adP; omega)]; exact h35, hOp.same (fun j _ => c2.i (by unfold atP adP; omega)), hG⟩)⟩
                  refine e_f (b2_nz wf) ?_
                  refine e_bnd (c1) ?_
                  refine e_f (by rw [v1]; decide) ?_
                  rfl
                · rw [b1] at e1
                  refine ⟨1, m1, start _ ?_, c2.mo (fun _ _ => nd_mq), Or.inr (Or.inr ⟨rfl, done _ a' m1 e1 (Or.inl rfl) c2 b4 b5⟩)⟩
                  refine e_f (b2_nz wf) ?_
                  refine e_bnd (c1) ?_
                  refine e_f (by rw [v1]; decide) ?_
                  rfl
              · have hef : ef t z a = a := by
                  obtain ⟨u1, u2, u3, u4⟩ := ef_sp (t := t) haz
                  rcases Nat.lt_or_ge a (ef t z a) with y | y
                  · exact absurd (u3 a (Nat.le_refl _) y) wf
                  · omega
                have hF : tkF t z a = .inl a := by
                  unfold tkF bdf
                  rw [hef, if_pos rfl]
                rw [hF] at e1
                rw [pars_bad w e1]
                refine ⟨0, m, start _ ?_, Fr.rf, Or.inl ⟨rfl, a, rfl, haz, h9⟩⟩
                refine e_t (b2_f wf) ?_
                rfl
    · -- the end
      have hp : pars t z (f + 1) a false L = (some z, []) := by rw [pars_end w, if_neg (fun q => absurd q.1 (by decide))]
      rw [hp]
      refine ⟨0, m, ?_, Fr.rf, Or.inl ⟨rfl, z, rfl, Nat.le_refl _, by rw [h9]; exact congrArg nI (by omega)⟩⟩
      refine Eq.trans u_H_X9_isOne_5 ?_
      refine e_f (fun q => w ((lit 40 (by omega)).mp q).1) ?_
      refine e_f (fun q => w ((lit 123 (by omega)).mp q).1) ?_
      refine e_f (fun q => w ((lit 91 (by omega)).mp q).1) ?_
      refine e_f (fun q => w ((lit 60 (by omega)).mp q).1) ?_
      refine e_bnd (m_isFigure hT haz h9) ?_
      refine e_t (b2_f (fun q => w q.1)) ?_
      rfl
end RD9
