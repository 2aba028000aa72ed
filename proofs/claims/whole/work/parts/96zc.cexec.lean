section UROWS
theorem u_J_X4_workOut_219 {N : Nat} {a1 : Nat} {l2 : Int32} {k0 : Int32} {s : vS} : J_X4_workOut_219 N a1 l2 k0 s = (ldR s a1 7 6 (fun r32 => alI s r32 l2 (fun v33 => bnd (F_X7_faultOf N k0 v33 s) (fun v34 s => some (v34, s))))) := rfl
theorem u_J_X4_workOut_191 {N : Nat} {k7 : Nat → Nat → Int32 → vS → Option (Int32 × vS)} {a0 : Nat} {a1 : Nat} {l2 : Int32} {l5 : Int32} {s : vS} : J_X4_workOut_191 N k7 a0 a1 l2 l5 s = (if l5 = (0 : Int32) then (nm (l2 + (1 : Int32)) (fun l2_26 => k7 a0 a1 l2_26 s)) else (if l5 = (-2 : Int32) then (J_X4_workOut_219 N a1 l2 (3 : Int32) s) else (if l5 = (-4 : Int32) then (J_X4_workOut_219 N a1 l2 (4 : Int32) s) else (J_X4_workOut_219 N a1 l2 (5 : Int32) s)))) := rfl
theorem u_J_X4_workOut_174 {N : Nat} {k7 : Nat → Nat → Int32 → vS → Option (Int32 × vS)} {a0 : Nat} {a1 : Nat} {l2 : Int32} {l3 : Int32} {l5 : Int32} {s : vS} : J_X4_workOut_174 N k7 a0 a1 l2 l3 l5 s = (ldR s a1 7 7 (fun r27 => alI s r27 l2 (fun v28 => ldR s a1 7 8 (fun r29 => alI s r29 l2 (fun v30 => bnd (F_X4_pileOne N a0 l3 v28 v30 s) (fun v31 s => J_X4_workOut_191 N k7 a0 a1 l2 l5 s)))))) := rfl
theorem u_J_X4_workOut_127 {N : Nat} {k7 : Nat → Nat → Int32 → vS → Option (Int32 × vS)} {a0 : Nat} {a1 : Nat} {l2 : Int32} {l3 : Int32} {l5 : Int32} {s : vS} : J_X4_workOut_127 N k7 a0 a1 l2 l3 l5 s = (if l3 = (123 : Int32) then (ldI s a0 4 2 (fun v17 => if v17 ≤ (0 : Int32) then (J_X4_workOut_174 N k7 a0 a1 l2 l3 l5 s) else (ldR s a0 4 0 (fun r18 => ldR s a0 4 1 (fun r19 => ldI s a0 4 2 (fun v20 => alR s r19 5 (v20 - (1 : Int32)) (fun r21 => ldR s a0 4 1 (fun r22 => ldI s a0 4 2 (fun v23 => alR s r22 5 (v23 - (1 : Int32)) (fun r24 => bnd (F_X0_uproot N r18 r21 r24 s) (fun v25 s => J_X4_workOut_191 N k7 a0 a1 l2 v25 s))))))))))) else (J_X4_workOut_174 N k7 a0 a1 l2 l3 l5 s)) := rfl
theorem u_J_X4_workOut_53 {N : Nat} {k7 : Nat → Nat → Int32 → vS → Option (Int32 × vS)} {a0 : Nat} {a1 : Nat} {l2 : Int32} {l3 : Int32} {k0 : Int32} {s : vS} : J_X4_workOut_53 N k7 a0 a1 l2 l3 k0 s = (if k0 = (-1 : Int32) then (J_X4_workOut_127 N k7 a0 a1 l2 l3 (0 : Int32) s) else (ldI s a0 4 2 (fun v4 => if v4 ≤ (1 : Int32) then (J_X4_workOut_127 N k7 a0 a1 l2 l3 (0 : Int32) s) else (ldI s a0 4 2 (fun v5 => stI s a0 4 2 (v5 - (1 : Int32)) (fun s => ldR s a0 4 0 (fun r6 => ldR s a0 4 1 (fun r7 => ldI s a0 4 2 (fun v8 => alR s r7 5 (v8 - (1 : Int32)) (fun r9 => ldR s a0 4 1 (fun r10 => ldI s a0 4 2 (fun v11 => alR s r10 5 v11 (fun r12 => ldR s a0 4 1 (fun r13 => ldI s a0 4 2 (fun v14 => alR s r13 5 (v14 - (1 : Int32)) (fun r15 => bnd (F_X0_combine N r6 r9 r12 k0 r15 s) (fun v16 s => J_X4_workOut_191 N k7 a0 a1 l2 v16 s))))))))))))))))) := rfl
theorem u_H_X4_workOut_7 {N : Nat} {n : Nat} {a0 : Nat} {a1 : Nat} {l2 : Int32} {s : vS} : H_X4_workOut_7 N (n + 1) a0 a1 l2 s = (ldI s a1 7 4 (fun v1 => if v1 ≤ l2 then (some ((0 : Int32), s)) else (ldR s a1 7 5 (fun r2 => alI s r2 l2 (fun v3 => if v3 = (43 : Int32) then (J_X4_workOut_53 N (H_X4_workOut_7 N n) a0 a1 l2 v3 (0 : Int32) s) else (if v3 = (45 : Int32) then (J_X4_workOut_53 N (H_X4_workOut_7 N n) a0 a1 l2 v3 (1 : Int32) s) else (if v3 = (42 : Int32) then (J_X4_workOut_53 N (H_X4_workOut_7 N n) a0 a1 l2 v3 (2 : Int32) s) else (J_X4_workOut_53 N (H_X4_workOut_7 N n) a0 a1 l2 v3 (-1 : Int32) s)))))))) := rfl
theorem u_F_X4_workOut {N : Nat} {a0 : Nat} {a1 : Nat} {s : vS} : F_X4_workOut N a0 a1 s = (rcv s a0 4 (stI s a0 4 2 (0 : Int32) (fun s => H_X4_workOut_7 N N a0 a1 (0 : Int32) s))) := rfl
end UROWS
section CEX
variable {N z : Nat} {t : Nat → Nat} {m m' : vM} {s : vS}
/-! the class carries out its orders -/
theorem pileS {i : Nat} (hi : i < 12) : SumAt (246 + 3 * i) ∧ SumSh (246 + 3 * i) ∧ RRf 244 i = some (246 + 3 * i) ∧ Apart (246 + 3 * i) := by
  obtain ⟨⟨s1, s2, s3, s4⟩, sr, sl, s0, sS⟩ := rk_sh
  have h : SumSh (246 + 3 * i) := (sS i hi).1
  exact ⟨sumAt_of ⟨⟨h.2.1, h.r1, h.r2⟩, ⟨by have := h.1; omega, h.2.2.1⟩, ⟨h.1, h.2.2.2.1⟩⟩, h, (sS i hi).2, Or.inr (by omega)⟩
theorem pileA : ∀ i, isAc 244 5 i = inb i 12 := arrAt ⟨by omega, rk_sh.1.2.1⟩
theorem c_takeS {a f i : Nat} {p : Int64 × Int64} (hS : SumSh a) (hf : isOc f 2 = true) (hne : f ≠ a + 1) (hi : i < 29) (h0 : rJ m f 0 = p.1) (h1 : rJ m f 1 = p.2) : F_X6_take N a (nI i) f (S m) = some ((), S (wJ (wJ m (a + 1) i p.1) (a + 2) i p.2)) :=
  g_take (N := N) (m := m) (κ := ((354, 6966), SHf, RRf)) hS.2.1 hS.r1 hS.r2 ⟨by have := hS.1; show a + 1 < 354; omega, hS.2.2.1⟩ ⟨hS.1, hS.2.2.2.1⟩ hf hne hi h0 h1
def PileC (m : vM) : List Vl → Prop
  | [] => True
  | v :: r => SumC m (246 + 3 * r.length) v.1 v.2 ∧ PileC m r
def PilC (m : vM) (st : List Vl) : Prop := rI m 243 2 = nI st.length ∧ st.length < 12 ∧ PileC m st
def wkP (b j : Nat) : Prop := (b = 243 ∧ j = 2) ∨ (226 ≤ b ∧ b ≤ 230) ∨ (245 ≤ b ∧ b ≤ 281)
theorem wk_tab {b j : Nat} (h : tabP b j) : ¬ wkP b j := by
  unfold tabP at h
  unfold wkP
  omega
theorem PileC.same : ∀ {st : List Vl}, PileC m st → (∀ b j, 246 ≤ b → b < 246 + 3 * st.length → rI m' b j = rI m b j ∧ rJ m' b j = rJ m b j) → PileC m' st
  | [], _, _ => trivial
  | v :: r, h, e => by
    have hl : (v :: r).length = r.length + 1 := rfl
    exact ⟨h.1.same (fun b j hb => e b j (by omega) (by omega)), PileC.same h.2 (fun b j h1 h2 => e b j h1 (by omega))⟩
theorem OrdC.wk {O : List Tok} (h : OrdC m O) (f : Fr wkP m m') : OrdC m' O := ⟨by rw [f.i (by unfold wkP; omega)]; exact h.1, fun i x hx => by
  rw [f.i (by unfold wkP; omega), f.i (by unfold wkP; omega), f.i (by unfold wkP; omega), f.i (by unfold wkP; omega)]
  exact h.2 i x hx⟩
theorem c_pileOne {st : List Vl} {x : Tok} (hN : 100 ≤ N) (h : PilC m st) (hl : st.length + 1 < 12) (hx : (x.1 = 91 ∧ ∃ k, k < 19 ∧ x.2.2.1 = nI k) ∨ (x.1 = 60 ∧ ∃ k, k < 29 ∧ x.2.2.1 = nI k) ∨ (x.1 = 48 ∧ ∃ u v, u < 1000 ∧ 0 < v ∧ v < 1000 ∧ x.2.2 = (nI u, nI v))) : ∃ m', F_X4_pileOne N 243 (nI x.1) x.2.2.1 x.2.2.2 (S m) = some ((), S m') ∧ Fr wkP m m' ∧ PilC m' (valV x :: st) := by
  obtain ⟨h1, h2, h3⟩ := id h
  obtain ⟨s1, s2, s3, s4⟩ := pileS (i := st.length) (by omega)
  have f245 : isOc 245 2 = true := rk_sh.1.2.2.2
  -- what is taken, where, its kind
  have core : ∀ (a b : Int64) (i : Nat) (p : Fc) (k : Nat) (kk : Int32), 0 < b.toInt → red a b = p → i < 29 → kk = kc k → valV x = (k, oneR i p) → ∃ m', (∀ R, J_X4_pileOne_109 N 243 (246 + 3 * st.length) kk (S m') = R → bnd (F_X2_become N 245 a b (S m)) (fun v3 s => ldR s 243 4 1 (fun r4 => ldI s 243 4 2 (fun v5 => alR s r4 5 v5 (fun r6 => bnd (F_X6_empty N r6 s) (fun v7 s => ldR s 243 4 3 (fun r8 => bnd (F_X6_take N r6 (nI i) r8 s) (fun v9 s => J_X4_pileOne_109 N 243 r6 kk s))))))) = R) ∧ ∃ m2, J_X4_pileOne_109 N 243 (246 + 3 * st.length) kk (S m') = some ((), S m2) ∧ Fr wkP m m2 ∧ PilC m2 (valV x :: st) := by
    intro a b i p k kk hb hp hi hkk hv
    have hbec := c_become (N := N) (m := m) f245 hN (a := a) hb
    obtain ⟨m1, e1, e2, e3, e4⟩ := c_empty (N := N) (m := wF m 245 (red a b)) s1 hN
    have w0 : rJ m1 245 0 = p.1 := by
      rw [e4 _ _ (by omega), ← hp]
      show rJ (wJ (wJ m 245 0 _) 245 1 _) 245 0 = _
      rw [rJ_n _ _ (by omega), rJ_s]
    have w1 : rJ m1 245 1 = p.2 := by
      rw [e4 _ _ (by omega), ← hp]
      show rJ (wJ (wJ m 245 0 _) 245 1 _) 245 1 = _
      rw [rJ_s]
    have htk := c_takeS (N := N) (m := m1) s2 f245 (by omega) hi w0 w1
    have g2 : rI m1 243 2 = nI st.length := by rw [e2, if_neg (by omega)]; exact h1
    refine ⟨wJ (wJ m1 (246 + 3 * st.length + 1) i p.1) (246 + 3 * st.length + 2) i p.2, fun R hR => ?_, wI (wI (wJ (wJ m1 (246 + 3 * st.length + 1) i p.1) (246 + 3 * st.length + 2) i p.2) (246 + 3 * st.length) 0 kk) 243 2 (nI (st.length + 1)), ?_, fun c j hc => ?_, ?_, ?_, ?_, ?_⟩
    · refine e_bnd (hbec) ?_
      refine e_ldR fkO fkR1 ?_
      refine e_ldIV fkO (h1) ?_
      refine e_alR pileA (by decide) rfl (by omega) s3 ?_
      refine e_bnd (e1) ?_
      refine e_ldR fkO fkR3 ?_
      refine e_bnd (htk) ?_
      exact hR
    · unfold J_X4_pileOne_109
      refine e_stI s1.1 ?_
      refine e_ldIV fkO (show rI _ 243 2 = nI st.length by rw [rI_n _ _ (by omega)]; exact g2) ?_
      rw [addR]
      refine e_stI fkO ?_
      rfl
    · unfold wkP at hc
      rw [rI_n _ _ (by omega), rI_n _ _ (by omega), rI_wJ, rI_wJ, e2, if_neg (by omega), rJ_wI, rJ_wI, rJ_n _ _ (by omega), rJ_n _ _ (by omega), e4 _ _ (by omega)]
      show rI m c j = rI m c j ∧ rJ (wJ (wJ m 245 0 _) 245 1 _) c j = rJ m c j
      rw [rJ_n _ _ (by omega), rJ_n _ _ (by omega)]
      exact ⟨rfl, rfl⟩
    · rw [rI_s]
      rfl
    · show st.length + 1 < 12
      exact hl
    · rw [hv]
      refine ⟨?_, fun j hj => ?_⟩
      · rw [rI_n _ _ (by omega), rI_s]
        exact hkk
      · show (rJ _ (246 + 3 * st.length + 1) j, rJ _ (246 + 3 * st.length + 2) j) = oneR i p j
        rw [rJ_wI, rJ_wI, rJ_wI, rJ_wI, rJ_n (a := 246 + 3 * st.length + 2) _ _ (by omega)]
        unfold oneR
        by_cases y : j = i
        · rw [y, rJ_s, rJ_s, if_pos rfl]
        · rw [rJ_n _ _ (by omega), rJ_n _ _ (by omega), rJ_n _ _ (by omega), (e3 j hj).1, (e3 j hj).2, if_neg y]
    · refine h3.same (fun c j c1 c2 => ?_)
      rw [rI_n _ _ (by omega), rI_n _ _ (by omega), rI_wJ, rI_wJ, e2, if_neg (by omega), rJ_wI, rJ_wI, rJ_n _ _ (by omega), rJ_n _ _ (by omega), e4 _ _ (by omega)]
      show rI m c j = rI m c j ∧ rJ (wJ (wJ m 245 0 _) 245 1 _) c j = rJ m c j
      rw [rJ_n _ _ (by omega), rJ_n _ _ (by omega)]
      exact ⟨rfl, rfl⟩
  rcases hx with ⟨hx, k, hk, e⟩ | ⟨hx, k, hk, e⟩ | ⟨hx, u, v, hu, hv0, hv, e⟩
  · have hval : valV x = (0, oneR k (1, 1)) := by
      unfold valV
      rw [if_neg (by omega), if_neg (by omega), e, nI_clamp (by omega)]
    obtain ⟨m1, c1, m2, c2, c3, c4⟩ := core 1 1 k (1, 1) 0 1 (by decide) red11 (by omega) rfl hval
    refine ⟨m2, ?_, c3, c4⟩
    unfold F_X4_pileOne
    refine e_rcv fkO ?_
    refine e_ldIV fkO (h1) ?_
    refine e_t (by rw [ltR (by decide) (by omega)]; show st.length < 12; omega) ?_
    refine e_f (by rw [hx]; decide) ?_
    unfold J_X4_pileOne_21
    refine e_ldR fkO fkR3 ?_
    refine e_t (rfl) ?_
    unfold J_X4_pileOne_38
    refine e_t (rfl) ?_
    unfold J_X4_pileOne_49
    rw [hx, e]
    exact c1 _ c2
  · have hval : valV x = (1, oneR k (1, 1)) := by
      unfold valV
      rw [if_neg (by omega), if_pos (by omega), e, nI_clamp (by omega)]
    obtain ⟨m1, c1, m2, c2, c3, c4⟩ := core 1 1 k (1, 1) 1 2 (by decide) red11 (by omega) rfl hval
    refine ⟨m2, ?_, c3, c4⟩
    unfold F_X4_pileOne
    refine e_rcv fkO ?_
    refine e_ldIV fkO (h1) ?_
    refine e_t (by rw [ltR (by decide) (by omega)]; show st.length < 12; omega) ?_
    refine e_f (by rw [hx]; decide) ?_
    unfold J_X4_pileOne_21
    refine e_ldR fkO fkR3 ?_
    refine e_t (rfl) ?_
    unfold J_X4_pileOne_38
    refine e_t (rfl) ?_
    unfold J_X4_pileOne_49
    rw [hx, e]
    exact c1 _ c2
  · have e1 : x.2.2.1 = nI u := by rw [e]
    have e2 : x.2.2.2 = nI v := by rw [e]
    have hval : valV x = (2, oneR 0 (red (lN u) (lN v))) := by
      unfold valV
      rw [if_pos hx, e1, e2, nI_l' (by omega), nI_l' (by omega)]
    obtain ⟨m1, c1, m2, c2, c3, c4⟩ := core (lN u) (lN v) 0 _ 2 0 (lN_pos hv0 (by omega)) rfl (by omega) rfl hval
    refine ⟨m2, ?_, c3, c4⟩
    unfold F_X4_pileOne
    refine e_rcv fkO ?_
    refine e_ldIV fkO (h1) ?_
    refine e_t (by rw [ltR (by decide) (by omega)]; show st.length < 12; omega) ?_
    refine e_t (by rw [hx]; rfl) ?_
    unfold J_X4_pileOne_21
    refine e_ldR fkO fkR3 ?_
    refine e_f (by decide) ?_
    unfold J_X4_pileOne_38
    refine e_f (by decide) ?_
    unfold J_X4_pileOne_49
    rw [e1, e2, nI_l' (by omega), nI_l' (by omega)]
    exact c1 _ c2
/-- the class at work: at the order i, with so much on its pile -/
def CS (m : vM) (O : List Tok) (i n : Nat) (st : List Vl) : Prop := OrdC m O ∧ O.length ≤ 60 ∧ (i ≤ O.length ∧ O.length < i + n) ∧ Tab m ∧ PilC m st
def flv (f p : Nat) : Int32 := (-1000) * nI f - nI p
/-- how a step ends -/
def StepC (N : Nat) (O : List Tok) (i n : Nat) (m : vM) (A : List Tok) (X : (Nat × Nat) ⊕ List Vl) : Prop := match X with
  | .inl e => ∃ m', H_X4_workOut_7 N n 243 234 (nI i) (S m) = some (flv e.1 e.2, S m') ∧ Fr wkP m m'
  | .inr st => ∃ m' i' n', H_X4_workOut_7 N n 243 234 (nI i) (S m) = H_X4_workOut_7 N n' 243 234 (nI i') (S m') ∧ Fr wkP m m' ∧ O.drop i' = A ∧ CS m' O i' n' st
theorem drop_cons {O A : List Tok} {i : Nat} {x : Tok} (h : O.drop i = x :: A) : O[i]? = some x ∧ O.drop (i + 1) = A ∧ i < O.length := by
  have hlt : i < O.length := by
    rcases Nat.lt_or_ge i O.length with w | w
    · exact w
    · rw [List.drop_eq_nil_of_le w] at h; cases h
  rw [List.drop_eq_getElem_cons hlt] at h
  injection h with h1 h2
  exact ⟨by rw [List.getElem?_eq_getElem hlt, h1], h2, hlt⟩
theorem CS.next {O A : List Tok} {i n : Nat} {st st' : List Vl} {x : Tok} (h : CS m O i (n + 1) st) (hd : O.drop i = x :: A) (f : Fr wkP m m') (hp : PilC m' st') (e : H_X4_workOut_7 N (n + 1) 243 234 (nI i) (S m) = H_X4_workOut_7 N n 243 234 (nI (i + 1)) (S m')) : StepC N O i (n + 1) m A (.inr st') := by
  obtain ⟨h1, h2, h3, h4, h5⟩ := h
  have h0 := (drop_cons hd).2.2
  exact ⟨m', i + 1, n, e, f, (drop_cons hd).2.1, h1.wk f, h2, by omega, h4.fr (fun b j hb => f b j (wk_tab hb)), hp⟩
theorem ex_push {O A : List Tok} {i n : Nat} {st : List Vl} {x : Tok} (hN : 100 ≤ N) (h : CS m O i n st) (hd : O.drop i = x :: A) (hl : st.length + 1 < 12) (hx : (x.1 = 91 ∧ ∃ k, k < 19 ∧ x.2.2.1 = nI k) ∨ (x.1 = 60 ∧ ∃ k, k < 29 ∧ x.2.2.1 = nI k) ∨ (x.1 = 48 ∧ ∃ u v, u < 1000 ∧ 0 < v ∧ v < 1000 ∧ x.2.2 = (nI u, nI v))) : StepC N O i n m A (.inr (valV x :: st)) := by
  obtain ⟨h1, h2, h3, h4, h5⟩ := id h
  obtain ⟨d1, d2, d3⟩ := drop_cons hd
  obtain ⟨n, rfl⟩ : ∃ n', n = n' + 1 := ⟨n - 1, by omega⟩
  obtain ⟨x1, x2, x3, x4, x5, x6⟩ := h1.2 i x d1
  obtain ⟨m', c1, c2, c3⟩ := c_pileOne (N := N) hN h5 hl hx
  have hs : x.1 = 91 ∨ x.1 = 60 ∨ x.1 = 48 := by omega
  refine h.next hd c2 c3 ?_
  have ne : ∀ k : Nat, k < 128 → x.1 ≠ k → ¬ nI x.1 = nI k := fun k hk hn q => hn ((nI_eq (by omega) (by omega)).mp q)
  have j174 : J_X4_workOut_174 N (H_X4_workOut_7 N n) 243 234 (nI i) (nI x.1) 0 (S m) = H_X4_workOut_7 N n 243 234 (nI (i + 1)) (S m') := by
    unfold J_X4_workOut_174
    refine e_ldR ftO ftR7 ?_
    refine e_alIV ftA7 rfl (by omega) (x3) ?_
    refine e_ldR ftO ftR8 ?_
    refine e_alIV ftA8 rfl (by omega) (x4) ?_
    refine e_bnd (c1) ?_
    unfold J_X4_workOut_191
    refine e_t (rfl) ?_
    refine e_nm ?_
    rw [addR]
  refine Eq.trans u_H_X4_workOut_7 ?_
  refine e_ldIV ftO (h1.1) ?_
  refine e_f (by rw [nI_leI (by omega) (by omega)]; omega) ?_
  refine e_ldR ftO ftR5 ?_
  refine e_alIV ftA5 rfl (by omega) (x1) ?_
  refine e_f (ne 43 (by omega) (by omega)) ?_
  refine e_f (ne 45 (by omega) (by omega)) ?_
  refine e_f (ne 42 (by omega) (by omega)) ?_
  unfold J_X4_workOut_53
  refine e_t (rfl) ?_
  unfold J_X4_workOut_127
  refine e_f (ne 123 (by omega) (by omega)) ?_
  exact j174
/-- faults of an order -/
theorem c_191 {O : List Tok} {i n f : Nat} {v : Int32} {x : Tok} {m1 : vM} (h1 : OrdC m1 O) (hl : O.length ≤ 60) (d1 : O[i]? = some x) (hi : i < O.length) (hv : (f = 3 ∧ v = -2) ∨ (f = 4 ∧ v = -4) ∨ (f = 5 ∧ v = -6)) : J_X4_workOut_191 N (H_X4_workOut_7 N n) 243 234 (nI i) v (S m1) = some (flv f x.2.1, S m1) := by
  obtain ⟨x1, x2, x3, x4, x5, x6⟩ := h1.2 i x d1
  have j219 : ∀ k : Int32, k = nI f → J_X4_workOut_219 N 234 (nI i) k (S m1) = some (flv f x.2.1, S m1) := by
    intro k hk
    unfold J_X4_workOut_219
    refine e_ldR ftO ftR6 ?_
    refine e_alIV ftA6 rfl (by omega) (x2) ?_
    refine e_bnd (r := flv f x.2.1) (s' := S m1) ?_ rfl
    rw [hk]
    rfl
  unfold J_X4_workOut_191
  rcases hv with ⟨hf, hv⟩ | ⟨hf, hv⟩ | ⟨hf, hv⟩
  · rw [hv]
    refine e_f (by decide) ?_
    refine e_t (rfl) ?_
    exact j219 3 (by rw [hf]; rfl)
  · rw [hv]
    refine e_f (by decide) ?_
    refine e_f (by decide) ?_
    refine e_t (rfl) ?_
    exact j219 4 (by rw [hf]; rfl)
  · rw [hv]
    refine e_f (by decide) ?_
    refine e_f (by decide) ?_
    refine e_f (by decide) ?_
    exact j219 5 (by rw [hf]; rfl)
theorem ex_bin {O A : List Tok} {i n w : Nat} {x y : Vl} {st : List Vl} {o : Tok} (hN : 100 ≤ N) (h : CS m O i n (y :: x :: st)) (hd : O.drop i = o :: A) (ho : (o.1 = 43 ∧ w = 0) ∨ (o.1 = 45 ∧ w = 1) ∨ (o.1 = 42 ∧ w = 2)) (gx : Gd x) (gy : Gd y) : StepC N O i n m A (match cmb w x y with
    | .inl f => .inl (f, o.2.1)
    | .inr v => .inr (v :: st)) := by
  obtain ⟨h1, h2, h3, h4, h5⟩ := id h
  obtain ⟨d1, d2, d3⟩ := drop_cons hd
  obtain ⟨n, rfl⟩ : ∃ n', n = n' + 1 := ⟨n - 1, by omega⟩
  obtain ⟨x1, x2, x3, x4, x5, x6⟩ := h1.2 i o d1
  obtain ⟨p1, p2, p3, p4, p5⟩ := h5
  have hlen : (y :: x :: st).length = st.length + 2 := rfl
  rw [hlen] at p1 p2
  have p3 : SumC m (246 + 3 * (st.length + 1)) y.1 y.2 := p3
  obtain ⟨s1, s2, s3, s4⟩ := pileS (i := st.length) (by omega)
  obtain ⟨t1, t2, t3, t4⟩ := pileS (i := st.length + 1) (by omega)
  have f0 : Fr wkP m (wI m 243 2 (nI (st.length + 1))) := Fr.rf.sI (Or.inl ⟨rfl, rfl⟩)
  have hT0 : Tab (wI m 243 2 (nI (st.length + 1))) := h4.fr (fun b j hb => f0 b j (wk_tab hb))
  have q4 : SumC (wI m 243 2 (nI (st.length + 1))) (246 + 3 * st.length) x.1 x.2 := p4.same (fun b j hb => ⟨rI_n _ _ (by omega), rfl⟩)
  have q3 : SumC (wI m 243 2 (nI (st.length + 1))) (246 + 3 * (st.length + 1)) y.1 y.2 := p3.same (fun b j hb => ⟨rI_n _ _ (by omega), rfl⟩)
  obtain ⟨m1, v, c1, c2, c3⟩ := c_combine (N := N) (q := qmn x y) (w := w) hN s1 t1 s1 s4 t4 s4 gx.1 gy.1 (by omega) qmn_iff gx.2.1 gy.2.1 hT0 q4 q3
  have f1 : Fr wkP m m1 := f0.tr (c2.mo (fun b j q => by unfold cmP muQ at q; unfold wkP; omega))
  have start : ∀ R, J_X4_workOut_191 N (H_X4_workOut_7 N n) 243 234 (nI i) v (S m1) = R → H_X4_workOut_7 N (n + 1) 243 234 (nI i) (S m) = R := by
    intro R hR
    have j53 : J_X4_workOut_53 N (H_X4_workOut_7 N n) 243 234 (nI i) (nI o.1) (nI w) (S m) = R := by
      unfold J_X4_workOut_53
      refine e_f (nI_m1 (by omega)) ?_
      refine e_ldIV fkO (p1) ?_
      refine e_f (by rw [leR (by decide) (by omega)]; show ¬ st.length + 2 ≤ 1; omega) ?_
      refine e_ldIV fkO (p1) ?_
      rw [subR (by show 1 ≤ st.length + 2; omega)]
      refine e_stI fkO ?_
      refine e_ldR fkO fkR0 ?_
      refine e_ldR fkO fkR1 ?_
      refine e_ldIV fkO (rI_s _ _ _ _) ?_
      refine e_alR pileA (by decide) (j := st.length) (by rw [subR (by show 1 ≤ st.length + 2 - 1; omega)]; exact congrArg nI (by show st.length + 2 - 1 - 1 = _; omega)) (by omega) s3 ?_
      refine e_ldR fkO fkR1 ?_
      refine e_ldIV fkO (rI_s _ _ _ _) ?_
      refine e_alR pileA (by decide) (j := st.length + 1) (congrArg nI (by show st.length + 2 - 1 = _; omega)) (by omega) t3 ?_
      refine e_ldR fkO fkR1 ?_
      refine e_ldIV fkO (rI_s _ _ _ _) ?_
      refine e_alR pileA (by decide) (j := st.length) (by rw [subR (by show 1 ≤ st.length + 2 - 1; omega)]; exact congrArg nI (by show st.length + 2 - 1 - 1 = _; omega)) (by omega) s3 ?_
      refine e_bnd (c1) ?_
      exact hR
    refine Eq.trans u_H_X4_workOut_7 ?_
    refine e_ldIV ftO (h1.1) ?_
    refine e_f (by rw [nI_leI (by omega) (by omega)]; omega) ?_
    refine e_ldR ftO ftR5 ?_
    refine e_alIV ftA5 rfl (by omega) (x1) ?_
    rcases ho with ⟨o1, o2⟩ | ⟨o1, o2⟩ | ⟨o1, o2⟩
    · refine e_t (by rw [o1]; rfl) ?_
      rw [o2] at j53
      exact j53
    · refine e_f (by rw [o1]; decide) ?_
      refine e_t (by rw [o1]; rfl) ?_
      rw [o2] at j53
      exact j53
    · refine e_f (by rw [o1]; decide) ?_
      refine e_f (by rw [o1]; decide) ?_
      refine e_t (by rw [o1]; rfl) ?_
      rw [o2] at j53
      exact j53
  have bad : ∀ f, (f = 3 ∧ v = -2) ∨ (f = 4 ∧ v = -4) ∨ (f = 5 ∧ v = -6) → StepC N O i (n + 1) m A (.inl (f, o.2.1)) := fun f hf => ⟨m1, start _ (c_191 (h1.wk f1) h2 d1 d3 hf), f1⟩
  unfold cmb
  by_cases un : x.1 + y.1 = 1
  · rw [if_pos un] at c3 ⊢
    exact bad 3 (Or.inl ⟨rfl, c3⟩)
  rw [if_neg un] at c3 ⊢
  by_cases tg : tooX w (qmn x y) x.2 y.2 = true
  · rw [if_pos tg] at c3 ⊢
    exact bad 4 (Or.inr (Or.inl ⟨rfl, c3⟩))
  rw [if_neg tg] at c3 ⊢
  cases hs : sumX w (qmn x y) x.2 y.2 with
  | none =>
    rw [hs] at c3
    exact bad 5 (Or.inr (Or.inr ⟨rfl, c3⟩))
  | some row =>
    rw [hs] at c3
    obtain ⟨hv, r1, r2⟩ := c3
    refine h.next hd f1 (st' := (kdE row (mn x.1 y.1), row) :: st) ⟨?_, by show st.length + 1 < 12; omega, r1, ?_⟩ (start _ ?_)
    · rw [c2.i (by unfold cmP muQ; omega), rI_s]
      rfl
    · refine p5.same (fun b j b1 b2 => ?_)
      rw [c2.i (by unfold cmP muQ; omega), c2.j (by unfold cmP muQ; omega), rI_n _ _ (by omega)]
      exact ⟨rfl, rfl⟩
    · unfold J_X4_workOut_191
      refine e_t (hv) ?_
      refine e_nm ?_
      rw [addR]
theorem ex_avg {O A : List Tok} {i n : Nat} {x : Vl} {st : List Vl} {o : Tok} (hN : 100 ≤ N) (h : CS m O i n (x :: st)) (hd : O.drop i = o :: A) (ho : o.1 = 123) (gx : Gd x) : StepC N O i n m A (match avgV x with
    | .inl f => .inl (f, o.2.1)
    | .inr v => .inr (v :: st)) := by
  obtain ⟨h1, h2, h3, h4, h5⟩ := id h
  obtain ⟨d1, d2, d3⟩ := drop_cons hd
  obtain ⟨n, rfl⟩ : ∃ n', n = n' + 1 := ⟨n - 1, by omega⟩
  obtain ⟨x1, x2, x3, x4, x5, x6⟩ := h1.2 i o d1
  obtain ⟨p1, p2, p3, p4⟩ := h5
  have hlen : (x :: st).length = st.length + 1 := rfl
  rw [hlen] at p1 p2
  obtain ⟨s1, s2, s3, s4⟩ := pileS (i := st.length) (by omega)
  obtain ⟨m1, v, c1, c2, c3⟩ := c_uproot (N := N) hN s1 s1 s4 s4 (by omega) gx.1 gx.2.1 h4 p3
  have f1 : Fr wkP m m1 := c2.mo (fun b j q => by unfold cmP muQ at q; unfold wkP; omega)
  have start : ∀ R, J_X4_workOut_191 N (H_X4_workOut_7 N n) 243 234 (nI i) v (S m1) = R → H_X4_workOut_7 N (n + 1) 243 234 (nI i) (S m) = R := by
    intro R hR
    refine Eq.trans u_H_X4_workOut_7 ?_
    refine e_ldIV ftO (h1.1) ?_
    refine e_f (by rw [nI_leI (by omega) (by omega)]; omega) ?_
    refine e_ldR ftO ftR5 ?_
    refine e_alIV ftA5 rfl (by omega) (x1) ?_
    refine e_f (by rw [ho]; decide) ?_
    refine e_f (by rw [ho]; decide) ?_
    refine e_f (by rw [ho]; decide) ?_
    unfold J_X4_workOut_53
    refine e_t (rfl) ?_
    unfold J_X4_workOut_127
    refine e_t (by rw [ho]; rfl) ?_
    refine e_ldIV fkO (p1) ?_
    refine e_f (by rw [leR (by decide) (by omega)]; show ¬ st.length + 1 ≤ 0; omega) ?_
    refine e_ldR fkO fkR0 ?_
    refine e_ldR fkO fkR1 ?_
    refine e_ldIV fkO (p1) ?_
    refine e_alR pileA (by decide) (j := st.length) (by rw [subR (by show 1 ≤ st.length + 1; omega)]; rfl) (by omega) s3 ?_
    refine e_ldR fkO fkR1 ?_
    refine e_ldIV fkO (p1) ?_
    refine e_alR pileA (by decide) (j := st.length) (by rw [subR (by show 1 ≤ st.length + 1; omega)]; rfl) (by omega) s3 ?_
    refine e_bnd (c1) ?_
    exact hR
  have bad : ∀ f, (f = 3 ∧ v = -2) ∨ (f = 4 ∧ v = -4) ∨ (f = 5 ∧ v = -6) → StepC N O i (n + 1) m A (.inl (f, o.2.1)) := fun f hf => ⟨m1, start _ (c_191 (h1.wk f1) h2 d1 d3 hf), f1⟩
  have good : ∀ w : Vl, v = 0 → SumC m1 (246 + 3 * st.length) w.1 w.2 → StepC N O i (n + 1) m A (.inr (w :: st)) := fun w hv hw => by
    refine h.next hd f1 (st' := w :: st) ⟨?_, by show st.length + 1 < 12; omega, hw, ?_⟩ (start _ ?_)
    · rw [c2.i (by unfold cmP muQ; omega)]
      exact p1
    · refine p4.same (fun b j b1 b2 => ?_)
      rw [c2.i (by unfold cmP muQ; omega), c2.j (by unfold cmP muQ; omega)]
      exact ⟨rfl, rfl⟩
    · unfold J_X4_workOut_191
      refine e_t (hv) ?_
      refine e_nm ?_
      rw [addR]
  unfold avgV
  by_cases z0 : x.1 = 0
  · rw [if_pos z0] at c3 ⊢
    exact bad 3 (Or.inl ⟨rfl, c3⟩)
  rw [if_neg z0] at c3 ⊢
  by_cases z2 : x.1 = 2
  · rw [if_pos z2] at c3 ⊢
    exact good x c3.1 (by rw [z2]; exact c3.2)
  rw [if_neg z2] at c3 ⊢
  cases hs : avgX x.2 with
  | none =>
    rw [hs] at c3
    exact bad 5 (Or.inr (Or.inr ⟨rfl, c3⟩))
  | some row =>
    rw [hs] at c3
    exact good (kdE row 0, row) c3.1 c3.2.1
end CEX
