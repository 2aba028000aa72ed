section UROWS
theorem u_J_X9_read_202 {N : Nat} {a0 : Nat} {l1 : Int32} {k0 : Nat} {k1 : Int32} {k2 : Int32} {s : vS} : J_X9_read_202 N a0 l1 k0 k1 k2 s = (asI s k0 k1 k2 (fun s => ldR s a0 9 9 (fun r30 => asZ s r30 l1 (1 : Int32) (fun s => bnd (F_X9_terms N a0 l1 s) (fun v31 s => some (v31, s)))))) := rfl
theorem u_J_X9_read_196 {N : Nat} {a0 : Nat} {l1 : Int32} {k0 : Nat} {k1 : Int32} {s : vS} : J_X9_read_196 N a0 l1 k0 k1 s = (ldR s a0 9 10 (fun r28 => alI s r28 l1 (fun v29 => J_X9_read_202 N a0 l1 k0 k1 v29 s))) := rfl
theorem u_J_X9_read_151 {N : Nat} {a0 : Nat} {l1 : Int32} {s : vS} : J_X9_read_151 N a0 l1 s = (ldI s a0 9 43 (fun v21 => if v21 = (0 : Int32) then (bnd (F_X9_copy N a0 (4 : Int32) l1 s) (fun v22 s => ldR s a0 9 10 (fun r23 => bnd (F_X9_terms N a0 l1 s) (fun v24 s => if v24 ≤ (0 : Int32) then (J_X9_read_196 N a0 l1 r23 l1 s) else (ldR s a0 9 10 (fun r25 => alI s r25 l1 (fun v26 => if v26 = (2 : Int32) then (J_X9_read_202 N a0 l1 r23 l1 (0 : Int32) s) else (J_X9_read_196 N a0 l1 r23 l1 s)))))))) else (ldI s a0 9 43 (fun v27 => some (v27, s))))) := rfl
theorem u_J_X9_read_140 {N : Nat} {a0 : Nat} {l1 : Int32} {s : vS} : J_X9_read_140 N a0 l1 s = (ldI s a0 9 43 (fun v19 => if v19 = (0 : Int32) then (bnd (F_X9_endProduct N a0 s) (fun v20 s => J_X9_read_151 N a0 l1 s)) else (J_X9_read_151 N a0 l1 s))) := rfl
theorem u_H_X9_read_114 {N : Nat} {n : Nat} {a0 : Nat} {l1 : Int32} {l3 : Int32} {s : vS} : H_X9_read_114 N (n + 1) a0 l1 l3 s = (ldI s a0 9 30 (fun v10 => if v10 ≤ l3 then (J_X9_read_140 N a0 l1 s) else (ldI s a0 9 43 (fun v11 => if v11 = (0 : Int32) then (bnd (F_X9_workOut N a0 l3 s) (fun v12 s => nm (l3 + (1 : Int32)) (fun l3_13 => H_X9_read_114 N n a0 l1 l3_13 s))) else (J_X9_read_140 N a0 l1 s))))) := rfl
theorem u_J_X9_read_86 {N : Nat} {k36 : Nat → Int32 → Int32 → vS → Option (Int32 × vS)} {a0 : Nat} {l1 : Int32} {l3 : Int32} {s : vS} : J_X9_read_86 N k36 a0 l1 l3 s = (nm (l3 + (1 : Int32)) (fun l3_18 => k36 a0 l1 l3_18 s)) := rfl
theorem u_J_X9_read_66 {N : Nat} {k36 : Nat → Int32 → Int32 → vS → Option (Int32 × vS)} {a0 : Nat} {l1 : Int32} {l3 : Int32} {s : vS} : J_X9_read_66 N k36 a0 l1 l3 s = (ldR s a0 9 33 (fun r14 => alI s r14 l3 (fun v15 => if (0 : Int32) ≤ v15 then (J_X9_read_86 N k36 a0 l1 l3 s) else (ldR s a0 9 32 (fun r16 => alI s r16 l3 (fun v17 => some (((-2000 : Int32) - v17), s))))))) := rfl
theorem u_H_X9_read_36 {N : Nat} {n : Nat} {a0 : Nat} {l1 : Int32} {l3 : Int32} {s : vS} : H_X9_read_36 N (n + 1) a0 l1 l3 s = (ldI s a0 9 30 (fun v4 => if v4 ≤ l3 then (stI s a0 9 37 (0 : Int32) (fun s => stI s a0 9 43 (0 : Int32) (fun s => stZ s a0 9 25 (0 : Int32) (fun s => bnd (F_X9_begin N a0 (0 : Int32) s) (fun v5 s => H_X9_read_114 N N a0 l1 (0 : Int32) s))))) else (ldR s a0 9 31 (fun r6 => alI s r6 l3 (fun v7 => if v7 = (91 : Int32) then (J_X9_read_66 N (H_X9_read_36 N n) a0 l1 l3 s) else (ldR s a0 9 31 (fun r8 => alI s r8 l3 (fun v9 => if v9 = (60 : Int32) then (J_X9_read_66 N (H_X9_read_36 N n) a0 l1 l3 s) else (J_X9_read_86 N (H_X9_read_36 N n) a0 l1 l3 s))))))))) := rfl
theorem u_F_X9_read {N : Nat} {a0 : Nat} {l1 : Int32} {s : vS} : F_X9_read N a0 l1 s = (rcv s a0 9 (bnd (F_X9_in N l1 (0 : Int32) (3 : Int32) s) (fun v1 s => if v1 = (0 : Int32) then (some ((-1 : Int32), s)) else (bnd (F_X9_isText N a0 s) (fun v2 s => stI s a0 9 13 (0 : Int32) (fun s => if v2 = (0 : Int32) then (ldI s a0 9 29 (fun v3 => some (((-1000 : Int32) - v3), s))) else (H_X9_read_36 N N a0 l1 (0 : Int32) s))))))) := rfl
end UROWS
section MRN
variable {N z : Nat} {t : Nat → Nat} {m m' : vM} {s : vS} {T : List Tok}
theorem dropT {A : List Tok} {i : Nat} {x : Tok} (h : T.drop i = x :: A) : T[i]? = some x ∧ T.drop (i + 1) = A ∧ i < T.length := drop_cons h
theorem evt_ok {x : Tok} {bh : Bool} {e : LV} {r E' : List LV} {A : List Tok} (hG : LevG t z (erE (e :: r))) (hE : GdE (e :: r)) (hT : TimN bh (e :: r)) (hok : Ok t z bh (erE (e :: r)) x) (hm : mis [x] = none) (hR : Run t z A (bhn x) (lvn x (erE (e :: r)))) (h : evt t x (e :: r) = .inr E') : LevG t z (erE E') ∧ GdE E' ∧ TimN (bhn x) E' ∧ Run t z A (bhn x) (erE E') := by
  have hG2 := ok_lev hG hok
  have her : erE (e :: r) = e.1 :: erE r := rfl
  have ge := hE e List.mem_cons_self
  have gr_ : GdE r := fun y hy => hE y (List.mem_cons_of_mem _ hy)
  -- it is enough that the levels are as told
  have fin : erE E' = lvn x (erE (e :: r)) → GdE E' → TimN (bhn x) E' → LevG t z (erE E') ∧ GdE E' ∧ TimN (bhn x) E' ∧ Run t z A (bhn x) (erE E') := fun h1 h2 h3 => ⟨by rw [h1]; exact hG2, h2, h3, by rw [h1]; exact hR⟩
  rw [her] at hG hok fin
  obtain ⟨okz, ok⟩ := id hok
  have one : bh = false → (x.1 = 48 ∨ x.1 = 91 ∨ x.1 = 60) → LevG t z (erE E') ∧ GdE E' ∧ TimN (bhn x) E' ∧ Run t z A (bhn x) (erE E') := by
    intro hb hx
    have hev : evt t x (e :: r) = bnS (cmV (valV x) e) (fun e' => .inr (e' :: r)) := if_pos hx
    have gv2 := valV_gd (ok_val (hb ▸ hok) hm hx)
    rw [hev] at h
    cases hc : cmV (valV x) e with
    | inl f => rw [hc] at h; cases h
    | inr e' =>
      rw [hc] at h
      cases h
      obtain ⟨q1, q2⟩ := cmV_er hc
      have gg := cmV_gd gv2 ge hc
      refine fin ?_ (fun y hy => ?_) (fun _ y z' hy => ?_)
      · rw [(emi_n (t := t) (g := e.1) (r := erE r) hx).2.1, ← q1]
        rfl
      · rcases List.mem_cons.mp hy with rfl | hy
        · exact gg
        · exact gr_ y hy
      · cases hy
        rw [q1]
  rcases ok with ⟨hb, kt, ok⟩ | ⟨hb, ok⟩
  · have htim := hT hb e r rfl
    rcases ok with hcl | hop
    · obtain ⟨⟨g2, r2, hr2⟩, hc, o, ho⟩ := cls_r hG.1 (show cls t e.1 x.1 from hcl)
      match r, hr2, h, fin, gr_ with
      | e2 :: r', hr2, h, fin, gr_ =>
        have hev : evt t x (e :: e2 :: r') = bnS (epV t e) (fun w => bnS (brV t e.1 w) (fun w' => bnS (cmV w' e2) (fun e' => .inr (e' :: r')))) := (if_neg (by omega)).trans ((if_neg (by omega)).trans ((if_neg (by omega)).trans (if_pos hc)))
        rw [hev] at h
        have ge2 := gr_ e2 List.mem_cons_self
        cases hc1 : epV t e with
        | inl f => rw [hc1] at h; cases h
        | inr w =>
          rw [hc1] at h
          have h : bnS (brV t e.1 w) (fun w' => bnS (cmV w' e2) (fun e' => .inr (e' :: r'))) = .inr E' := h
          cases hc2 : brV t e.1 w with
          | inl f => rw [hc2] at h; cases h
          | inr w' =>
            rw [hc2] at h
            have h : bnS (cmV w' e2) (fun e' => .inr (e' :: r')) = .inr E' := h
            cases hc3 : cmV w' e2 with
            | inl f => rw [hc3] at h; cases h
            | inr e' =>
              rw [hc3] at h
              cases h
              obtain ⟨q1, q2⟩ := cmV_er hc3
              have gg := cmV_gd (brV_gd (epV_gd ge hc1) hc2) ge2 hc3
              refine fin ?_ (fun y hy => ?_) (fun _ y z' hy => ?_)
              · rw [show erE (e2 :: r') = e2.1 :: erE r' from rfl, (emi_c (t := t) (g := e.1) (g2 := e2.1) (r := erE r') hc).2.1, ← q1]
                rfl
              · rcases List.mem_cons.mp hy with rfl | hy
                · exact gg
                · exact gr_ y (List.mem_cons_of_mem _ hy)
              · cases hy
                rw [q1]
    · by_cases y : x.1 = 42
      · have hev : evt t x (e :: r) = .inr (((e.1.1, e.1.2.1, some x.2.1), e.2.1, e.2.2) :: r) := (if_neg (by omega)).trans (if_pos y)
        rw [hev] at h
        cases h
        obtain ⟨-, c2, c3⟩ := emi_t (t := t) (g := e.1) (r := erE r) y
        refine fin ?_ (fun y hy => ?_) (fun q => ?_)
        · rw [c2]
          rfl
        · rcases List.mem_cons.mp hy with rfl | hy
          · exact ge
          · exact gr_ y hy
        · rw [c3] at q
          cases q
      · have y : x.1 = 43 ∨ x.1 = 45 := by
          rcases hop with q | q | q
          · exact Or.inl q
          · exact Or.inr q
          · exact absurd q y
        have hev : evt t x (e :: r) = bnS (epV t e) (fun w => .inr (((e.1.1, some x.2.1, e.1.2.2), w, e.2.2) :: r)) := (if_neg (by omega)).trans ((if_neg (by omega)).trans (if_pos y))
        rw [hev] at h
        obtain ⟨-, c2, c3⟩ := emi_s (t := t) (g := e.1) (r := erE r) y
        cases hc1 : epV t e with
        | inl f => rw [hc1] at h; cases h
        | inr w =>
          rw [hc1] at h
          cases h
          refine fin ?_ (fun y hy => ?_) (fun q => ?_)
          · rw [c2]
            rfl
          · rcases List.mem_cons.mp hy with rfl | hy
            · exact ⟨epV_gd ge hc1, ge.2⟩
            · exact gr_ y hy
          · rw [c3] at q
            cases q
  · rcases ok with ⟨kt, ko, kl⟩ | ⟨k, _⟩ | ⟨k, _⟩ | ⟨k, _⟩
    · have hev : evt t x (e :: r) = .inr (((some x.2.1, none, none), V0, V0) :: e :: r) := (if_neg (by omega)).trans ((if_neg (by omega)).trans ((if_neg (by omega)).trans (if_neg (by omega))))
      rw [hev] at h
      cases h
      obtain ⟨-, c2, c3⟩ := emi_o (t := t) (g := e.1) (r := erE r) ko
      refine fin ?_ (fun y hy => ?_) (fun q => ?_)
      · rw [c2]
        rfl
      · rcases List.mem_cons.mp hy with rfl | hy
        · exact ⟨V0_gd, V0_gd⟩
        · exact hE y hy
      · rw [c3] at q
        cases q
    · exact one hb (by omega)
    · exact one hb (by omega)
    · exact one hb (by omega)
theorem m_run {l1 : Int32} (hN : 1000 ≤ N) (hz : z ≤ 60) : ∀ (A : List Tok) (bh : Bool) (E : List LV) (k n : Nat) (m : vM), T.drop k = A → k ≤ T.length → A.length < n → MS m T t bh E → LevG t z (erE E) → GdE E → TimN bh E → Run t z A bh (erE E) → mis A = none →
    ∃ m', (∀ R, J_X9_read_151 N 322 l1 (S m') = R → H_X9_read_114 N n 322 l1 (nI k) (S m) = R) ∧ Fr mwP m m' ∧ match evr t A E with
      | .inl f => rI m' 322 43 = flv f.1 f.2 ∧ ¬ flv f.1 f.2 = 0
      | .inr w => rI m' 322 43 = 0 ∧ RowV m' 4 w
  | _, _, _, _, 0, _, _, _, h, _, _, _, _, _, _ => by omega
  | [], bh, E, k, n + 1, m, hd, hk, hn, h, hG, hE, hTn, hR, hM => by
    obtain ⟨⟨hO, hTl⟩, hTb, ⟨h37, h43, h25⟩, hLv⟩ := id h
    obtain ⟨hb, hl⟩ := hR
    have hl : E.length = 1 := by unfold erE at hl; rw [List.length_map] at hl; exact hl
    have hkT : T.length ≤ k := by
      rcases Nat.lt_or_ge k T.length with y | y
      · rw [List.drop_eq_getElem_cons y] at hd; cases hd
      · exact y
    match E, hl with
    | [e], _ =>
      rw [hb] at h
      have pz : ∀ q, e.1.2.1 = some q → q < 60 := fun q hq => by
        have := hG.2.2.1 e.1 List.mem_cons_self q (Or.inr (Or.inl hq))
        omega
      obtain ⟨m1, p1, p2, p3, p4⟩ := m_endProd (N := N) (by omega) h (by show 0 < 4; omega) (hE e List.mem_cons_self) (fun q hq => ⟨(hG.2.2.2 e.1 List.mem_cons_self).1 q hq, pz q hq⟩)
      refine ⟨m1, fun R hR => ?_, p2, ?_⟩
      · refine Eq.trans u_H_X9_read_114 ?_
        refine e_ldIV fmO (hO.1) ?_
        refine e_t (by rw [nI_leI (by omega) (by omega)]; exact hkT) ?_
        unfold J_X9_read_140
        refine e_ldIV fmO (h43) ?_
        refine e_t (rfl) ?_
        refine e_bnd (p1) ?_
        exact hR
      · show match epV t e with
          | .inl f => rI m1 322 43 = flv f.1 f.2 ∧ ¬ flv f.1 f.2 = 0
          | .inr w => rI m1 322 43 = 0 ∧ RowV m1 4 w
        cases hc : epV t e with
        | inl f => rw [hc] at p4; exact ⟨p4.1, p4.2.1⟩
        | inr w => rw [hc] at p4; exact ⟨p4.1.1, p4.2.1⟩
  | x :: A, bh, E, k, n + 1, m, hd, hk, hn, h, hG, hE, hTn, hR, hM => by
    obtain ⟨⟨hO, hTl⟩, hTb, ⟨h37, h43, h25⟩, hLv⟩ := id h
    obtain ⟨hok, hR2⟩ := hR
    obtain ⟨hm1, hm2⟩ := mis_c hM
    obtain ⟨d1, d2, d3⟩ := dropT hd
    have hnl : (x :: A).length = A.length + 1 := rfl
    match E, hG with
    | e :: r, hG =>
      obtain ⟨m1, w1, w2⟩ := m_tok (N := N) hN hz d1 h hG hE hTn hok hm1
      have start : ∀ R, H_X9_read_114 N n 322 l1 (nI (k + 1)) (S m1) = R → H_X9_read_114 N (n + 1) 322 l1 (nI k) (S m) = R := by
        intro R hR
        refine Eq.trans u_H_X9_read_114 ?_
        refine e_ldIV fmO (hO.1) ?_
        refine e_f (by rw [nI_leI (by omega) (by omega)]; omega) ?_
        refine e_ldIV fmO (h43) ?_
        refine e_t (rfl) ?_
        refine e_bnd (w1) ?_
        refine e_nm ?_
        rw [addR]
        exact hR
      have hevr : evr t (x :: A) (e :: r) = bnS (evt t x (e :: r)) (fun E' => evr t A E') := rfl
      rw [hevr]
      cases hev : evt t x (e :: r) with
      | inl f =>
        rw [hev] at w2
        obtain ⟨g1, g2, g3⟩ := w2
        obtain ⟨n, rfl⟩ : ∃ n', n = n' + 1 := ⟨n - 1, by omega⟩
        have hO1 := hO.mw g1
        refine ⟨m1, fun R hR => start R ?_, g1, g2, g3⟩
        have j140 : J_X9_read_140 N 322 l1 (S m1) = R := by
          unfold J_X9_read_140
          refine e_ldIV fmO (g2) ?_
          refine e_f (g3) ?_
          exact hR
        refine Eq.trans u_H_X9_read_114 ?_
        refine e_ldIV fmO (hO1.1) ?_
        by_cases y : T.length ≤ k + 1
        · exact e_t (by rw [nI_leI (by omega) (by omega)]; exact y) j140
        · refine e_f (by rw [nI_leI (by omega) (by omega)]; exact y) ?_
          refine e_ldIV fmO (g2) ?_
          refine e_f (g3) ?_
          exact j140
      | inr E' =>
        rw [hev] at w2
        obtain ⟨g1, g2⟩ := w2
        obtain ⟨hG2, hE2, hT2, hR3⟩ := evt_ok hG hE hTn hok hm1 hR2 hev
        obtain ⟨m', i1, i2, i3⟩ := m_run hN hz A (bhn x) E' (k + 1) n m1 d2 (by omega) (by omega) g2 hG2 hE2 hT2 hR3 hm2
        exact ⟨m', fun R hR => start R (i1 R hR), g1.tr i2, i3⟩
end MRN
