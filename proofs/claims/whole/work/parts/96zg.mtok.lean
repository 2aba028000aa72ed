section MTK
variable {N z : Nat} {t : Nat → Nat} {m m' : vM} {s : vS} {T : List Tok}
theorem m_close {e e2 : LV} {r : List LV} {o : Nat} (hN : 1000 ≤ N) (h : MS m T t true (e :: e2 :: r)) (hr : r.length < 3) (ge : Gd e.2.1 ∧ Gd e.2.2) (ge2 : Gd e2.2.1 ∧ Gd e2.2.2) (hQ : ∀ q, e.1.2.1 = some q → (t q = 43 ∨ t q = 45) ∧ q < 60) (ho : e.1.1 = some o) (ho2 : (t o = 40 ∨ t o = 123) ∧ o < 60) (hP2 : ∀ q, e2.1.2.2 = some q → q < 60) : ∃ m', F_X9_close N 322 (S m) = some ((), S m') ∧ match bnS (epV t e) (fun w => bnS (brV t e.1 w) (fun w' => bnS (cmV w' e2) (fun e' => .inr (e' :: r)))) with
    | .inl f => FltM m m' f
    | .inr E' => Fr mwP m m' ∧ MS m' T t true E' := by
  have hlen : (e2 :: r).length = r.length + 1 := rfl
  obtain ⟨m1, p1, p2, p3, p4⟩ := m_endProd (N := N) (by omega) h (by rw [hlen]; omega) ge hQ
  obtain ⟨⟨hO, hTl⟩, hTb, -, -⟩ := id h
  have hO1 := hO.mw p2
  have hTb1 : Tab m1 := hTb.fr (fun b j hb => p2 b j (mw_tab hb))
  have start : ∀ R, clR N (S m1) = R → F_X9_close N 322 (S m) = R := by
    intro R hR
    unfold F_X9_close
    refine e_rcv fmO ?_
    refine e_bnd (p1) ?_
    exact hR
  cases hc1 : epV t e with
  | inl f =>
    rw [hc1] at p4
    obtain ⟨m', g1, g2, g3⟩ := m_close_f (l := r.length) hN hr hO1 hTb1 p3 ho p4.1 p4.2.1 p4.2.2
    exact ⟨m', start _ g1, p2.tr g2, g3, p4.2.1⟩
  | inr w =>
    rw [hc1] at p4
    obtain ⟨⟨h43, h25⟩, hw, -, hL⟩ := p4
    have gw := epV_gd ge hc1
    obtain ⟨h37, hB⟩ := p3
    have h37 : rI m1 322 37 = nI (r.length + 1) := h37
    obtain ⟨k, x, k1, k2, k3, k4, k5⟩ := hB o ho
    have hmc : mc x.1 = t o := by rw [k4]; unfold mc; exact if_neg (by omega)
    obtain ⟨m2, c1, c2, c3, c4⟩ := m_copyG (N := N) (m := m1) (p := 4 + 2 * (r.length + 1)) (q := 12) (by omega) (by omega) (by omega)
    have hw12 := c4 w hw
    have f2 : Fr mwP m m2 := p2.tr (c2.mo (fun _ _ => rw_mw (by omega)))
    have hO2 := hO.mw f2
    have hTb2 : Tab m2 := hTb.fr (fun b j hb => f2 b j (mw_tab hb))
    have e37 : rI m2 322 37 = nI (r.length + 1) := by rw [c2.i (by unfold rwP; omega)]; exact h37
    have e43 : rI m2 322 43 = 0 := by rw [c2.i (by unfold rwP; omega)]; exact h43
    have e25 : rI m2 322 25 = 0 := by rw [c2.i (by unfold rwP; omega)]; exact h25
    have k2' : rI m2 353 (r.length + 1) = nI k := by rw [c2.i (by unfold rwP; omega)]; exact k2
    have htok : rI m2 344 k = nI (t o) := by rw [(hO2.2 k x k1).1, hmc]
    have hL2 : LvM T t m2 false (e2 :: r) := hL.same (fun b l b1 b2' b3 => c2.i (by unfold rwP; omega)) (fun u v u1 u2 hv => hv.rw c2 (by rw [hlen] at u2; omega))
    have start2 : ∀ R, (if nI (t o) = 123 then (if rI m2 331 12 = 0 then (bnd (F_X9_blame N 322 (3) (nI k) (S m2)) (fun _ s => J_X9_close_105 N 322 s)) else (J_X9_close_54 N 322 (nI k) (S m2))) else (J_X9_close_54 N 322 (nI k) (S m2))) = R → F_X9_close N 322 (S m) = R := by
      intro R hR
      refine start R ?_
      unfold clR
      refine e_bnd (m_sumRow h37) ?_
      refine e_bnd (c1) ?_
      refine e_ldR fmO fmR42 ?_
      refine e_ldIV fmO (e37) ?_
      refine e_alIV fmA42 (j := r.length + 1) rfl (by omega) k2' ?_
      refine e_ldR fmO fmR31 ?_
      refine e_alIV fmA31 rfl (by omega) (htok) ?_
      refine e_i (fun y => ?_) (fun y => ?_)
      · refine e_ldR fmO fmR10 ?_
        refine e_alI fmA10 (j := 12) rfl (by omega) ?_
        rw [if_pos y] at hR
        exact hR
      · rw [if_neg y] at hR
        exact hR
    -- the value comes to the product around
    have fin : ∀ (m3 : vM) (w' : Vl), Fr mwP m m3 → rI m3 322 37 = nI (r.length + 1) → rI m3 322 43 = 0 → rI m3 322 25 = 0 → LvM T t m3 false (e2 :: r) → RowV m3 12 w' → Gd w' → ∃ m', J_X9_close_105 N 322 (S m3) = some ((), S m') ∧ match bnS (cmV w' e2) (fun e' => .inr (e' :: r)) with
        | .inl f => FltM m m' f
        | .inr E' => Fr mwP m m' ∧ MS m' T t true E' := by
      intro m3 w' g1 g2 g3 g4 g5 g6 g7
      have f3 : Fr mwP m (wI m3 322 37 (nI r.length)) := g1.sI (Or.inl (by omega))
      obtain ⟨m', d1, d2⟩ := m_comes (N := N) (m := wI m3 322 37 (nI r.length)) (e := e2) (r := r) (w := w') (by omega) ⟨⟨hO.mw f3, hTl⟩, hTb.fr (fun b j hb => f3 b j (mw_tab hb)), ⟨rI_s _ _ _ _, by rw [rI_n _ _ (by omega)]; exact g3, by rw [rI_n _ _ (by omega)]; exact g4⟩, g5.same (fun b l b1 b2' b3 => rI_n _ _ (by omega)) (fun u v u1 u2 hv => hv.wi (by omega))⟩ (by omega) (g6.wi (by omega)) g7 ge2 hP2
      refine ⟨m', ?_, ?_⟩
      · unfold J_X9_close_105
        refine e_ldIV fmO (g2) ?_
        rw [subR (by show 1 ≤ r.length + 1; omega)]
        refine e_stI fmO ?_
        refine e_ldIV fmO (show rI _ 322 43 = 0 by rw [rI_n _ _ (by omega)]; exact g3) ?_
        refine e_t (rfl) ?_
        refine e_bnd (d1) ?_
        rfl
      · cases hc : cmV w' e2 with
        | inl f =>
          rw [hc] at d2
          exact ⟨f3.tr d2.1, d2.2⟩
        | inr e' =>
          rw [hc] at d2
          exact ⟨f3.tr d2.1, d2.2⟩
    by_cases y : t o = 123
    · have hbr : brV t e.1 w = (match avgV w with
        | .inl f => .inl (f, o)
        | .inr v => .inr v) := by
        unfold brV
        rw [ho]
        exact if_pos y
      have y1 : nI (t o) = 123 := by rw [y]; rfl
      show ∃ m', F_X9_close N 322 (S m) = some ((), S m') ∧ match bnS (brV t e.1 w) (fun w' => bnS (cmV w' e2) (fun e' => .inr (e' :: r))) with
        | .inl f => FltM m m' f
        | .inr E' => Fr mwP m m' ∧ MS m' T t true E'
      rw [hbr]
      have fault : ∀ (m3 : vM) (f : Nat), Fr mwP m m3 → rI m3 322 37 = nI (r.length + 1) → rI m3 322 43 = flv f o → 3 ≤ f → f < 6 → J_X9_close_105 N 322 (S m3) = some ((), S (wI m3 322 37 (nI r.length))) ∧ FltM m (wI m3 322 37 (nI r.length)) (f, o) := by
        intro m3 f g1 g2 g3 g4 g5
        have hnz := flv_nz f g5 g4 o ho2.2
        exact ⟨m_105f g2 g3 hnz, g1.sI (Or.inl (by omega)), by rw [rI_n _ _ (by omega)]; exact g3, hnz⟩
      have kw : rI m2 331 12 = nI w.1 := hw12.2
      have k3' := gw.1
      unfold avgV
      by_cases z0 : w.1 = 0
      · rw [if_pos z0]
        have hb := m_blame (N := N) (f := 3) hO2 k1 k5 e43
        rw [k3] at hb
        obtain ⟨d1, d2⟩ := fault (wI m2 322 43 (flv 3 o)) 3 (f2.sI (Or.inl (by omega))) (by rw [rI_n _ _ (by omega)]; exact e37) (rI_s _ _ _ _) (by omega) (by omega)
        refine ⟨_, start2 _ ?_, d2⟩
        refine e_t (y1) ?_
        refine e_t (by rw [kw, z0]; rfl) ?_
        refine e_bnd (hb) ?_
        exact d1
      rw [if_neg z0]
      have n0 : ¬ rI m2 331 12 = 0 := by rw [kw, eqR (by decide) (by omega)]; exact z0
      by_cases z2 : w.1 = 2
      · rw [if_pos z2]
        obtain ⟨m', d1, d2⟩ := fin m2 w f2 e37 e43 e25 hL2 hw12 gw
        refine ⟨m', start2 _ ?_, d2⟩
        refine e_t (y1) ?_
        refine e_f (n0) ?_
        unfold J_X9_close_54
        refine e_ldR fmO fmR31 ?_
        refine e_alIV fmA31 rfl (by omega) (htok) ?_
        refine e_t (y1) ?_
        refine e_ldR fmO fmR10 ?_
        refine e_alIV fmA10 (j := 12) rfl (by omega) kw ?_
        refine e_f (by rw [z2]; decide) ?_
        exact d1
      rw [if_neg z2]
      have z1 : w.1 = 1 := by omega
      obtain ⟨m3, a1, a2, a3, a4⟩ := m_averageTo (N := N) (m := m2) (t := 13) (u := 12) hN (by omega) (by omega) (by omega) gw.2.1 hTb2 e25 hw12.1
      have a1 : F_X9_averageTo N 322 12 13 (S m2) = some ((), S m3) := a1
      obtain ⟨m4, b1, b2', b3, b4⟩ := m_copyG (N := N) (m := m3) (p := 13) (q := 12) (by omega) (by omega) (by omega)
      have b1 : F_X9_copy N 322 13 12 (S m3) = some ((), S m4) := b1
      have f4 : Fr mwP m m4 := (f2.tr (a2.mo (fun _ _ => mo_mw))).tr (b2'.mo (fun _ _ => rw_mw (by omega)))
      have q37 : rI m4 322 37 = nI (r.length + 1) := by rw [b2'.i (by unfold rwP; omega), a2.i (by unfold moQ moP; omega)]; exact e37
      have q43 : rI m4 322 43 = 0 := by rw [b2'.i (by unfold rwP; omega), a2.i (by unfold moQ moP; omega)]; exact e43
      have start3 : ∀ R, (ldI (S m4) 322 9 25 (fun v18 => if v18 = (0) then (J_X9_close_105 N 322 (S m4)) else (bnd (F_X9_blame N 322 (5) (nI k) (S m4)) (fun _ s => J_X9_close_105 N 322 s)))) = R → F_X9_close N 322 (S m) = R := by
        intro R hR
        refine start2 R ?_
        refine e_t (y1) ?_
        refine e_f (n0) ?_
        unfold J_X9_close_54
        refine e_ldR fmO fmR31 ?_
        refine e_alIV fmA31 rfl (by omega) (htok) ?_
        refine e_t (y1) ?_
        refine e_ldR fmO fmR10 ?_
        refine e_alIV fmA10 (j := 12) rfl (by omega) kw ?_
        refine e_t (by rw [z1]; rfl) ?_
        refine e_bnd (a1) ?_
        refine e_bnd (b1) ?_
        exact hR
      cases hav : avgX w.2 with
      | none =>
        rw [hav] at a3
        have q25 : rI m4 322 25 = 1 := by rw [b2'.i (by unfold rwP; omega)]; exact a3.1
        have hb := m_blame (N := N) (f := 5) (hO.mw f4) k1 k5 q43
        rw [k3] at hb
        obtain ⟨d1, d2⟩ := fault (wI m4 322 43 (flv 5 o)) 5 (f4.sI (Or.inl (by omega))) (by rw [rI_n _ _ (by omega)]; exact q37) (rI_s _ _ _ _) (by omega) (by omega)
        refine ⟨_, start3 _ ?_, d2⟩
        refine e_ldIV fmO (q25) ?_
        refine e_f (by decide) ?_
        refine e_bnd (hb) ?_
        exact d1
      | some row =>
        rw [hav] at a3
        have hr13 : RowV m3 13 (kdE row 0, row) := ⟨a3.1.2, a4 row hav⟩
        have q25 : rI m4 322 25 = 0 := by rw [b2'.i (by unfold rwP; omega)]; exact a3.1.1
        have gv2 : Gd (kdE row 0, row) := avg_gd gw (by unfold avgV; rw [if_neg z0, if_neg z2, hav])
        obtain ⟨m', d1, d2⟩ := fin m4 (kdE row 0, row) f4 q37 q43 q25 (hL2.same (fun b l c1 c2 c3 => by rw [b2'.i (by unfold rwP; omega), a2.i (by unfold moQ moP; omega)]) (fun u v u1 u2 hv => (hv.mo a2 (by rw [hlen] at u2; omega)).rw b2' (by rw [hlen] at u2; omega))) (b4 _ hr13) gv2
        refine ⟨m', start3 _ ?_, d2⟩
        refine e_ldIV fmO (q25) ?_
        refine e_t (rfl) ?_
        exact d1
    · have hbr : brV t e.1 w = .inr w := by
        unfold brV
        rw [ho]
        exact if_neg y
      show ∃ m', F_X9_close N 322 (S m) = some ((), S m') ∧ match bnS (brV t e.1 w) (fun w' => bnS (cmV w' e2) (fun e' => .inr (e' :: r))) with
        | .inl f => FltM m m' f
        | .inr E' => Fr mwP m m' ∧ MS m' T t true E'
      rw [hbr]
      have y1 : ¬ nI (t o) = 123 := by rw [eqR (by decide) (by omega)]; exact y
      obtain ⟨m', d1, d2⟩ := fin m2 w f2 e37 e43 e25 hL2 hw12 gw
      refine ⟨m', start2 _ ?_, d2⟩
      refine e_f (y1) ?_
      unfold J_X9_close_54
      refine e_ldR fmO fmR31 ?_
      refine e_alIV fmA31 rfl (by omega) (htok) ?_
      refine e_f (y1) ?_
      exact d1
/-- row 12 is made: the state stays -/
def nmP (b j : Nat) : Prop := rwP 12 b j ∨ (b = 322 ∧ (j = 23 ∨ j = 24))
theorem nm_mw {b j : Nat} (h : nmP b j) : mwP b j := by
  unfold nmP rwP at h
  unfold mwP
  omega
theorem MS.mv {bh : Bool} {E : List LV} (h : MS m T t bh E) (hE : E.length ≤ 4) (f : Fr nmP m m') : MS m' T t bh E := by
  obtain ⟨⟨hO, hTl⟩, hTb, ⟨h37, h43, h25⟩, hL⟩ := h
  have g : Fr mwP m m' := f.mo (fun _ _ => nm_mw)
  exact ⟨⟨hO.mw g, hTl⟩, hTb.fr (fun b j hb => g b j (mw_tab hb)), ⟨by rw [f.i (by unfold nmP rwP; omega)]; exact h37, by rw [f.i (by unfold nmP rwP; omega)]; exact h43, by rw [f.i (by unfold nmP rwP; omega)]; exact h25⟩, hL.same (fun b l b1 b2' b3 => f.i (by unfold nmP rwP; omega)) (fun u v u1 u2 hv => hv.same (f.i (by unfold nmP rwP; omega)) (fun j hj => ⟨f.j (by unfold nmP rwP; omega), f.j (by unfold nmP rwP; omega)⟩))⟩
theorem m_tok {x : Tok} {k : Nat} {bh : Bool} {e : LV} {r : List LV} (hN : 1000 ≤ N) (hz : z ≤ 60) (hx : T[k]? = some x) (h : MS m T t bh (e :: r)) (hG : LevG t z (erE (e :: r))) (hE : GdE (e :: r)) (hTn : TimN bh (e :: r)) (hok : Ok t z bh (erE (e :: r)) x) (hm : mis [x] = none) : ∃ m', F_X9_workOut N 322 (nI k) (S m) = some ((), S m') ∧ match evt t x (e :: r) with
    | .inl f => FltM m m' f
    | .inr E' => Fr mwP m m' ∧ MS m' T t (bhn x) E' := by
  obtain ⟨⟨hO, hTl⟩, hTb, ⟨h37, h43, h25⟩, hLv⟩ := id h
  obtain ⟨hH, hL⟩ := id hLv
  have h37 : rI m 322 37 = nI r.length := h37
  have hk60 : k < 60 := by
    rcases Nat.lt_or_ge k T.length with w | w
    · omega
    · rw [List.getElem?_eq_none w] at hx; cases hx
  have her : erE (e :: r) = e.1 :: erE r := rfl
  rw [her] at hG hok
  have hrl : r.length < 4 := by
    have := hG.2.1
    rw [List.length_cons, erE, List.length_map] at this
    omega
  have ge := hE e List.mem_cons_self
  have pz : ∀ q, (e.1.1 = some q ∨ e.1.2.1 = some q ∨ e.1.2.2 = some q) → q < 60 := fun q hq => by
    have := hG.2.2.1 e.1 List.mem_cons_self q hq
    omega
  have qe := hG.2.2.2 e.1 List.mem_cons_self
  obtain ⟨x1, x2, x3, x4⟩ := hO.2 k x hx
  have comes_ : ∀ m1 : vM, Fr nmP m m1 → RowV m1 12 (valV x) → bh = false → Gd (valV x) → (x.1 = 48 ∨ x.1 = 91 ∨ x.1 = 60) → ∃ m', F_X9_comes N 322 (S m1) = some ((), S m') ∧ match evt t x (e :: r) with
      | .inl f => FltM m m' f
      | .inr E' => Fr mwP m m' ∧ MS m' T t (bhn x) E' := by
    intro m1 f1 hv hb gv2 hxx
    rw [hb] at h
    obtain ⟨m', d1, d2⟩ := m_comes (N := N) (by omega) (h.mv (by show r.length + 1 ≤ 4; omega) f1) hrl hv gv2 ge (fun q hq => pz q (Or.inr (Or.inr hq)))
    refine ⟨m', d1, ?_⟩
    have hev : evt t x (e :: r) = bnS (cmV (valV x) e) (fun e' => .inr (e' :: r)) := if_pos hxx
    have hbn : bhn x = true := decide_eq_true (by omega)
    have f1' : Fr mwP m m1 := f1.mo (fun _ _ => nm_mw)
    rw [hev, hbn]
    cases hc : cmV (valV x) e with
    | inl f => rw [hc] at d2; exact ⟨f1'.tr d2.1, d2.2⟩
    | inr e' => rw [hc] at d2; exact ⟨f1'.tr d2.1, d2.2⟩
  have mcn : ∀ c : Nat, c ≠ 48 → x.1 = c → mc x.1 = c := fun c hc hx => by
    unfold mc
    rw [if_neg (by omega)]
    exact hx
  have ne : ∀ c d : Nat, c < 128 → d < 128 → mc x.1 = c → c ≠ d → ¬ rI m 344 k = nI d := fun c d hc hd h1 h2 q => by
    rw [x1, h1] at q
    exact h2 ((nI_eq (by omega) (by omega)).mp q)
  have eqm : ∀ c : Nat, mc x.1 = c → rI m 344 k = nI c := fun c h1 => by rw [x1, h1]
  have start : ∀ R, (if rI m 344 k = (40) then (ldI (S m) 322 9 37 (fun v37 => stI (S m) 322 9 37 (v37 + (1)) (fun s => bnd (F_X9_begin N 322 (nI k) s) (fun v38 s => J_X9_workOut_239 N  s)))) else (if rI m 344 k = (41) then (bnd (F_X9_close N 322 (S m)) (fun v36 s => J_X9_workOut_239 N  s)) else (if rI m 344 k = (42) then (ldR (S m) 322 9 41 (fun r34 => ldI (S m) 322 9 37 (fun v35 => asI (S m) r34 v35 (nI k) (fun s => J_X9_workOut_239 N  s)))) else (if rI m 344 k = (49) then (bnd (F_X9_empty N 322 (12) (S m)) (fun v23 s => ldR s 322 9 33 (fun r24 => alI s r24 (nI k) (fun v25 => ldR s 322 9 34 (fun r26 => alI s r26 (nI k) (fun v27 => bnd (F_X9_lay N 322 (v25).toInt64 (v27).toInt64 s) (fun v28 s => ldR s 322 9 11 (fun r29 => ldJ s 322 9 23 (fun v30 => asJ s r29 (348) v30 (fun s => ldR s 322 9 12 (fun r31 => ldJ s 322 9 24 (fun v32 => asJ s r31 (348) v32 (fun s => bnd (F_X9_comes N 322 s) (fun v33 s => J_X9_workOut_239 N  s)))))))))))))) else (if rI m 344 k = (60) then (bnd (F_X9_empty N 322 (12) (S m)) (fun v16 s => ldR s 322 9 11 (fun r17 => ldR s 322 9 33 (fun r18 => alI s r18 (nI k) (fun v19 => asJ s r17 ((348) + v19) (1 : Int64) (fun s => ldR s 322 9 10 (fun r20 => ldR s 322 9 31 (fun r21 => alI s r21 (nI k) (fun v22 => if v22 = (91) then (J_X9_workOut_179 N 322 r20 (12) (0) s) else (J_X9_workOut_179 N 322 r20 (12) (1) s)))))))))) else (if rI m 344 k = (91) then (bnd (F_X9_empty N 322 (12) (S m)) (fun v9 s => ldR s 322 9 11 (fun r10 => ldR s 322 9 33 (fun r11 => alI s r11 (nI k) (fun v12 => asJ s r10 ((348) + v12) (1 : Int64) (fun s => ldR s 322 9 10 (fun r13 => ldR s 322 9 31 (fun r14 => alI s r14 (nI k) (fun v15 => if v15 = (91) then (J_X9_workOut_179 N 322 r13 (12) (0) s) else (J_X9_workOut_179 N 322 r13 (12) (1) s)))))))))) else (if rI m 344 k = (123) then (ldI (S m) 322 9 37 (fun v7 => stI (S m) 322 9 37 (v7 + (1)) (fun s => bnd (F_X9_begin N 322 (nI k) s) (fun v8 s => J_X9_workOut_239 N  s)))) else (if rI m 344 k = (125) then (bnd (F_X9_close N 322 (S m)) (fun v6 s => J_X9_workOut_239 N  s)) else (bnd (F_X9_endProduct N 322 (S m)) (fun v3 s => ldR s 322 9 40 (fun r4 => ldI s 322 9 37 (fun v5 => asI s r4 v5 (nI k) (fun s => J_X9_workOut_239 N  s))))))))))))) = R → F_X9_workOut N 322 (nI k) (S m) = R := by
    intro R hR
    unfold F_X9_workOut
    refine e_rcv fmO ?_
    refine e_ldR fmO fmR31 ?_
    refine e_alI fmA31 (j := k) rfl (by omega) ?_
    exact hR
  have net : ∀ (kd : Nat) (kv : Int32), (x.1 = 91 ∧ kd = 0 ∧ kv = 0) ∨ (x.1 = 60 ∧ kd = 1 ∧ kv = 1) → (∃ j, j < 29 ∧ x.2.2.1 = nI j) → ∃ m1 : vM, Fr nmP m m1 ∧ RowV m1 12 (valV x) ∧ ∀ R, bnd (F_X9_comes N 322 (S m1)) (fun v39 s => J_X9_workOut_239 N s) = R → bnd (F_X9_empty N 322 (12) (S m)) (fun v16 s => ldR s 322 9 11 (fun r17 => ldR s 322 9 33 (fun r18 => alI s r18 (nI k) (fun v19 => asJ s r17 ((348) + v19) (1 : Int64) (fun s => ldR s 322 9 10 (fun r20 => ldR s 322 9 31 (fun r21 => alI s r21 (nI k) (fun v22 => if v22 = (91) then (J_X9_workOut_179 N 322 r20 (12) (0) s) else (J_X9_workOut_179 N 322 r20 (12) (1) s))))))))) = R := by
    intro kd kv hkd hj
    obtain ⟨j, hj, hxj⟩ := hj
    obtain ⟨m1, e1, e2, e3, e4⟩ := m_empty (N := N) (m := m) (r := 12) (by omega) (by omega)
    have e1 : F_X9_empty N 322 12 (S m) = some ((), S m1) := e1
    have hmc : mc x.1 = x.1 := by unfold mc; exact if_neg (by omega)
    have hval : valV x = (kd, oneR j (1, 1)) := by
      unfold valV
      rw [if_neg (by omega), hxj, nI_clamp (by omega)]
      rcases hkd with ⟨q1, q2, q3⟩ | ⟨q1, q2, q3⟩
      · rw [if_neg (by omega), q2]
      · rw [if_pos q1, q2]
    have hkv : kv = nI kd := by
      rcases hkd with ⟨q1, q2, q3⟩ | ⟨q1, q2, q3⟩
      · rw [q2, q3]; rfl
      · rw [q2, q3]; rfl
    refine ⟨wI (wJ m1 332 (348 + j) 1) 331 12 kv, fun b i hb => ?_, ⟨fun i hi => ?_, ?_⟩, fun R hR => ?_⟩
    · unfold nmP rwP at hb
      rw [rI_n _ _ (by omega), rI_wJ, e2, if_neg (by omega), rJ_wI, rJ_n _ _ (by omega), e4 _ _ (by omega)]
      exact ⟨rfl, rfl⟩
    · rw [hval]
      show (rJ (wI (wJ m1 332 (348 + j) 1) 331 12 kv) 332 (29 * 12 + i), rJ (wI (wJ m1 332 (348 + j) 1) 331 12 kv) 333 (29 * 12 + i)) = oneR j (1, 1) i
      rw [rJ_wI, rJ_wI, rJ_n (a := 332) (a' := 333) _ _ (by omega), (e3 i hi).2]
      unfold oneR
      by_cases y : i = j
      · rw [if_pos y, y, show 29 * 12 + j = 348 + j from rfl, rJ_s]
      · rw [if_neg y, rJ_n _ _ (by omega), (e3 i hi).1]
    · rw [rI_s, hval, hkv]
    · refine e_bnd (e1) ?_
      refine e_ldR fmO fmR11 ?_
      refine e_ldR fmO fmR33 ?_
      refine e_alIV fmA33 (j := k) rfl (by omega) (show rI m1 346 k = nI j by rw [e2, if_neg (by omega), x3]; exact hxj) ?_
      refine e_asJ fmA11 (j := 348 + j) (by rw [addL]) (by omega) ?_
      refine e_ldR fmO fmR10 ?_
      refine e_ldR fmO fmR31 ?_
      refine e_alIV fmA31 (j := k) rfl (by omega) (show rI _ 344 k = nI (mc x.1) by rw [rI_wJ, e2, if_neg (by omega)]; exact x1) ?_
      rw [hmc]
      rcases hkd with ⟨q1, q2, q3⟩ | ⟨q1, q2, q3⟩
      · refine e_t (by rw [q1]; rfl) ?_
        unfold J_X9_workOut_179
        refine e_asI fmA10 (j := 12) rfl (by omega) ?_
        rw [q3] at hR
        exact hR
      · refine e_f (by rw [q1]; decide) ?_
        unfold J_X9_workOut_179
        refine e_asI fmA10 (j := 12) rfl (by omega) ?_
        rw [q3] at hR
        exact hR
  obtain ⟨okz, ok⟩ := id hok
  rcases ok with ⟨hb, kt, ok⟩ | ⟨hb, ok⟩
  · rw [hb] at h
    have htim := hTn hb e r rfl
    have hQ : ∀ q, e.1.2.1 = some q → (t q = 43 ∨ t q = 45) ∧ q < 60 := fun q hq => ⟨qe.1 q hq, pz q (Or.inr (Or.inl hq))⟩
    have closing : cls t e.1 x.1 → ∃ m', F_X9_workOut N 322 (nI k) (S m) = some ((), S m') ∧ match evt t x (e :: r) with
        | .inl f => FltM m m' f
        | .inr E' => Fr mwP m m' ∧ MS m' T t (bhn x) E' := by
      intro hcl
      obtain ⟨⟨g2, r2, hr2⟩, hc, o, ho⟩ := cls_r hG.1 hcl
      match r, hr2, h, hG, hE, hrl with
      | e2 :: r', hr2, h, hG, hE, hrl =>
        have hrl : r'.length + 1 < 4 := hrl
        have ge2 := hE e2 (List.mem_cons_of_mem _ List.mem_cons_self)
        obtain ⟨m', d1, d2⟩ := m_close hN h (by omega) ge ge2 hQ ho ⟨qe.2 o ho, pz o (Or.inl ho)⟩ (fun q hq => by
          have := hG.2.2.1 e2.1 (List.mem_cons_of_mem _ List.mem_cons_self) q (Or.inr (Or.inr hq))
          omega)
        have hev : evt t x (e :: e2 :: r') = bnS (epV t e) (fun w => bnS (brV t e.1 w) (fun w' => bnS (cmV w' e2) (fun e' => .inr (e' :: r')))) := (if_neg (by omega)).trans ((if_neg (by omega)).trans ((if_neg (by omega)).trans (if_pos hc)))
        have hbn : bhn x = true := decide_eq_true (by omega)
        rw [hev, hbn]
        refine ⟨m', start _ ?_, d2⟩
        rcases hc with hc | hc
        · refine e_f (ne 41 40 (by omega) (by omega) (mcn 41 (by omega) hc) (by omega)) ?_
          refine e_t (eqm 41 (mcn 41 (by omega) hc)) ?_
          refine e_bnd (d1) ?_
          rfl
        · have hm := mcn 125 (by omega) hc
          refine e_f (ne 125 40 (by omega) (by omega) hm (by omega)) ?_
          refine e_f (ne 125 41 (by omega) (by omega) hm (by omega)) ?_
          refine e_f (ne 125 42 (by omega) (by omega) hm (by omega)) ?_
          refine e_f (ne 125 49 (by omega) (by omega) hm (by omega)) ?_
          refine e_f (ne 125 60 (by omega) (by omega) hm (by omega)) ?_
          refine e_f (ne 125 91 (by omega) (by omega) hm (by omega)) ?_
          refine e_f (ne 125 123 (by omega) (by omega) hm (by omega)) ?_
          refine e_t (eqm 125 hm) ?_
          refine e_bnd (d1) ?_
          rfl
    rcases ok with hcl | hop
    · exact closing hcl
    · by_cases y : x.1 = 42
      · have hev : evt t x (e :: r) = .inr (((e.1.1, e.1.2.1, some x.2.1), e.2.1, e.2.2) :: r) := (if_neg (by omega)).trans (if_pos y)
        have hbn : bhn x = false := decide_eq_false (by omega)
        have hm := mcn 42 (by omega) y
        have f1 : Fr mwP m (wI m 352 r.length (nI k)) := Fr.rf.sI (Or.inr (Or.inr (Or.inr (Or.inr (Or.inr (Or.inr (by omega)))))))
        rw [hev, hbn]
        obtain ⟨⟨hs, hp⟩, hS, hTi, hPr, hB⟩ := h.2.2.2.1
        refine ⟨wI m 352 r.length (nI k), start _ ?_, f1, ⟨hO.mw f1, hTl⟩, hTb.fr (fun b j hb => f1 b j (mw_tab hb)), ⟨by rw [rI_n _ _ (by omega)]; exact h37, by rw [rI_n _ _ (by omega)]; exact h43, by rw [rI_n _ _ (by omega)]; exact h25⟩, ⟨⟨by rw [rI_n _ _ (by omega)]; exact hs, ?_⟩, fun q hq => ⟨(hS q hq).1.same (rI_n _ _ (by omega)), (hS q hq).2.wi (by omega)⟩, fun q hq => ?_, fun _ => (hPr (Or.inl rfl)).wi (by omega), fun o ho => (hB o ho).same (rI_n _ _ (by omega))⟩, hL.same (fun b l b1 b2' b3 => rI_n _ _ (by omega)) (fun u v u1 u2 hv => hv.wi (by omega))⟩
        · refine e_f (ne 42 40 (by omega) (by omega) hm (by omega)) ?_
          refine e_f (ne 42 41 (by omega) (by omega) hm (by omega)) ?_
          refine e_t (eqm 42 hm) ?_
          refine e_ldR fmO fmR41 ?_
          refine e_ldIV fmO (h37) ?_
          refine e_asI fmA41 (j := r.length) rfl (by omega) ?_
          rfl
        · rw [rI_n _ _ (by omega), hp, b2_t (Or.inl rfl)]
          exact (b2_t (Or.inr rfl)).symm
        · cases hq
          exact ⟨k, x, hx, rI_s _ _ _ _, rfl, kt, hk60⟩
      · have y : x.1 = 43 ∨ x.1 = 45 := by
          rcases hop with q | q | q
          · exact Or.inl q
          · exact Or.inr q
          · exact absurd q y
        have hev : evt t x (e :: r) = bnS (epV t e) (fun w => .inr (((e.1.1, some x.2.1, e.1.2.2), w, e.2.2) :: r)) := (if_neg (by omega)).trans ((if_neg (by omega)).trans (if_pos y))
        have hbn : bhn x = false := decide_eq_false (by omega)
        obtain ⟨m1, p1, p2, p3, p4⟩ := m_endProd (N := N) (by omega) h hrl ge hQ
        have f1 : Fr mwP m (wI m1 351 r.length (nI k)) := p2.sI (Or.inr (Or.inr (Or.inr (Or.inr (Or.inr (Or.inr (by omega)))))))
        have go : F_X9_workOut N 322 (nI k) (S m) = some ((), S (wI m1 351 r.length (nI k))) := by
          refine start _ ?_
          have hm : mc x.1 = x.1 := by unfold mc; exact if_neg (by omega)
          refine e_f (ne x.1 40 (by omega) (by omega) hm (by omega)) ?_
          refine e_f (ne x.1 41 (by omega) (by omega) hm (by omega)) ?_
          refine e_f (ne x.1 42 (by omega) (by omega) hm (by omega)) ?_
          refine e_f (ne x.1 49 (by omega) (by omega) hm (by omega)) ?_
          refine e_f (ne x.1 60 (by omega) (by omega) hm (by omega)) ?_
          refine e_f (ne x.1 91 (by omega) (by omega) hm (by omega)) ?_
          refine e_f (ne x.1 123 (by omega) (by omega) hm (by omega)) ?_
          refine e_f (ne x.1 125 (by omega) (by omega) hm (by omega)) ?_
          refine e_bnd (p1) ?_
          refine e_ldR fmO fmR40 ?_
          refine e_ldIV fmO (p3.1) ?_
          refine e_asI fmA40 (j := r.length) rfl (by omega) ?_
          rfl
        rw [hev, hbn]
        cases hc1 : epV t e with
        | inl f =>
          rw [hc1] at p4
          exact ⟨_, go, f1, by rw [rI_n _ _ (by omega)]; exact p4.1, p4.2.1⟩
        | inr w =>
          rw [hc1] at p4
          obtain ⟨⟨q43, q25⟩, hw, ⟨q349, q350⟩, hL1⟩ := p4
          refine ⟨_, go, f1, ⟨hO.mw f1, hTl⟩, hTb.fr (fun b j hb => f1 b j (mw_tab hb)), ⟨by rw [rI_n _ _ (by omega)]; exact p3.1, by rw [rI_n _ _ (by omega)]; exact q43, by rw [rI_n _ _ (by omega)]; exact q25⟩, ⟨⟨by rw [rI_n _ _ (by omega), q349]; rfl, ?_⟩, fun q hq => ⟨?_, hw.wi (by omega)⟩, fun q hq => ?_, fun hq => ?_, fun o ho => (p3.2 o ho).same (rI_n _ _ (by omega))⟩, hL1.same (fun b l b1 b2' b3 => rI_n _ _ (by omega)) (fun u v u1 u2 hv => hv.wi (by omega))⟩
          · rw [rI_n _ _ (by omega), q350]
            exact (b2_f (fun q => q.elim (fun q => by cases q) (fun q => by
              have q : e.1.2.2.isSome = true := q
              rw [htim] at q
              cases q))).symm
          · cases hq
            exact ⟨k, x, hx, rI_s _ _ _ _, rfl, kt, hk60⟩
          · have hq : e.1.2.2 = some q := hq
            rw [htim] at hq
            cases hq
          · exact hq.elim (fun q => by cases q) (fun q => by
              have q : e.1.2.2.isSome = true := q
              rw [htim] at q
              cases q)
  · rcases ok with ⟨kt, ko, kl⟩ | ⟨k1, _⟩ | ⟨k1, _⟩ | ⟨k1, _⟩
    · -- opening
      have hlen : r.length + 1 < 4 := by
        rw [List.length_cons, erE, List.length_map] at kl
        exact kl
      have hev : evt t x (e :: r) = .inr (((some x.2.1, none, none), V0, V0) :: e :: r) := (if_neg (by omega)).trans ((if_neg (by omega)).trans ((if_neg (by omega)).trans (if_neg (by omega))))
      have hbn : bhn x = false := decide_eq_false (by omega)
      have f1 : Fr mwP m (wI (wI (wI (wI m 322 37 (nI (r.length + 1))) 349 (r.length + 1) 0) 350 (r.length + 1) 0) 353 (r.length + 1) (nI k)) := (((Fr.rf.sI (Or.inl (by omega))).sI (Or.inr (Or.inr (Or.inr (Or.inr (Or.inr (Or.inr (by omega)))))))).sI (Or.inr (Or.inr (Or.inr (Or.inr (Or.inr (Or.inr (by omega)))))))).sI (Or.inr (Or.inr (Or.inr (Or.inr (Or.inr (Or.inr (by omega)))))))
      have hbeg : F_X9_begin N 322 (nI k) (S (wI m 322 37 (nI (r.length + 1)))) = some ((), S (wI (wI (wI (wI m 322 37 (nI (r.length + 1))) 349 (r.length + 1) 0) 350 (r.length + 1) 0) 353 (r.length + 1) (nI k))) := by
        unfold F_X9_begin
        refine e_rcv fmO ?_
        refine e_ldR fmO fmR38 ?_
        refine e_ldIV fmO (rI_s _ _ _ _) ?_
        refine e_asZ fmA38 (j := r.length + 1) rfl (by omega) (Or.inl rfl) ?_
        refine e_ldR fmO fmR39 ?_
        refine e_ldIV fmO (show rI _ 322 37 = nI (r.length + 1) by rw [rI_n _ _ (by omega), rI_s]) ?_
        refine e_asZ fmA39 (j := r.length + 1) rfl (by omega) (Or.inl rfl) ?_
        refine e_ldR fmO fmR42 ?_
        refine e_ldIV fmO (show rI _ 322 37 = nI (r.length + 1) by rw [rI_n _ _ (by omega), rI_n _ _ (by omega), rI_s]) ?_
        refine e_asI fmA42 (j := r.length + 1) rfl (by omega) ?_
        rfl
      rw [hb] at hLv
      rw [hev, hbn]
      refine ⟨_, start _ ?_, f1, ⟨hO.mw f1, hTl⟩, hTb.fr (fun b j hb => f1 b j (mw_tab hb)), ⟨?_, ?_, ?_⟩, ⟨⟨?_, ?_⟩, fun q hq => (by cases hq), fun q hq => (by cases hq), fun hq => hq.elim (fun q => by cases q) (fun q => by cases q), fun o ho => ?_⟩, hLv.same (fun b l b1 b2' b3 => ?_) (fun u v u1 u2 hv => (((hv.wi (by omega)).wi (by omega)).wi (by omega)).wi (by omega))⟩
      · rcases ko with ko | ko
        · refine e_t (eqm 40 (mcn 40 (by omega) ko)) ?_
          refine e_ldIV fmO (h37) ?_
          rw [addR]
          refine e_stI fmO ?_
          refine e_bnd (hbeg) ?_
          rfl
        · have hm := mcn 123 (by omega) ko
          refine e_f (ne 123 40 (by omega) (by omega) hm (by omega)) ?_
          refine e_f (ne 123 41 (by omega) (by omega) hm (by omega)) ?_
          refine e_f (ne 123 42 (by omega) (by omega) hm (by omega)) ?_
          refine e_f (ne 123 49 (by omega) (by omega) hm (by omega)) ?_
          refine e_f (ne 123 60 (by omega) (by omega) hm (by omega)) ?_
          refine e_f (ne 123 91 (by omega) (by omega) hm (by omega)) ?_
          refine e_t (eqm 123 hm) ?_
          refine e_ldIV fmO (h37) ?_
          rw [addR]
          refine e_stI fmO ?_
          refine e_bnd (hbeg) ?_
          rfl
      · rw [rI_n _ _ (by omega), rI_n _ _ (by omega), rI_n _ _ (by omega), rI_s]
        rfl
      · rw [rI_n _ _ (by omega), rI_n _ _ (by omega), rI_n _ _ (by omega), rI_n _ _ (by omega)]
        exact h43
      · rw [rI_n _ _ (by omega), rI_n _ _ (by omega), rI_n _ _ (by omega), rI_n _ _ (by omega)]
        exact h25
      · show rI _ 349 (r.length + 1) = _
        rw [rI_n _ _ (by omega), rI_n _ _ (by omega), rI_s]
        rfl
      · show rI _ 350 (r.length + 1) = _
        rw [rI_n _ _ (by omega), rI_s]
        exact (b2_f (fun q => q.elim (fun q => by cases q) (fun q => by cases q))).symm
      · cases ho
        exact ⟨k, x, hx, rI_s _ _ _ _, rfl, kt, hk60⟩
      · have b3 : l < r.length + 1 := b3
        rw [rI_n _ _ (by omega), rI_n _ _ (by omega), rI_n _ _ (by omega), rI_n _ _ (by omega)]
    · -- a flag
      have hval := ok_val (hb ▸ hok) hm (Or.inr (Or.inl k1))
      have hj : ∃ j, j < 29 ∧ x.2.2.1 = nI j := by
        rcases hval with ⟨_, j, hj, e⟩ | ⟨q, _⟩ | ⟨q, _⟩
        · exact ⟨j, by omega, e⟩
        · omega
        · omega
      obtain ⟨m1, n1, n2, n3⟩ := net 0 0 (Or.inl ⟨k1, rfl, rfl⟩) hj
      obtain ⟨m', d1, d2⟩ := comes_ m1 n1 n2 hb (valV_gd hval) (Or.inr (Or.inl k1))
      refine ⟨m', start _ ?_, d2⟩
      have hm := mcn 91 (by omega) k1
      refine e_f (ne 91 40 (by omega) (by omega) hm (by omega)) ?_
      refine e_f (ne 91 41 (by omega) (by omega) hm (by omega)) ?_
      refine e_f (ne 91 42 (by omega) (by omega) hm (by omega)) ?_
      refine e_f (ne 91 49 (by omega) (by omega) hm (by omega)) ?_
      refine e_f (ne 91 60 (by omega) (by omega) hm (by omega)) ?_
      refine e_t (eqm 91 hm) ?_
      exact n3 _ (e_bnd d1 rfl)
    · -- a rooted one
      have hval := ok_val (hb ▸ hok) hm (Or.inr (Or.inr k1))
      have hj : ∃ j, j < 29 ∧ x.2.2.1 = nI j := by
        rcases hval with ⟨q, _⟩ | ⟨_, j, hj, e⟩ | ⟨q, _⟩
        · omega
        · exact ⟨j, by omega, e⟩
        · omega
      obtain ⟨m1, n1, n2, n3⟩ := net 1 1 (Or.inr ⟨k1, rfl, rfl⟩) hj
      obtain ⟨m', d1, d2⟩ := comes_ m1 n1 n2 hb (valV_gd hval) (Or.inr (Or.inr k1))
      refine ⟨m', start _ ?_, d2⟩
      have hm := mcn 60 (by omega) k1
      refine e_f (ne 60 40 (by omega) (by omega) hm (by omega)) ?_
      refine e_f (ne 60 41 (by omega) (by omega) hm (by omega)) ?_
      refine e_f (ne 60 42 (by omega) (by omega) hm (by omega)) ?_
      refine e_f (ne 60 49 (by omega) (by omega) hm (by omega)) ?_
      refine e_t (eqm 60 hm) ?_
      exact n3 _ (e_bnd d1 rfl)
    · -- a fraction
      have hval := ok_val (hb ▸ hok) hm (Or.inl k1)
      have gv2 := valV_gd hval
      obtain ⟨u, v, hu, hv0, hv, e⟩ : ∃ u v, u < 1000 ∧ 0 < v ∧ v < 1000 ∧ x.2.2 = (nI u, nI v) := by
        rcases hval with ⟨q, _⟩ | ⟨q, _⟩ | ⟨_, q⟩
        · omega
        · omega
        · exact q
      have y3 : x.2.2.1 = nI u := by rw [e]
      have y4 : x.2.2.2 = nI v := by rw [e]
      obtain ⟨m1, e1, e2, e3, e4⟩ := m_empty (N := N) (m := m) (r := 12) (by omega) (by omega)
      have e1 : F_X9_empty N 322 12 (S m) = some ((), S m1) := e1
      have hlay := m_lay (N := N) (m := m1) (a := lN u) (b := lN v) (by omega) (lN_pos hv0 (by omega))
      have hvv : valV x = (2, oneR 0 (red (lN u) (lN v))) := by
        unfold valV
        rw [if_pos k1, y3, y4, nI_l' (by omega), nI_l' (by omega)]
      have w23 : rJ (wA m1 (red (lN u) (lN v))) 322 23 = (red (lN u) (lN v)).1 := by
        show rJ (wJ (wJ m1 322 23 _) 322 24 _) 322 23 = _
        rw [rJ_n _ _ (by omega), rJ_s]
      have w24 : rJ (wA m1 (red (lN u) (lN v))) 322 24 = (red (lN u) (lN v)).2 := by
        show rJ (wJ (wJ m1 322 23 _) 322 24 _) 322 24 = _
        rw [rJ_s]
      have fI : ∀ b j, rI (wA m1 (red (lN u) (lN v))) b j = rI m1 b j := fun b j => rfl
      have fJ : ∀ b j, b ≠ 322 → rJ (wA m1 (red (lN u) (lN v))) b j = rJ m1 b j := fun b j hb => by
        show rJ (wJ (wJ m1 322 23 _) 322 24 _) b j = _
        rw [rJ_n _ _ (by omega), rJ_n _ _ (by omega)]
      obtain ⟨m', d1, d2⟩ := comes_ (wJ (wJ (wA m1 (red (lN u) (lN v))) 332 348 (red (lN u) (lN v)).1) 333 348 (red (lN u) (lN v)).2) (fun b i hb => by
        unfold nmP rwP at hb
        refine ⟨?_, ?_⟩
        · rw [rI_wJ, rI_wJ, fI, e2, if_neg (by omega)]
        · rw [rJ_n _ _ (by omega), rJ_n _ _ (by omega)]
          show rJ (wJ (wJ m1 322 23 _) 322 24 _) b i = _
          rw [rJ_n _ _ (by omega), rJ_n _ _ (by omega), e4 _ _ (by omega)]) (by
        rw [hvv]
        refine ⟨fun i hi => ?_, ?_⟩
        · show (rJ _ 332 (29 * 12 + i), rJ _ 333 (29 * 12 + i)) = oneR 0 (red (lN u) (lN v)) i
          unfold oneR
          by_cases y : i = 0
          · subst y
            rw [if_pos rfl, rJ_n (a := 333) (a' := 332) _ _ (by omega), show 29 * 12 + 0 = 348 from rfl, rJ_s, rJ_s]
          · rw [if_neg y, rJ_n _ _ (by omega), rJ_n _ _ (by omega), rJ_n _ _ (by omega), rJ_n _ _ (by omega), fJ _ _ (by omega), fJ _ _ (by omega), (e3 i hi).1, (e3 i hi).2]
        · rw [rI_wJ, rI_wJ, fI, e2, if_pos ⟨rfl, rfl⟩]
          rfl) hb gv2 (Or.inl k1)
      refine ⟨m', start _ ?_, d2⟩
      have hm : mc x.1 = 49 := by unfold mc; exact if_pos k1
      refine e_f (ne 49 40 (by omega) (by omega) hm (by omega)) ?_
      refine e_f (ne 49 41 (by omega) (by omega) hm (by omega)) ?_
      refine e_f (ne 49 42 (by omega) (by omega) hm (by omega)) ?_
      refine e_t (eqm 49 hm) ?_
      refine e_bnd (e1) ?_
      refine e_ldR fmO fmR33 ?_
      refine e_alIV fmA33 (j := k) rfl (by omega) (show rI m1 346 k = nI u by rw [e2, if_neg (by omega), x3]; exact y3) ?_
      refine e_ldR fmO fmR34 ?_
      refine e_alIV fmA34 (j := k) rfl (by omega) (show rI m1 347 k = nI v by rw [e2, if_neg (by omega), x4]; exact y4) ?_
      rw [nI_l' (by omega), nI_l' (by omega)]
      refine e_bnd (hlay) ?_
      refine e_ldR fmO fmR11 ?_
      refine e_ldJV fmO (w23) ?_
      refine e_asJ fmA11 (j := 348) rfl (by omega) ?_
      refine e_ldR fmO fmR12 ?_
      refine e_ldJV fmO (show rJ _ 322 24 = (red (lN u) (lN v)).2 by rw [rJ_n _ _ (by omega)]; exact w24) ?_
      refine e_asJ fmA12 (j := 348) rfl (by omega) ?_
      exact e_bnd d1 rfl
end MTK
