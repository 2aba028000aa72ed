section MCL
variable {N z : Nat} {t : Nat → Nat} {m m' : vM} {s : vS} {T : List Tok}
/-- behind the end of a product, whatever came of it -/
def EpC (m : vM) (T : List Tok) (t : Nat → Nat) (e : LV) (l : Nat) : Prop := rI m 322 37 = nI l ∧ ∀ o, e.1.1 = some o → PtAt T t m 353 l o
theorem m_endProd {e : LV} {r : List LV} (hN : 100 ≤ N) (h : MS m T t true (e :: r)) (hr : r.length < 4) (ge : Gd e.2.1 ∧ Gd e.2.2) (hQ : ∀ q, e.1.2.1 = some q → (t q = 43 ∨ t q = 45) ∧ q < 60) : ∃ m', F_X9_endProduct N 322 (S m) = some ((), S m') ∧ Fr mwP m m' ∧ EpC m' T t e r.length ∧ match epV t e with
    | .inl f => rI m' 322 43 = flv f.1 f.2 ∧ ¬ flv f.1 f.2 = 0 ∧ (rI m' 322 25 = 1 ∨ (rI m' 322 25 = 0 ∧ ∃ v, Gd v ∧ RowV m' (4 + 2 * r.length) v))
    | .inr w => (rI m' 322 43 = 0 ∧ rI m' 322 25 = 0) ∧ RowV m' (4 + 2 * r.length) w ∧ (rI m' 349 r.length = 1 ∧ rI m' 350 r.length = 0) ∧ LvM T t m' false r := by
  obtain ⟨⟨hO, hTl⟩, hTb, ⟨h37, h43, h25⟩, ⟨⟨hs, hp⟩, hS, hTi, hPr, hB⟩, hL⟩ := id h
  have h37 : rI m 322 37 = nI r.length := h37
  have hrow := m_sumRow (N := N) h37
  have hprod := hPr (Or.inl rfl)
  have i5 : 4 + 2 * r.length + (OfNat.ofNat 1 : Nat) = 5 + 2 * r.length := by show 4 + 2 * r.length + 1 = _; omega
  cases hg : e.1.2.1 with
  | none =>
    have h1 : epV t e = .inr e.2.2 := by unfold epV; rw [hg]
    rw [h1]
    rw [hg] at hs
    have hs0 : rI m 349 r.length = 0 := hs.trans (b2_f (fun q => by cases q))
    obtain ⟨m1, c1, c2, c3, c4⟩ := m_copyG (N := N) (m := m) (p := 5 + 2 * r.length) (q := 4 + 2 * r.length) (by omega) (by omega) hN
    have f1 : Fr mwP m (wI (wI m1 349 r.length 1) 350 r.length 0) := ((c2.mo (fun _ _ => rw_mw (by omega))).sI (Or.inr (Or.inr (Or.inr (Or.inr (Or.inr (Or.inr (by omega)))))))).sI (Or.inr (Or.inr (Or.inr (Or.inr (Or.inr (Or.inr (by omega)))))))
    have k322 : ∀ j, rI (wI (wI m1 349 r.length 1) 350 r.length 0) 322 j = rI m 322 j := fun j => by rw [rI_n _ _ (by omega), rI_n _ _ (by omega), c2.i (by unfold rwP; omega)]
    refine ⟨_, ?_, f1, ⟨by rw [k322]; exact h37, fun o ho => (hB o ho).same ?_⟩, ⟨by rw [k322]; exact h43, by rw [k322]; exact h25⟩, ((c4 _ hprod).wi (by omega)).wi (by omega), ⟨?_, rI_s _ _ _ _⟩, hL.same (fun b l b1 b2' b3 => ?_) (fun u v u1 u2 hv => ((hv.rw c2 (by omega)).wi (by omega)).wi (by omega))⟩
    · unfold F_X9_endProduct
      refine e_rcv fmO ?_
      refine e_bnd (hrow) ?_
      refine e_ldR fmO fmR38 ?_
      refine e_ldIV fmO (h37) ?_
      refine e_alZV fmA38 rfl (by omega) hs0 ?_
      refine e_t (rfl) ?_
      rw [addR, i5]
      refine e_bnd (c1) ?_
      refine e_ldR fmO fmR38 ?_
      refine e_ldIV fmO (show rI _ 322 37 = nI r.length by rw [c2.i (by unfold rwP; omega)]; exact h37) ?_
      refine e_asZ fmA38 rfl (by omega) (Or.inr rfl) ?_
      refine e_ldR fmO fmR39 ?_
      refine e_ldIV fmO (show rI _ 322 37 = nI r.length by rw [rI_n _ _ (by omega), c2.i (by unfold rwP; omega)]; exact h37) ?_
      refine e_asZ fmA39 rfl (by omega) (Or.inl rfl) ?_
      rfl
    · rw [rI_n _ _ (by omega), rI_n _ _ (by omega), c2.i (by unfold rwP; omega)]
    · rw [rI_n _ _ (by omega), rI_s]
    · rw [rI_n _ _ (by omega), rI_n _ _ (by omega), c2.i (by unfold rwP; omega)]
  | some q =>
    obtain ⟨hq, hq60⟩ := hQ q hg
    have h1 : epV t e = (match cmb (if t q = 45 then 1 else 0) e.2.1 e.2.2 with
      | .inl f => .inl (f, q)
      | .inr v => .inr v) := by
      unfold epV
      rw [hg]
      rfl
    rw [h1]
    have hs1 : rI m 349 r.length = 1 := hs.trans (b2_t (by rw [hg]; rfl))
    obtain ⟨⟨k, x, k1, k2, k3, k4, k5⟩, hsum⟩ := hS q hg
    have hmc : mc x.1 = t q := by rw [k4]; unfold mc; exact if_neg (by omega)
    have htok : rI m 344 k = nI (t q) := by rw [(hO.2 k x k1).1, hmc]
    have hun := m_areUnlike (N := N) (m := m) (u := 4 + 2 * r.length) (w := 5 + 2 * r.length) (by omega) (by omega) ge.1.1 ge.2.1 hsum.2 hprod.2
    have start : ∀ R, bnd (F_X9_areUnlike N 322 (nI (4 + 2 * r.length)) (nI (5 + 2 * r.length)) (S m)) (fun v8 s => if v8 = (0) then (ldR s 322 9 31 (fun r9 => alI s r9 (nI k) (fun v10 => if v10 = (45) then (J_X9_endProduct_99 N 322 (nI (4 + 2 * r.length)) (nI k) 322 (nI (4 + 2 * r.length)) (nI (5 + 2 * r.length)) (-1 : Int64) s) else (J_X9_endProduct_99 N 322 (nI (4 + 2 * r.length)) (nI k) 322 (nI (4 + 2 * r.length)) (nI (5 + 2 * r.length)) (1 : Int64) s)))) else (bnd (F_X9_blame N 322 (3) (nI k) s) (fun v11 s => J_X9_endProduct_111 N 322 (nI k) s))) = R → F_X9_endProduct N 322 (S m) = R := by
      intro R hR
      unfold F_X9_endProduct
      refine e_rcv fmO ?_
      refine e_bnd (hrow) ?_
      refine e_ldR fmO fmR38 ?_
      refine e_ldIV fmO (h37) ?_
      refine e_alZV fmA38 rfl (by omega) hs1 ?_
      refine e_f (by decide) ?_
      refine e_ldR fmO fmR40 ?_
      refine e_ldIV fmO (h37) ?_
      refine e_alIV fmA40 rfl (by omega) k2 ?_
      rw [addR, i5]
      exact hR
    have j124 : ∀ m1 : vM, rI m1 322 37 = nI r.length → J_X9_endProduct_124 N 322 (S m1) = some ((), S (wI m1 350 r.length 0)) := by
      intro m1 e37
      unfold J_X9_endProduct_124
      refine e_ldR fmO fmR39 ?_
      refine e_ldIV fmO (e37) ?_
      refine e_asZ fmA39 rfl (by omega) (Or.inl rfl) ?_
      rfl
    have f350 : ∀ m1 : vM, Fr mwP m m1 → Fr mwP m (wI m1 350 r.length 0) := fun m1 f => f.sI (Or.inr (Or.inr (Or.inr (Or.inr (Or.inr (Or.inr (by omega)))))))
    unfold cmb
    by_cases un : e.2.1.1 + e.2.2.1 = 1
    · rw [if_pos un]
      have hb := m_blame (N := N) (f := 3) hO k1 k5 h43
      rw [k3] at hb
      have fr : Fr mwP m (wI m 322 43 (flv 3 q)) := Fr.rf.sI (Or.inl (by omega))
      refine ⟨wI (wI m 322 43 (flv 3 q)) 350 r.length 0, start _ ?_, f350 _ fr, ⟨by rw [rI_n _ _ (by omega), rI_n _ _ (by omega)]; exact h37, fun o ho => (hB o ho).same ?_⟩, ?_, flv_nz 3 (by omega) (by omega) q hq60, Or.inr ⟨?_, e.2.1, ge.1, (hsum.wi (by omega)).wi (by omega)⟩⟩
      · refine e_bnd (hun) ?_
        refine e_f (b2_nz un) ?_
        refine e_bnd (hb) ?_
        unfold J_X9_endProduct_111
        refine e_ldIV fmO (show rI _ 322 25 = 0 by rw [rI_n _ _ (by omega)]; exact h25) ?_
        refine e_t (rfl) ?_
        exact j124 _ (by rw [rI_n _ _ (by omega)]; exact h37)
      · rw [rI_n _ _ (by omega), rI_n _ _ (by omega)]
      · rw [rI_n _ _ (by omega), rI_s]
      · rw [rI_n _ _ (by omega), rI_n _ _ (by omega)]; exact h25
    rw [if_neg un]
    obtain ⟨io, ip⟩ := cmb_in ge.1 ge.2 un
    obtain ⟨wh, hwh⟩ : ∃ wh, wh = (if t q = 45 then 1 else 0) := ⟨_, rfl⟩
    rw [← hwh]
    have hw2 : wh < 2 ∧ (wh = 1 ↔ t q = 45) := by
      rw [hwh]
      by_cases y : t q = 45
      · rw [if_pos y]; exact ⟨by omega, fun _ => y, fun _ => rfl⟩
      · rw [if_neg y]; exact ⟨by omega, fun w => by omega, fun w => absurd w y⟩
    have tg : ¬ tooX wh (qmn e.2.1 e.2.2) e.2.1.2 e.2.2.2 = true := fun y => by
      have := (of_decide_eq_true y).1
      omega
    rw [if_neg tg]
    obtain ⟨m1, x1, x2, x3⟩ := m_sumX (N := N) (m := m) (q := qmn e.2.1 e.2.2) (u := 4 + 2 * r.length) (w := 5 + 2 * r.length) (wh := wh) (K := fun _ => none) hN (by omega) (by omega) (by omega) ge.1.1 ge.2.1 qmn_iff ge.1.2.1 ge.2.2.1 io ip hTb h25 hsum.1 hprod.1 hsum.2 hprod.2 rfl
    rw [if_neg (show ¬ wh = 2 by omega)] at x1
    obtain ⟨m2, c1, c2, c3, c4⟩ := m_copyG (N := N) (m := m1) (p := 13) (q := 4 + 2 * r.length) (by omega) (by omega) hN
    have f2 : Fr mwP m m2 := (x2.mo (fun _ _ => mo_mw)).tr (c2.mo (fun _ _ => rw_mw (by omega)))
    have h43' : rI m2 322 43 = 0 := by rw [c2.i (by unfold rwP; omega), x2.i (by unfold moQ moP; omega)]; exact h43
    have h37' : rI m2 322 37 = nI r.length := by rw [c2.i (by unfold rwP; omega), x2.i (by unfold moQ moP; omega)]; exact h37
    have k350 : ∀ b j, 349 ≤ b → b ≤ 353 → rI m2 b j = rI m b j := fun b j b1 b2' => by rw [c2.i (by unfold rwP; omega), x2.i (by unfold moQ moP; omega)]
    have goM : ∀ R, J_X9_endProduct_111 N 322 (nI k) (S m2) = R → F_X9_endProduct N 322 (S m) = R := by
      intro R hR
      refine start R ?_
      refine e_bnd (hun) ?_
      refine e_t (b2_f un) ?_
      refine e_ldR fmO fmR31 ?_
      refine e_alIV fmA31 rfl (by omega) (htok) ?_
      by_cases y : t q = 45
      · refine e_t (by rw [y]; rfl) ?_
        rw [if_pos (hw2.2.mpr y)] at x1
        unfold J_X9_endProduct_99
        refine e_bnd (x1) ?_
        refine e_bnd (c1) ?_
        exact hR
      · refine e_f (fun w => y ((eqR (by decide) (by omega)).mp w)) ?_
        rw [if_neg (fun w => y (hw2.2.mp w))] at x1
        unfold J_X9_endProduct_99
        refine e_bnd (x1) ?_
        refine e_bnd (c1) ?_
        exact hR
    cases hsx : sumX wh (qmn e.2.1 e.2.2) e.2.1.2 e.2.2.2 with
    | none =>
      rw [hsx] at x3
      have hb := m_blame (N := N) (f := 5) (hO.mw f2) k1 k5 h43'
      rw [k3] at hb
      have fr : Fr mwP m (wI m2 322 43 (flv 5 q)) := f2.sI (Or.inl (by omega))
      have h25' : rI m2 322 25 = 1 := by rw [c2.i (by unfold rwP; omega)]; exact x3
      refine ⟨wI (wI m2 322 43 (flv 5 q)) 350 r.length 0, goM _ ?_, f350 _ fr, ⟨by rw [rI_n _ _ (by omega), rI_n _ _ (by omega)]; exact h37', fun o ho => (hB o ho).same ?_⟩, ?_, flv_nz 5 (by omega) (by omega) q hq60, Or.inl ?_⟩
      · unfold J_X9_endProduct_111
        refine e_ldIV fmO (h25') ?_
        refine e_f (by decide) ?_
        refine e_bnd (hb) ?_
        exact j124 _ (by rw [rI_n _ _ (by omega)]; exact h37')
      · rw [rI_n _ _ (by omega), rI_n _ _ (by omega)]
        exact k350 _ _ (by omega) (by omega)
      · rw [rI_n _ _ (by omega), rI_s]
      · rw [rI_n _ _ (by omega), rI_n _ _ (by omega)]; exact h25'
    | some row =>
      rw [hsx] at x3
      have hnew := c4 (kdE row (mn e.2.1.1 e.2.2.1), row) ⟨x3.2.1, x3.2.2⟩
      have keep : ∀ u v, 4 ≤ u → u < 12 → u ≠ 4 + 2 * r.length → RowV m u v → RowV m2 u v := fun u v u1 u2 u3 hv => (hv.mo x2 (by omega)).rw c2 u3
      have h25' : rI m2 322 25 = 0 := by rw [c2.i (by unfold rwP; omega)]; exact x3.1
      refine ⟨wI m2 350 r.length 0, goM _ ?_, f350 _ f2, ⟨by rw [rI_n _ _ (by omega)]; exact h37', fun o ho => (hB o ho).same ?_⟩, ⟨by rw [rI_n _ _ (by omega)]; exact h43', by rw [rI_n _ _ (by omega)]; exact h25'⟩, hnew.wi (by omega), ⟨?_, rI_s _ _ _ _⟩, hL.same (fun b l b1 b2' b3 => ?_) (fun u v u1 u2 hv => (keep u v u1 (by omega) (by omega) hv).wi (by omega))⟩
      · unfold J_X9_endProduct_111
        refine e_ldIV fmO (h25') ?_
        refine e_t (rfl) ?_
        exact j124 _ h37'
      · rw [rI_n _ _ (by omega)]
        exact k350 _ _ (by omega) (by omega)
      · rw [rI_n _ _ (by omega), k350 _ _ (by omega) (by omega)]
        exact hs1
      · rw [rI_n _ _ (by omega)]
        exact k350 _ _ b1 b2'
/-- an average where something was too large: nothing more is done -/
theorem m_avg_over_l (ho : rI m 322 25 = 1) : ∀ (d i n : Nat), i + d = 29 → d < n → H_X9_averageTo_7 N n 322 (nI 12) (nI 13) (nI i) (S m) = (ldR (S m) 322 9 10 (fun r2 => asI (S m) r2 (nI 13) (0) (fun s => bnd (F_X9_settle N 322 (nI 13) s) (fun v3 s => some ((), s)))))
  | _, _, 0, _, h => by omega
  | 0, i, n + 1, hi, _ => by
    refine Eq.trans u_H_X9_averageTo_7 ?_
    exact e_t (by rw [leL (by decide) (by omega)]; show 29 ≤ i; omega) rfl
  | d + 1, i, n + 1, hi, hd => by
    have ih := m_avg_over_l ho d (i + 1) n (by omega) (by omega)
    have j93 : J_X9_averageTo_93 N (H_X9_averageTo_7 N n) 322 (nI 12) (nI 13) (nI i) (S m) = (ldR (S m) 322 9 10 (fun r2 => asI (S m) r2 (nI 13) (0) (fun s => bnd (F_X9_settle N 322 (nI 13) s) (fun v3 s => some ((), s))))) := by
      unfold J_X9_averageTo_93
      refine e_nm ?_
      rw [addR]
      exact ih
    refine Eq.trans u_H_X9_averageTo_7 ?_
    refine e_f (by rw [leL (by decide) (by omega)]; show ¬ 29 ≤ i; omega) ?_
    refine e_bnd (m_isTerm (by omega) (by omega)) ?_
    refine e_i (fun _ => j93) (fun _ => ?_)
    refine e_ldIV fmO (ho) ?_
    refine e_f (by decide) ?_
    exact j93
theorem m_avg_over (hN : 100 ≤ N) (ho : rI m 322 25 = 1) : ∃ m', F_X9_averageTo N 322 12 13 (S m) = some ((), S m') ∧ Fr (moQ 13) m m' := by
  obtain ⟨m1, h1, h2, h3, h4⟩ := m_empty (N := N) (m := m) (r := 13) (by omega) hN
  have f1 : Fr (moQ 13) m m1 := fun a j ha => ⟨by unfold moQ at ha; rw [h2, if_neg (by omega)], by unfold moQ moP at ha; exact h4 a j (by omega)⟩
  have ho1 : rI m1 322 25 = 1 := by rw [h2, if_neg (by omega)]; exact ho
  have hl := m_avg_over_l (N := N) ho1 29 0 N rfl (by omega)
  obtain ⟨x, hs⟩ : ∃ x, F_X9_settle N 322 (nI 13) (S (wI m1 331 13 0)) = some ((), S (wI (wI m1 331 13 0) 331 13 x)) := ⟨_, m_settle (N := N) (m := wI m1 331 13 0) (r := 13) (by omega) hN⟩
  refine ⟨wI (wI m1 331 13 0) 331 13 x, ?_, (f1.sI (Or.inr ⟨rfl, rfl⟩)).sI (Or.inr ⟨rfl, rfl⟩)⟩
  · unfold F_X9_averageTo
    refine e_rcv fmO ?_
    refine e_bnd (h1) ?_
    refine hl.trans ?_
    refine e_ldR fmO fmR10 ?_
    refine e_asI fmA10 rfl (by omega) ?_
    refine e_bnd (hs) ?_
    rfl
def clR (N : Nat) (s : vS) : Option (Unit × vS) := bnd (F_X9_sumRow N 322 s) (fun v2 s => bnd (F_X9_copy N 322 v2 (12) s) (fun _ s => ldR s 322 9 42 (fun r4 => ldI s 322 9 37 (fun v5 => alI s r4 v5 (fun v6 => ldR s 322 9 31 (fun r7 => alI s r7 v6 (fun v8 => if v8 = (123) then (ldR s 322 9 10 (fun r9 => alI s r9 (12) (fun v10 => if v10 = (0) then (bnd (F_X9_blame N 322 (3) v6 s) (fun _ s => J_X9_close_105 N 322 s)) else (J_X9_close_54 N 322 v6 s)))) else (J_X9_close_54 N 322 v6 s))))))))
theorem m_105f {l : Nat} {v : Int32} (h37 : rI m 322 37 = nI (l + 1)) (h43 : rI m 322 43 = v) (hv : ¬ v = 0) : J_X9_close_105 N 322 (S m) = some ((), S (wI m 322 37 (nI l))) := by
  unfold J_X9_close_105
  refine e_ldIV fmO (h37) ?_
  rw [subR (by show 1 ≤ l + 1; omega)]
  refine e_stI fmO ?_
  refine e_ldIV fmO (show rI _ 322 43 = v by rw [rI_n _ _ (by omega)]; exact h43) ?_
  refine e_f (hv) ?_
  rfl
/-- the rest of a closing sign once there is a fault -/
theorem m_close_f {e : LV} {l : Nat} {v : Int32} {o : Nat} (hN : 1000 ≤ N) (hl : l < 3) (hO : TokM m T) (hTb : Tab m) (hC : EpC m T t e (l + 1)) (ho : e.1.1 = some o) (h43 : rI m 322 43 = v) (hv : ¬ v = 0) (hov : rI m 322 25 = 1 ∨ (rI m 322 25 = 0 ∧ ∃ v, Gd v ∧ RowV m (4 + 2 * (l + 1)) v)) : ∃ m', clR N (S m) = some ((), S m') ∧ Fr mwP m m' ∧ rI m' 322 43 = v := by
  obtain ⟨h37, hB⟩ := hC
  obtain ⟨k, x, k1, k2, k3, k4, k5⟩ := hB o ho
  obtain ⟨m1, c1, c2, c3, c4⟩ := m_copyG (N := N) (m := m) (p := 4 + 2 * (l + 1)) (q := 12) (by omega) (by omega) (by omega)
  have f1 : Fr mwP m m1 := c2.mo (fun _ _ => rw_mw (by omega))
  have hO1 := hO.mw f1
  have hTb1 : Tab m1 := hTb.fr (fun b j hb => f1 b j (mw_tab hb))
  have h37' : rI m1 322 37 = nI (l + 1) := by rw [c2.i (by unfold rwP; omega)]; exact h37
  have h43' : rI m1 322 43 = v := by rw [c2.i (by unfold rwP; omega)]; exact h43
  have k2' : rI m1 353 (l + 1) = nI k := by rw [c2.i (by unfold rwP; omega)]; exact k2
  have htok := (hO1.2 k x k1).1
  have fin : ∀ m2 : vM, Fr mwP m m2 → rI m2 322 37 = nI (l + 1) → rI m2 322 43 = v → ∃ m', J_X9_close_105 N 322 (S m2) = some ((), S m') ∧ Fr mwP m m' ∧ rI m' 322 43 = v := fun m2 g1 g2 g3 => ⟨_, m_105f g2 g3 hv, g1.sI (Or.inl (by omega)), by rw [rI_n _ _ (by omega)]; exact g3⟩
  have j54 : ∃ m', J_X9_close_54 N 322 (nI k) (S m1) = some ((), S m') ∧ Fr mwP m m' ∧ rI m' 322 43 = v := by
    by_cases w : nI (mc x.1) = 123
    · by_cases w1 : rI m1 331 12 = 1
      · have hav : ∃ m2, F_X9_averageTo N 322 12 13 (S m1) = some ((), S m2) ∧ Fr (moQ 13) m1 m2 := by
          rcases hov with y | ⟨y, u, gu, hu⟩
          · exact m_avg_over (by omega) (by rw [c2.i (by unfold rwP; omega)]; exact y)
          · obtain ⟨m2, d1, d2, -⟩ := m_averageTo (N := N) (m := m1) (t := 13) (u := 12) hN (by omega) (by omega) (by omega) gu.2.1 hTb1 (by rw [c2.i (by unfold rwP; omega)]; exact y) (c4 u hu).1
            exact ⟨m2, d1, d2⟩
        obtain ⟨m2, d1, d2⟩ := hav
        obtain ⟨m3, b1, b2', b3, b4⟩ := m_copyG (N := N) (m := m2) (p := 13) (q := 12) (by omega) (by omega) (by omega)
        have f3 : Fr mwP m m3 := (f1.tr (d2.mo (fun _ _ => mo_mw))).tr (b2'.mo (fun _ _ => rw_mw (by omega)))
        have e37 : rI m3 322 37 = nI (l + 1) := by rw [b2'.i (by unfold rwP; omega), d2.i (by unfold moQ moP; omega)]; exact h37'
        have e43 : rI m3 322 43 = v := by rw [b2'.i (by unfold rwP; omega), d2.i (by unfold moQ moP; omega)]; exact h43'
        have hst : ∀ R, (if rI m3 322 25 = 0 then J_X9_close_105 N 322 (S m3) else bnd (F_X9_blame N 322 (5) (nI k) (S m3)) (fun v19 s => J_X9_close_105 N 322 s)) = R → J_X9_close_54 N 322 (nI k) (S m1) = R := by
          intro R hR
          unfold J_X9_close_54
          refine e_ldR fmO fmR31 ?_
          refine e_alIV fmA31 rfl (by omega) (htok) ?_
          refine e_t (w) ?_
          refine e_ldR fmO fmR10 ?_
          refine e_alIV fmA10 (j := 12) rfl (by omega) w1 ?_
          refine e_t (rfl) ?_
          refine e_bnd (d1) ?_
          refine e_bnd (b1) ?_
          refine e_ldI fmO ?_
          exact hR
        by_cases w2 : rI m3 322 25 = 0
        · obtain ⟨m', g1, g2, g3⟩ := fin m3 f3 e37 e43
          exact ⟨m', hst _ (e_t w2 g1), g2, g3⟩
        · obtain ⟨m', g1, g2, g3⟩ := fin (wI m3 322 43 v) (f3.sI (Or.inl (by omega))) (by rw [rI_n _ _ (by omega)]; exact e37) (rI_s _ _ _ _)
          refine ⟨m', hst _ (e_f w2 ?_), g2, g3⟩
          refine e_bnd (m_blame2 (f := 5) e43 hv) ?_
          exact g1
      · obtain ⟨m', g1, g2, g3⟩ := fin m1 f1 h37' h43'
        refine ⟨m', ?_, g2, g3⟩
        unfold J_X9_close_54
        refine e_ldR fmO fmR31 ?_
        refine e_alIV fmA31 rfl (by omega) (htok) ?_
        refine e_t (w) ?_
        refine e_ldR fmO fmR10 ?_
        refine e_alI fmA10 (j := 12) rfl (by omega) ?_
        refine e_f (w1) ?_
        exact g1
    · obtain ⟨m', g1, g2, g3⟩ := fin m1 f1 h37' h43'
      refine ⟨m', ?_, g2, g3⟩
      unfold J_X9_close_54
      refine e_ldR fmO fmR31 ?_
      refine e_alIV fmA31 rfl (by omega) (htok) ?_
      refine e_f (w) ?_
      exact g1
  have start : ∀ R, (if nI (mc x.1) = 123 then (if rI m1 331 12 = 0 then (bnd (F_X9_blame N 322 (3) (nI k) (S m1)) (fun _ s => J_X9_close_105 N 322 s)) else (J_X9_close_54 N 322 (nI k) (S m1))) else (J_X9_close_54 N 322 (nI k) (S m1))) = R → clR N (S m) = R := by
    intro R hR
    unfold clR
    refine e_bnd (m_sumRow h37) ?_
    refine e_bnd (c1) ?_
    refine e_ldR fmO fmR42 ?_
    refine e_ldIV fmO (h37') ?_
    refine e_alIV fmA42 (j := l + 1) rfl (by omega) k2' ?_
    refine e_ldR fmO fmR31 ?_
    refine e_alIV fmA31 rfl (by omega) (htok) ?_
    refine e_i (fun w => ?_) (fun w => ?_)
    · refine e_ldR fmO fmR10 ?_
      refine e_alI fmA10 (j := 12) rfl (by omega) ?_
      rw [if_pos w] at hR
      exact hR
    · rw [if_neg w] at hR
      exact hR
  by_cases w : nI (mc x.1) = 123
  · by_cases w0 : rI m1 331 12 = 0
    · obtain ⟨m', g1, g2, g3⟩ := fin (wI m1 322 43 v) (f1.sI (Or.inl (by omega))) (by rw [rI_n _ _ (by omega)]; exact h37') (rI_s _ _ _ _)
      refine ⟨m', start _ ?_, g2, g3⟩
      refine e_t (w) ?_
      refine e_t (w0) ?_
      refine e_bnd (m_blame2 (f := 3) h43' hv) ?_
      exact g1
    · obtain ⟨m', g1, g2, g3⟩ := j54
      exact ⟨m', start _ (e_t w (e_f w0 g1)), g2, g3⟩
  · obtain ⟨m', g1, g2, g3⟩ := j54
    exact ⟨m', start _ (e_f w g1), g2, g3⟩
end MCL
