/-! the class: lifted, averaged, values -/
section CRAISE
variable {N : Nat} {m : vM} {s : vS}
theorem sum231 : SumAt 231 := ⟨by decide +kernel, rfl, rfl, fun _ => rfl, fun _ => rfl⟩
def unitR : Row := fun k => (if k = 0 then 1 else 0, 1)
theorem unit_low : Lows unitR := fun k _ => by
  unfold unitR
  by_cases z : k = 0
  · rw [if_pos z]; exact ⟨by decide, by decide +kernel⟩
  · rw [if_neg z]; exact Low_0
theorem fmul_1 {p : Fc} (h : Low p) : fmul 1 1 p.1 p.2 = some p := by
  have h1 : fg 1 p.2 = 1 := by
    unfold fg
    rw [show ab (1 : Int64) = 1 from rfl, Nat.gcd_one_left]
    rfl
  have h2 : fg p.1 1 = 1 := by
    unfold fg
    rw [show ab (1 : Int64) = 1 from rfl, Nat.gcd_one_right]
    rfl
  have m1 : ∀ x : Int64, (1 : Int64) / 1 * (x / 1) = x := fun x => by rw [div_1, div_1, Int64.one_mul]
  have f1 : ∀ x : Int64, fits (((1 : Int64) / 1).toInt * (x / 1).toInt) := fun x => by
    rw [div_1, div_1, show (1 : Int64).toInt = 1 from rfl, Int.one_mul]
    exact fits_iff.mpr (fit0_i x)
  unfold fmul
  rw [h1, h2, if_pos ⟨f1 _, f1 _⟩, m1, m1, red_of h]
theorem mulG_lift {q : Bool} {size : Nat} {o : Row} (lo : Lows o) : mulG q (fun _ _ => size) unitR o (mny q) = liftG q size o (mny q) := by
  have ha := adr q
  unfold mulG
  rw [fld_mid (g := fstep q (fun _ _ => size) unitR o (mny q)) (M := mny q) (s := 0) (e := 1) (by omega) (by omega) (fun j x hj hn => by
    unfold fstep
    exact fld_id _ _ _ (fun i y _ _ => by
      unfold gstep
      rw [if_pos (Or.inl (by show (if j = 0 then (1 : Int64) else 0) = 0; rw [if_neg (by omega)]))]))]
  show fstep q (fun _ _ => size) unitR o (mny q) 0 (some row0) = _
  unfold fstep liftG
  refine fld_congr _ _ _ (fun g x _ hg => ?_)
  unfold gstep
  by_cases z : (o g).1 = 0
  · rw [if_pos (Or.inr z), if_pos z]
  · rw [if_neg (fun w => w.elim (by show ¬ (1 : Int64) = 0; decide) z), if_neg z]
    unfold stB
    rw [show fmul (unitR 0).1 (unitR 0).2 (o g).1 (o g).2 = some (o g) from fmul_1 (lo g (by omega))]
theorem fld_in {q : Bool} {o : Row} (io : In q o) {g : Nat → Option Row → Option Row} (h : ∀ j x, (o j).1 = 0 → g j x = x) (x : Option Row) : fld g 29 0 x = fld g (mny q) 0 x := by
  have ha := adr q
  rw [show 29 = mny q + (29 - mny q) by omega, fld_split]
  exact fld_id _ _ _ (fun j x h1 h2 => h j x (Classical.byContradiction (fun z => by have := io j (by omega) z; omega)))
theorem lift_29 {q : Bool} {size : Nat} {o : Row} (io : In q o) : liftG q size o 29 = liftG q size o (mny q) := fld_in io (fun j x z => by show (if (o j).1 = 0 then x else _) = x; rw [if_pos z]) _
theorem c_raise {q : Bool} {a1 a3 k size : Nat} {o : Row} (hN : 100 ≤ N) (s1 : SumAt a1) (s3 : SumAt a3) (p1 : Apart a1) (p3 : Apart a3) (hk : k < 3) (hq : q = true ↔ k = 1) (lo : Lows o) (io : In q o) (hs : size < 5) (hs0 : ∀ f, f < 29 → (o f).1 ≠ 0 → sz_ q f ≤ size) (hT : Tab m) (r1 : SumC m a1 k o) :
    ∃ (m' : vM) (r : Int32), F_X0_raise N 223 a1 (nI size) a3 (S m) = some (r, S m') ∧ Fr (cmP a3) m m' ∧ match liftG q size o 29 with
      | some row => r = 1 ∧ SumC m' a3 (kdE row k) row ∧ Lows row
      | none => r = 0 := by
  have ha := adr q
  obtain ⟨e1, ro⟩ := r1
  have kk := kcs k hk k hk
  have hu : RowC m 231 unitR := hT.2.2.2.2.2.2.2.2
  obtain ⟨m1, r, t1, t2, t3⟩ := c_multiply (N := N) (q := q) (x := kc k) (l4 := nI size) (sf := fun _ _ => size) hN (hq.trans kk.2.2.1.symm) sum231 s1 (Or.inr (by omega)) p1 unit_low lo (Or.inr ⟨size, rfl, hs, fun _ _ => rfl⟩) (fun f g hf hg zf zg => by
    have hf0 : f = 0 := Classical.byContradiction (fun w => zf (by show (if f = 0 then (1 : Int64) else 0) = 0; rw [if_neg w]))
    have y := hs0 g (by omega) zg
    have x2 := szc q g hg
    have z0 := sz0 q
    refine ⟨?_, hs, ?_⟩
    · show sz_ q f + sz_ q g - sh_ q ≤ size
      rw [hf0]; omega
    · show sh_ q ≤ size
      omega) hT hu ro
  rw [mulG_lift lo, ← lift_29 io] at t3
  have e1' : rI m1 a1 0 = kc k := by
    rw [t2.i (by unfold Apart at p1; unfold muQ; omega)]
    exact e1
  have hg : ∀ R, (if r = 0 then rtZ 0 (S m1) else bnd (F_X6_settle N 226 (kc k) (S m1)) (fun _ s => ldR s 223 0 4 (fun r7 => bnd (F_X6_become N a3 r7 s) (fun _ s => rtZ 1 s)))) = R → F_X0_raise N 223 a1 (nI size) a3 (S m) = R := by
    intro R hR
    unfold F_X0_raise
    refine e_rcv faO ?_
    refine e_ldR faO faR7 ?_
    refine e_ldIV s1.1 e1 ?_
    refine e_bnd t1 ?_
    refine e_i (fun z => ?_) (fun z => ?_)
    · rw [if_pos z] at hR; exact hR
    · rw [if_neg z] at hR
      refine e_ldR faO faR4 ?_
      refine e_ldIV s1.1 e1' ?_
      exact hR
  cases hres : liftG q size o 29 with
  | none =>
    rw [hres] at t3
    subst t3
    exact ⟨m1, 0, hg _ (e_t rfl rfl), t2.mo (fun b j h => Or.inl h), rfl⟩
  | some row =>
    rw [hres] at t3
    obtain ⟨rfl, d1, d2⟩ := t3
    obtain ⟨m2, m3, v1, v2, v3, v4⟩ := c_end (N := N) (kd := k) hN s3 p3 d1
    refine ⟨m3, 1, hg _ (e_f (by decide) ?_), (t2.mo (fun b j h => Or.inl h)).tr v3, rfl, v4, d2⟩
    refine e_bnd v1 ?_
    refine e_ldR faO faR4 ?_
    refine e_bnd v2 ?_
    rfl
theorem c_avg_l {a1 a2 : Nat} {o : Row} (hN : 100 ≤ N) (s1 : SumAt a1) (s2 : SumAt a2) (p1 : Apart a1) (p2 : Apart a2) (lo : Lows o) : ∀ (d r n : Nat) (m : vM) (row : Row), r + d = 29 → d < n → Tab m → CR m row → Lows row → RowC m a1 o →
    ∃ (m' : vM) (v : Int32), H_X0_uproot_34 N n 223 a1 a2 (nI r) (S m) = some (v, S m') ∧ Fr (cmP a2) m m' ∧ match fld (astep o) d r (some row) with
      | some row' => v = 0 ∧ SumC m' a2 (kdE row' 0) row' ∧ Lows row'
      | none => v = -6
  | _, _, 0, _, _, _, h, _, _, _, _ => by omega
  | 0, r, n + 1, m, row, hr, _, hT, hc, hl, _ => by
    obtain ⟨m2, m3, v1, v2, v3, v4⟩ := c_end (N := N) (kd := 0) hN s2 p2 hc
    refine ⟨m3, 0, ?_, v3, rfl, v4, hl⟩
    refine Eq.trans u_H_X0_uproot_34 ?_
    refine e_t (by rw [leL (by decide) (by omega)]; show 29 ≤ r; omega) ?_
    refine e_ldR faO faR4 ?_
    refine e_bnd v1 ?_
    refine e_ldR faO faR4 ?_
    refine e_bnd v2 ?_
    rfl
  | d + 1, r, n + 1, m, row, hr, hd, hT, hc, hl, r1 => by
    have hr29 : r < 29 := by omega
    have b := bac r hr29
    have hwy := wy_lt r hr29
    obtain ⟨o1, o2, o3, o4, o5⟩ := id s1
    have e1 : rJ m (a1 + 1) r = (o r).1 := congrArg Prod.fst (r1 r hr29)
    have e2 : rJ m (a1 + 2) r = (o r).2 := congrArg Prod.snd (r1 r hr29)
    have lor := lo r hr29
    have h29 : ¬ (29 : Int32) ≤ nI r := by rw [leL (by decide) (by omega)]; show ¬ 29 ≤ r; omega
    have nx : ∀ m1 row1, Fr muP m m1 → CR m1 row1 → Lows row1 → astep o r (some row) = some row1 → (∀ R, J_X0_uproot_123 N (H_X0_uproot_34 N n) 223 a1 a2 (nI r) (S m1) = R → H_X0_uproot_34 N (n + 1) 223 a1 a2 (nI r) (S m) = R) → ∃ (m' : vM) (v : Int32), H_X0_uproot_34 N (n + 1) 223 a1 a2 (nI r) (S m) = some (v, S m') ∧ Fr (cmP a2) m m' ∧ match fld (astep o) (d + 1) r (some row) with
      | some row' => v = 0 ∧ SumC m' a2 (kdE row' 0) row' ∧ Lows row'
      | none => v = -6 := by
      intro m1 row1 f1 c1 l1 st hgo
      obtain ⟨m', v, g1, g2, g3⟩ := c_avg_l hN s1 s2 p1 p2 lo d (r + 1) n m1 row1 (by omega) (by omega) (hT.fr (fun b j hb => f1 b j (muP_tab hb))) c1 l1 (r1.fr p1 f1)
      refine ⟨m', v, hgo _ ?_, (f1.mo (fun b j h => Or.inl (mu_q h))).tr g2, by rw [fld, st]; exact g3⟩
      unfold J_X0_uproot_123
      refine e_nm ?_
      rw [addR]
      exact g1
    have no : ∀ m1, Fr muP m m1 → astep o r (some row) = none → H_X0_uproot_34 N (n + 1) 223 a1 a2 (nI r) (S m) = some (-6, S m1) → ∃ (m' : vM) (v : Int32), H_X0_uproot_34 N (n + 1) 223 a1 a2 (nI r) (S m) = some (v, S m') ∧ Fr (cmP a2) m m' ∧ match fld (astep o) (d + 1) r (some row) with
      | some row' => v = 0 ∧ SumC m' a2 (kdE row' 0) row' ∧ Lows row'
      | none => v = -6 := by
      intro m1 f1 st hgo
      exact ⟨m1, -6, hgo, f1.mo (fun b j h => Or.inl (mu_q h)), by rw [fld, st, fld_none astep_none]⟩
    by_cases zr : (o r).1 = 0
    · refine nx m row Fr.rf hc hl (by unfold astep; rw [if_pos zr]) (fun R hR => ?_)
      refine Eq.trans u_H_X0_uproot_34 ?_
      refine e_f h29 ?_
      refine e_ldR o1 o2 ?_
      refine e_alJV o4 rfl (by omega) e1 ?_
      exact e_t ((lg_cmp_eq _ _).mpr zr) hR
    have hst : astep o r (some row) = stA (ba_ r) (fmul (o r).1 (o r).2 (rw_ r).1 (rw_ r).2) (some row) := by unfold astep; rw [if_neg zr]
    have hbec := c_become (N := N) (m := m) (f := 230) (a := lN (wy_ r)) (b := lN (sz_ true r)) frac230 hN (lN_pos b.2.2.2.1 (by omega))
    rw [show red (lN (wy_ r)) (lN (sz_ true r)) = rw_ r from rfl] at hbec
    have fw := Fr_wF (m := m) (f := 230) (p := rw_ r)
    obtain ⟨v, m1, t1, t2, t3⟩ := c_timesR (N := N) (m := wF m 230 (rw_ r)) (b := o r) hN wF0 wF1 (rw_pos hr29) lor.1
    have f12 : Fr (fun b _ => b = 230) m m1 := fw.tr t2
    have f1 : Fr muP m m1 := f12.mo (fun b j h => by unfold muP; omega)
    have e1' : rJ (wF m 230 (rw_ r)) (a1 + 1) r = (o r).1 := by rw [fw.j (by unfold Apart at p1; omega)]; exact e1
    have e2' : rJ (wF m 230 (rw_ r)) (a1 + 2) r = (o r).2 := by rw [fw.j (by unfold Apart at p1; omega)]; exact e2
    have hba : rI m1 224 r = nI (ba_ r) := by rw [f12.i (by omega)]; exact (hT.2.2.2.2.2.2.1 r hr29).1
    have start : ∀ R, (if v = 0 then J_X0_uproot_120 N (S m1) else bnd (F_X6_add N 226 (nI (ba_ r)) 230 (S m1)) (fun v29 s => if v29 = 0 then J_X0_uproot_120 N s else J_X0_uproot_123 N (H_X0_uproot_34 N n) 223 a1 a2 (nI r) s)) = R → H_X0_uproot_34 N (n + 1) 223 a1 a2 (nI r) (S m) = R := by
      intro R hR
      refine Eq.trans u_H_X0_uproot_34 ?_
      refine e_f h29 ?_
      refine e_ldR o1 o2 ?_
      refine e_alJV o4 rfl (by omega) e1 ?_
      refine e_f (fun w => zr ((lg_cmp_eq _ _).mp w)) ?_
      refine e_ldR faO faR6 ?_
      refine e_ldR faO faR3 ?_
      refine e_alIV faA3 rfl (by omega) (hT.2.2.2.2.2.2.1 r hr29).2 ?_
      refine e_ldR faO faR1 ?_
      refine e_ldR frO frR3 ?_
      refine e_alIV frA3 rfl (by omega) (hT.2.1 true r hr29).1 ?_
      rw [nI_l (by omega), nI_l (by omega)]
      refine e_bnd hbec ?_
      refine e_ldR faO faR6 ?_
      refine e_ldR o1 o2 ?_
      refine e_alJV o4 rfl (by omega) e1' ?_
      refine e_ldR o1 o3 ?_
      refine e_alJV o5 rfl (by omega) e2' ?_
      refine e_bnd t1 ?_
      refine e_i (fun z => ?_) (fun z => ?_)
      · rw [if_pos z] at hR; exact hR
      · rw [if_neg z] at hR
        refine e_ldR faO faR4 ?_
        refine e_ldR faO faR2 ?_
        refine e_alIV faA2 rfl (by omega) hba ?_
        refine e_ldR faO faR6 ?_
        exact hR
    cases hfm : fmul (o r).1 (o r).2 (rw_ r).1 (rw_ r).2 with
    | none =>
      rw [hfm] at t3 hst
      subst t3
      exact no m1 f1 hst (start _ (e_t rfl rfl))
    | some p =>
      rw [hfm] at t3 hst
      obtain ⟨rfl, p0, p1', pp⟩ := t3
      obtain ⟨v2, m2, a1', a2', a3'⟩ := c_addR (N := N) (m := m1) (h := ba_ r) (row := row) (q := p) hN (by omega) (hc.fr (f12.mo (fun b j h => Or.inr h))) hl p0 p1' pp
      have f2 : Fr muP m m2 := f1.tr (a2'.mo (fun b j h => cr_mu h))
      have go : ∀ R, (if v2 = 0 then J_X0_uproot_120 N (S m2) else J_X0_uproot_123 N (H_X0_uproot_34 N n) 223 a1 a2 (nI r) (S m2)) = R → H_X0_uproot_34 N (n + 1) 223 a1 a2 (nI r) (S m) = R := by
        intro R hR
        refine start R (e_f (by decide) ?_)
        refine e_bnd a1' ?_
        exact hR
      cases hac : acc row (ba_ r) p with
      | none =>
        rw [hac] at a3'
        subst a3'
        exact no m2 f2 (hst.trans hac) (go _ (e_t rfl rfl))
      | some row' =>
        rw [hac] at a3'
        obtain ⟨rfl, c2, l2⟩ := a3'
        exact nx m2 row' f2 c2 l2 (hst.trans hac) (fun R hR => go R (e_f (by decide) hR))
theorem c_uproot {a1 a2 k : Nat} {o : Row} (hN : 100 ≤ N) (s1 : SumAt a1) (s2 : SumAt a2) (p1 : Apart a1) (p2 : Apart a2) (h12 : a1 + 1 ≠ a2) (hk : k < 3) (lo : Lows o) (hT : Tab m) (r1 : SumC m a1 k o) :
    ∃ (m' : vM) (v : Int32), F_X0_uproot N 223 a1 a2 (S m) = some (v, S m') ∧ Fr (cmP a2) m m' ∧ (if k = 0 then v = -2 else if k = 2 then v = 0 ∧ SumC m' a2 2 o else match avgX o with
      | none => v = -6
      | some row => v = 0 ∧ SumC m' a2 (kdE row 0) row ∧ Lows row) := by
  obtain ⟨e1, ro⟩ := r1
  have kk := kcs k hk k hk
  by_cases z0 : k = 0
  · refine ⟨m, -2, ?_, Fr.rf, by rw [if_pos z0]⟩
    unfold F_X0_uproot
    refine e_rcv faO ?_
    refine e_ldIV s1.1 e1 ?_
    exact e_t (kk.2.2.2.mpr z0) rfl
  simp only [if_neg z0]
  by_cases z2 : k = 2
  · obtain ⟨m', h1, h2, h3, h4⟩ := c_copy (N := N) (m := m) s2 s1 h12 hN
    refine ⟨m', 0, ?_, fun b j hb => ?_, ?_⟩
    · unfold F_X0_uproot
      refine e_rcv faO ?_
      refine e_ldIV s1.1 e1 ?_
      refine e_f (fun w => z0 (kk.2.2.2.mp w)) ?_
      refine e_ldIV s1.1 e1 ?_
      refine e_t (kk.1.mpr z2) ?_
      exact e_bnd h1 rfl
    · unfold cmP at hb
      rw [h2, if_neg (by omega), h4 b j (by omega)]
      exact ⟨rfl, rfl⟩
    · rw [if_pos z2]
      refine ⟨rfl, by rw [h2, if_pos ⟨rfl, rfl⟩, e1, z2], fun j hj => ?_⟩
      rw [← ro j hj]
      show (rJ m' (a2 + 1) j, rJ m' (a2 + 2) j) = (rJ m (a1 + 1) j, rJ m (a1 + 2) j)
      rw [(h3 j hj).1, (h3 j hj).2]
  simp only [if_neg z2]
  obtain ⟨m1, g1, g2, g3, g4⟩ := c_empty226 (N := N) (m := m) hN
  obtain ⟨m', v, j1, j2, j3⟩ := c_avg_l (N := N) hN s1 s2 p1 p2 lo 29 0 N m1 row0 rfl (by omega) (hT.fr (fun b j hb => g2 b j (muQ_tab hb))) g4 row0_low (ro.fq p1 g2)
  refine ⟨m', v, ?_, (g2.mo (fun b j h => Or.inl h)).tr j2, ?_⟩
  · unfold F_X0_uproot
    refine e_rcv faO ?_
    refine e_ldIV s1.1 e1 ?_
    refine e_f (fun w => z0 (kk.2.2.2.mp w)) ?_
    refine e_ldIV s1.1 e1 ?_
    refine e_f (fun w => z2 (kk.1.mp w)) ?_
    refine e_ldR faO faR4 ?_
    refine e_bnd g1 ?_
    exact j1
  · show match fld (astep o) 29 0 (some row0) with | none => v = -6 | some row => v = 0 ∧ SumC m' a2 (kdE row 0) row ∧ Lows row
    cases hres : fld (astep o) 29 0 (some row0) with
    | none => rw [hres] at j3; exact j3
    | some row => rw [hres] at j3; exact j3
end CRAISE
