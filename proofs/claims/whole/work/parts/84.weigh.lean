/-! the class: values -/
section WEIGH
variable {N : Nat} {m : vM} {s : vS}
def weP (q : Bool) (b j : Nat) : Prop := muQ b j ∨ taP q b j ∨ b = 282
theorem weP_tab {q : Bool} {b j : Nat} (h : tabP b j) : ¬ weP q b j := by
  have h2 := taP_tab (q := q) h
  have h3 := muQ_tab h
  unfold tabP at h
  intro w
  rcases w with w | w | w
  · exact h3 w
  · exact h2 w
  · omega
theorem frac282 : isOc 282 2 = true := by decide +kernel
theorem c_weigh_l {q : Bool} {a nn : Nat} {r : Nat → Nat} {root : Option Nat} {o : Row} (hN : 1000 ≤ N) (sa : SumAt a) (pa : Apart a) (pa2 : 136 ≤ a) (pa3 : a < 280 ∨ 289 ≤ a) (lo : Lows o) (hr : ∀ x, root = some x → x < nn) (hqr : ∀ k, k < 29 → (o k).1 ≠ 0 → q = root.isSome ∧ sz_ q k ≤ nn) : ∀ (d k n : Nat) (m : vM) (row : Row), k + d = mny q → d < n → Tab m → NetIs m 286 nn r → CR m row → Lows row → RowC m a o →
    ∃ (m' : vM) (v : Int32), H_X0_weigh_38 N n 223 a 286 (rt root) 282 (fo q) (nI k) (S m) = some (v, S m') ∧ Fr (weP q) m m' ∧ match fld (vstep q nn r root o) d k (some row) with
      | some row' => v = 1 ∧ rJ m' 282 0 = (row' 0).1 ∧ rJ m' 282 1 = (row' 0).2
      | none => v = 0
  | _, _, 0, _, _, _, h, _, _, _, _, _ => by omega
  | 0, k, n + 1, m, row, hk, _, hT, hL, hc, hl, _ => by
    have ha := adr q
    have e1 : rJ m 227 0 = (row 0).1 := congrArg Prod.fst (hc 0 (by omega))
    have e2 : rJ m 228 0 = (row 0).2 := congrArg Prod.snd (hc 0 (by omega))
    have l0 := hl 0 (by omega)
    have hbec := c_become (N := N) (m := m) (f := 282) (a := (row 0).1) (b := (row 0).2) frac282 (by omega) l0.1
    rw [show red (row 0).1 (row 0).2 = row 0 from red_of l0] at hbec
    refine ⟨wF m 282 (row 0), 1, ?_, Fr_wF.mo (fun b j h => Or.inr (Or.inr h)), rfl, wF0, wF1⟩
    refine Eq.trans u_H_X0_weigh_38 ?_
    refine e_ldIV gO (hT.1 q).2.2 ?_
    refine e_t (by rw [nI_leI (by omega) (by omega)]; omega) ?_
    refine e_ldR faO faR4 ?_
    refine e_ldR sum226.1 sum226.2.1 ?_
    refine e_alJV (j := 0) sum226.2.2.2.1 rfl (by omega) e1 ?_
    refine e_ldR faO faR4 ?_
    refine e_ldR sum226.1 sum226.2.2.1 ?_
    refine e_alJV (j := 0) sum226.2.2.2.2 rfl (by omega) e2 ?_
    refine e_bnd hbec ?_
    rfl
  | d + 1, k, n + 1, m, row, hk, hd, hT, hL, hc, hl, r1 => by
    have ha := adr q
    have hkm : k < mny q := by omega
    have hk29 : k < 29 := by omega
    have hz := szc q k hkm
    obtain ⟨o1, o2, o3, o4, o5⟩ := id sa
    have e1 : rJ m (a + 1) k = (o k).1 := congrArg Prod.fst (r1 k hk29)
    have e2 : rJ m (a + 2) k = (o k).2 := congrArg Prod.snd (r1 k hk29)
    have lok := lo k hk29
    have nx : ∀ m1 row1, Fr (weP q) m m1 → Fr (fun b j => muP b j ∨ taP q b j) m m1 → CR m1 row1 → Lows row1 → vstep q nn r root o k (some row) = some row1 → (∀ R, J_X0_weigh_117 N (H_X0_weigh_38 N n) 223 a 286 (rt root) 282 (fo q) (nI k) (S m1) = R → H_X0_weigh_38 N (n + 1) 223 a 286 (rt root) 282 (fo q) (nI k) (S m) = R) → ∃ (m' : vM) (v : Int32), H_X0_weigh_38 N (n + 1) 223 a 286 (rt root) 282 (fo q) (nI k) (S m) = some (v, S m') ∧ Fr (weP q) m m' ∧ match fld (vstep q nn r root o) (d + 1) k (some row) with
      | some row' => v = 1 ∧ rJ m' 282 0 = (row' 0).1 ∧ rJ m' 282 1 = (row' 0).2
      | none => v = 0 := by
      intro m1 row1 f1 f2 c1 l1 st hgo
      obtain ⟨m', v, g1, g2, g3⟩ := c_weigh_l hN sa pa pa2 pa3 lo hr hqr d (k + 1) n m1 row1 (by omega) (by omega) (hT.fr (fun b j hb => f1 b j (weP_tab hb))) ⟨by rw [f2.i (by unfold muP taP; omega)]; exact hL.1, hL.2.1, fun i hi => by rw [f2.i (by unfold muP taP; omega)]; exact hL.2.2 i hi⟩ c1 l1 (r1.fr2 f2 (fun j => by unfold Apart at pa; unfold muP taP; omega))
      refine ⟨m', v, hgo _ ?_, f1.tr g2, by rw [fld, st]; exact g3⟩
      unfold J_X0_weigh_117
      refine e_nm ?_
      rw [addR]
      exact g1
    have no : ∀ m1, Fr (weP q) m m1 → vstep q nn r root o k (some row) = none → H_X0_weigh_38 N (n + 1) 223 a 286 (rt root) 282 (fo q) (nI k) (S m) = some (0, S m1) → ∃ (m' : vM) (v : Int32), H_X0_weigh_38 N (n + 1) 223 a 286 (rt root) 282 (fo q) (nI k) (S m) = some (v, S m') ∧ Fr (weP q) m m' ∧ match fld (vstep q nn r root o) (d + 1) k (some row) with
      | some row' => v = 1 ∧ rJ m' 282 0 = (row' 0).1 ∧ rJ m' 282 1 = (row' 0).2
      | none => v = 0 := fun m1 f1 st hgo => ⟨m1, 0, hgo, f1, by rw [fld, st, fld_none vstep_none]⟩
    by_cases zk : (o k).1 = 0
    · refine nx m row Fr.rf Fr.rf hc hl (by unfold vstep; rw [if_pos zk]) (fun R hR => ?_)
      refine Eq.trans u_H_X0_weigh_38 ?_
      refine e_ldIV gO (hT.1 q).2.2 ?_
      refine e_f (by rw [nI_leI (by omega) (by omega)]; omega) ?_
      refine e_ldR o1 o2 ?_
      refine e_alJV o4 rfl (by omega) e1 ?_
      exact e_t ((lg_cmp_eq _ _).mpr zk) hR
    have hqk := hqr k hk29 zk
    have hst : vstep q nn r root o k (some row) = stA 0 (fmul (o k).1 (o k).2 (shr_ q nn r root (sz_ q k) k).1 (shr_ q nn r root (sz_ q k) k).2) (some row) := by unfold vstep; rw [if_neg zk]
    obtain ⟨m0, t0, ft⟩ := c_shareOf (N := N) (m := m) (q := q) (nn := nn) (k := k) (f := 230) (r := r) (root := root) hN hT hL hqk.1 hr hkm hqk.2 frac230
    have fw := Fr_wF (m := m0) (f := 230) (p := shr_ q nn r root (sz_ q k) k)
    obtain ⟨v, m1, t1, t2, t3⟩ := c_timesR (N := N) (m := wF m0 230 (shr_ q nn r root (sz_ q k) k)) (b := o k) (by omega) wF0 wF1 (shr_pos hL.2.1 hkm hqk.2 hqk.1 hr) lok.1
    have f230 : Fr (fun b _ => b = 230) m0 m1 := fw.tr t2
    have f1' : Fr (fun b j => muP b j ∨ taP q b j) m m1 := (ft.mo (fun b j h => Or.inr h)).tr (f230.mo (fun b j h => Or.inl (by unfold muP; omega)))
    have up : ∀ {m2 : vM}, Fr (fun b j => muP b j ∨ taP q b j) m m2 → Fr (weP q) m m2 := fun f => f.mo (fun b j h => h.elim (fun w => Or.inl (mu_q w)) (fun w => Or.inr (Or.inl w)))
    have fa : Fr (fun b j => muP b j ∨ taP q b j) m (wF m0 230 (shr_ q nn r root (sz_ q k) k)) := (ft.mo (fun b j h => Or.inr h)).tr (fw.mo (fun b j h => Or.inl (by unfold muP; omega)))
    have r1' := r1.fr2 fa (fun j => by unfold Apart at pa; unfold muP taP; omega)
    have e1' : rJ (wF m0 230 (shr_ q nn r root (sz_ q k) k)) (a + 1) k = (o k).1 := congrArg Prod.fst (r1' k hk29)
    have e2' : rJ (wF m0 230 (shr_ q nn r root (sz_ q k) k)) (a + 2) k = (o k).2 := congrArg Prod.snd (r1' k hk29)
    have hc0 : CR m1 row := fun j hj => by
      rw [← hc j hj]
      show (rJ m1 227 j, rJ m1 228 j) = (rJ m 227 j, rJ m 228 j)
      rw [f230.j (by omega), f230.j (by omega), ft.j (by unfold taP; omega), ft.j (by unfold taP; omega)]
    have start : ∀ R, (if v = 0 then J_X0_weigh_115 N (S m1) else bnd (F_X6_add N 226 0 230 (S m1)) (fun v28 s => if v28 = 0 then J_X0_weigh_115 N s else J_X0_weigh_117 N (H_X0_weigh_38 N n) 223 a 286 (rt root) 282 (fo q) (nI k) s)) = R → H_X0_weigh_38 N (n + 1) 223 a 286 (rt root) 282 (fo q) (nI k) (S m) = R := by
      intro R hR
      refine Eq.trans u_H_X0_weigh_38 ?_
      refine e_ldIV gO (hT.1 q).2.2 ?_
      refine e_f (by rw [nI_leI (by omega) (by omega)]; omega) ?_
      refine e_ldR o1 o2 ?_
      refine e_alJV o4 rfl (by omega) e1 ?_
      refine e_f (fun w => zk ((lg_cmp_eq _ _).mp w)) ?_
      refine e_ldR faO faR6 ?_
      refine e_bnd t0 ?_
      refine e_ldR faO faR6 ?_
      refine e_ldR o1 o2 ?_
      refine e_alJV o4 rfl (by omega) e1' ?_
      refine e_ldR o1 o3 ?_
      refine e_alJV o5 rfl (by omega) e2' ?_
      refine e_bnd t1 ?_
      refine e_i (fun z => ?_) (fun z => ?_)
      · rw [if_pos z] at hR; exact hR
      · rw [if_neg z] at hR
        refine e_ldR faO faR4 ?_
        refine e_ldR faO faR6 ?_
        exact hR
    cases hfm : fmul (o k).1 (o k).2 (shr_ q nn r root (sz_ q k) k).1 (shr_ q nn r root (sz_ q k) k).2 with
    | none =>
      rw [hfm] at t3 hst
      subst t3
      exact no m1 (up f1') hst (start _ (e_t rfl rfl))
    | some p =>
      rw [hfm] at t3 hst
      obtain ⟨rfl, p0, p1', pp⟩ := t3
      obtain ⟨v2, m2, a1', a2', a3'⟩ := c_addR (N := N) (m := m1) (h := 0) (row := row) (q := p) (by omega) (by omega) hc0 hl p0 p1' pp
      have f2 : Fr (fun b j => muP b j ∨ taP q b j) m m2 := f1'.tr (a2'.mo (fun b j h => Or.inl (cr_mu h)))
      have go : ∀ R, (if v2 = 0 then J_X0_weigh_115 N (S m2) else J_X0_weigh_117 N (H_X0_weigh_38 N n) 223 a 286 (rt root) 282 (fo q) (nI k) (S m2)) = R → H_X0_weigh_38 N (n + 1) 223 a 286 (rt root) 282 (fo q) (nI k) (S m) = R := by
        intro R hR
        refine start R (e_f (by decide) ?_)
        refine e_bnd a1' ?_
        exact hR
      cases hac : acc row 0 p with
      | none =>
        rw [hac] at a3'
        subst a3'
        exact no m2 (up f2) (hst.trans hac) (go _ (e_t rfl rfl))
      | some row' =>
        rw [hac] at a3'
        obtain ⟨rfl, c2, l2⟩ := a3'
        exact nx m2 row' (up f2) f2 c2 l2 (hst.trans hac) (fun R hR => go R (e_f (by decide) hR))
theorem gv_le : ∀ g, g < 7 → ∀ n, n < 10 → (gv g ≤ nI n ↔ g ≤ n + 1) := by decide +kernel
theorem c_weigh {q : Bool} {a nn k : Nat} {r : Nat → Nat} {root : Option Nat} {o : Row} (hN : 1000 ≤ N) (sa : SumAt a) (pa : Apart a) (pa2 : 136 ≤ a) (pa3 : a < 280 ∨ 289 ≤ a) (hk : k < 3) (hq : q = true ↔ k = 1) (lo : Lows o) (io : In q o) (hr : ∀ x, root = some x → x < nn) (hqr : ∀ k, k < 29 → (o k).1 ≠ 0 → q = root.isSome) (hT : Tab m) (hL : NetIs m 286 nn r) (r1 : SumC m a k o) :
    ∃ (m' : vM) (v : Int32), F_X0_weigh N 223 a 286 (rt root) 282 (S m) = some (v, S m') ∧ Fr (weP q) m m' ∧ match (if gr q o ≤ nn + 1 then valX q nn r root o 29 else none) with
      | some row' => v = 1 ∧ rJ m' 282 0 = (row' 0).1 ∧ rJ m' 282 1 = (row' 0).2
      | none => v = 0 := by
  obtain ⟨e1, ro⟩ := r1
  have kk := kcs k hk k hk
  have ha := adr q
  have hx : q = true ↔ kc k = 2 := hq.trans kk.2.2.1.symm
  have g1 := c_greatestSize (N := N) (by omega) hx sa hT ro
  have g5 := gr_5 (q := q) (o := o)
  have hle := gv_le (gr q o) (by omega) nn (by have := hL.2.1; omega)
  by_cases z : gr q o ≤ nn + 1
  · simp only [if_pos z]
    have hqr' : ∀ k, k < 29 → (o k).1 ≠ 0 → q = root.isSome ∧ sz_ q k ≤ nn := fun k hk hz => ⟨hqr k hk hz, by have := gr_ge (io k hk hz) hz; omega⟩
    obtain ⟨m1, h1, h2, h3, h4⟩ := c_empty226 (N := N) (m := m) (by omega)
    obtain ⟨m', v, j1, j2, j3⟩ := c_weigh_l (N := N) (q := q) hN sa pa pa2 pa3 lo hr hqr' (mny q) 0 N m1 row0 (by omega) (by omega) (hT.fr (fun b j hb => h2 b j (muQ_tab hb))) ⟨by rw [h2.i (by unfold muQ; omega)]; exact hL.1, hL.2.1, fun i hi => by rw [h2.i (by unfold muQ; omega)]; exact hL.2.2 i hi⟩ h4 row0_low (ro.fq pa h2)
    refine ⟨m', v, ?_, (h2.mo (fun b j h => Or.inl h)).tr j2, ?_⟩
    · unfold F_X0_weigh
      refine e_rcv faO ?_
      refine e_ldIV sa.1 e1 ?_
      refine e_bnd g1 ?_
      refine e_ldIV net286.o hL.1 ?_
      refine e_t (hle.mpr z) ?_
      refine e_ldIV sa.1 e1 ?_
      refine e_bnd (c_familyOf hx) ?_
      refine e_ldR faO faR4 ?_
      refine e_bnd h1 ?_
      exact j1
    · have e29 : valX q nn r root o 29 = fld (vstep q nn r root o) (mny q) 0 (some row0) := fld_in io (fun j x z => by show (if (o j).1 = 0 then x else _) = x; rw [if_pos z]) _
      rw [e29]
      exact j3
  · simp only [if_neg z]
    refine ⟨m, 0, ?_, Fr.rf, rfl⟩
    unfold F_X0_weigh
    refine e_rcv faO ?_
    refine e_ldIV sa.1 e1 ?_
    refine e_bnd g1 ?_
    refine e_ldIV net286.o hL.1 ?_
    exact e_f (fun w => z (hle.mp w)) rfl
end WEIGH
