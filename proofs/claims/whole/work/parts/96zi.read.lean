section RDC
variable {N z : Nat} {t : Nat → Nat} {m m' : vM} {s : vS} {T : List Tok}
def netOk (x : Tok) : Prop := x.1 < 128 ∧ x.2.1 < 60 ∧ ((x.1 = 91 ∨ x.1 = 60) → x.2.2.1 = -1 ∨ ∃ k, k < 29 ∧ x.2.2.1 = nI k)
theorem run_net (hz : z ≤ 60) : ∀ (A : List Tok) (bh : Bool) (L : List Lev), Run t z A bh L → ∀ x, x ∈ A → netOk x
  | [], _, _, _, x, hx => by cases hx
  | y :: A, bh, L, h, x, hx => by
    rcases List.mem_cons.mp hx with rfl | hx
    · obtain ⟨okz, ok⟩ := h.1
      refine ⟨?_, by omega, ?_⟩
      · rcases ok with ⟨_, kt, ok | ok⟩ | ⟨_, ⟨_, ok, _⟩ | ⟨ok, _⟩ | ⟨ok, _⟩ | ⟨ok, _⟩⟩
        · unfold cls at ok; omega
        · unfold opr at ok; omega
        · omega
        · omega
        · omega
        · omega
      · intro hn
        rcases ok with ⟨_, kt, ok | ok⟩ | ⟨_, ⟨_, ok, _⟩ | ⟨ok, nk⟩ | ⟨ok, nk⟩ | ⟨ok, _⟩⟩
        · unfold cls at ok; omega
        · unfold opr at ok; omega
        · omega
        · rcases nk.2 with q | ⟨k, q1, q2⟩
          · exact Or.inl q
          · exact Or.inr ⟨k, by have : k < 19 := q1; omega, q2⟩
        · rcases nk.2 with q | ⟨k, q1, q2⟩
          · exact Or.inl q
          · exact Or.inr ⟨k, q1, q2⟩
        · omega
    · exact run_net hz A _ _ h.2 x hx
theorem m_mis_l {l1 : Int32} (hO : TokM m T) (hTl : T.length ≤ 60) (hn : ∀ x, x ∈ T → netOk x) : ∀ (d i n : Nat), i + d = T.length → d < n → (∀ p, mis (T.drop i) = some p → H_X9_read_36 N n 322 l1 (nI i) (S m) = some (-2000 - nI p, S m)) ∧ (mis (T.drop i) = none → ∀ R, (stI (S m) 322 9 37 (0) (fun s => stI s 322 9 43 (0) (fun s => stZ s 322 9 25 (0) (fun s => bnd (F_X9_begin N 322 (0) s) (fun v5 s => H_X9_read_114 N N 322 l1 (0) s))))) = R → H_X9_read_36 N n 322 l1 (nI i) (S m) = R)
  | _, _, 0, _, h => by omega
  | 0, i, n + 1, hi, _ => by
    rw [List.drop_eq_nil_of_le (by omega)]
    refine ⟨fun p hp => absurd (show (none : Option Nat) = some p from hp) (fun w => by cases w), fun _ R hR => ?_⟩
    refine Eq.trans u_H_X9_read_36 ?_
    refine e_ldIV fmO (hO.1) ?_
    refine e_t (by rw [nI_leI (by omega) (by omega)]; omega) ?_
    exact hR
  | d + 1, i, n + 1, hi, hd => by
    obtain ⟨ih1, ih2⟩ := m_mis_l (l1 := l1) hO hTl hn d (i + 1) n (by omega) (by omega)
    have hlt : i < T.length := by omega
    obtain ⟨x, hx⟩ : ∃ x, T[i]? = some x := ⟨T[i], List.getElem?_eq_getElem hlt⟩
    have hdr : T.drop i = x :: T.drop (i + 1) := by
      rw [List.drop_eq_getElem_cons hlt]
      rw [List.getElem?_eq_getElem hlt] at hx
      rw [Option.some.inj hx]
    obtain ⟨x1, x2, x3, x4⟩ := hO.2 i x hx
    obtain ⟨n1, n2, n3⟩ := hn x (List.mem_of_getElem? hx)
    have hmcl : mc x.1 < 128 := by unfold mc; split <;> omega
    have hmc91 : ∀ c, (c = 91 ∨ c = 60) → (nI (mc x.1) = nI c ↔ x.1 = c) := fun c hc => by
      rw [nI_eq (by omega) (by omega)]
      unfold mc
      by_cases y : x.1 = 48
      · rw [if_pos y]; omega
      · rw [if_neg y]
    have j86 : ∀ R, H_X9_read_36 N n 322 l1 (nI (i + 1)) (S m) = R → J_X9_read_86 N (H_X9_read_36 N n) 322 l1 (nI i) (S m) = R := by
      intro R hR
      unfold J_X9_read_86
      refine e_nm ?_
      rw [addR]
      exact hR
    have start : ∀ R, (if x.1 = 91 ∨ x.1 = 60 then J_X9_read_66 N (H_X9_read_36 N n) 322 l1 (nI i) (S m) else J_X9_read_86 N (H_X9_read_36 N n) 322 l1 (nI i) (S m)) = R → H_X9_read_36 N (n + 1) 322 l1 (nI i) (S m) = R := by
      intro R hR
      refine Eq.trans u_H_X9_read_36 ?_
      refine e_ldIV fmO (hO.1) ?_
      refine e_f (by rw [nI_leI (by omega) (by omega)]; omega) ?_
      refine e_ldR fmO fmR31 ?_
      refine e_alIV fmA31 rfl (by omega) (x1) ?_
      by_cases y1 : x.1 = 91
      · refine e_t ((hmc91 91 (Or.inl rfl)).mpr y1) ?_
        rw [if_pos (Or.inl y1)] at hR
        exact hR
      refine e_f (fun q => y1 ((hmc91 91 (Or.inl rfl)).mp q)) ?_
      refine e_ldR fmO fmR31 ?_
      refine e_alIV fmA31 rfl (by omega) (x1) ?_
      by_cases y2 : x.1 = 60
      · refine e_t ((hmc91 60 (Or.inr rfl)).mpr y2) ?_
        rw [if_pos (Or.inr y2)] at hR
        exact hR
      refine e_f (fun q => y2 ((hmc91 60 (Or.inr rfl)).mp q)) ?_
      rw [if_neg (fun q => q.elim y1 y2)] at hR
      exact hR
    rw [hdr, mis]
    by_cases y : x.1 = 91 ∨ x.1 = 60
    · rw [if_pos y] at start
      by_cases v : x.2.2.1 = -1
      · rw [if_pos ⟨y, v⟩]
        refine ⟨fun p hp => ?_, fun hp => by cases hp⟩
        cases hp
        refine start _ ?_
        unfold J_X9_read_66
        refine e_ldR fmO fmR33 ?_
        refine e_alIV fmA33 rfl (by omega) (x3) ?_
        refine e_f (by rw [v]; decide) ?_
        refine e_ldR fmO fmR32 ?_
        refine e_alIV fmA32 rfl (by omega) (x2) ?_
        rfl
      · rw [if_neg (fun q => v q.2)]
        obtain ⟨k, hk, hv⟩ := (n3 y).resolve_left v
        have j66 : ∀ R, H_X9_read_36 N n 322 l1 (nI (i + 1)) (S m) = R → H_X9_read_36 N (n + 1) 322 l1 (nI i) (S m) = R := by
          intro R hR
          refine start _ ?_
          unfold J_X9_read_66
          refine e_ldR fmO fmR33 ?_
          refine e_alIV fmA33 rfl (by omega) (x3) ?_
          refine e_t (by rw [hv]; exact nI_pos' (by omega)) ?_
          exact j86 R hR
        exact ⟨fun p hp => j66 _ (ih1 p hp), fun hp R hR => j66 _ (ih2 hp R hR)⟩
    · rw [if_neg y] at start
      rw [if_neg (fun q => y q.1)]
      exact ⟨fun p hp => start _ (j86 _ (ih1 p hp)), fun hp R hR => start _ (j86 _ (ih2 hp R hR))⟩
/-- what reading changes of the class, of the model; the tape is empty then -/
def rdC (b j : Nat) : Prop := psP b j ∨ wkP b j ∨ (b = 234 ∧ j = 3)
def rdM (b j : Nat) : Prop := mqP b j ∨ mwP b j ∨ (b = 322 ∧ j = 13)
theorem rd_pr {b j : Nat} (h : rdC b j ∨ rdM b j) : (b = 234 ∧ j = 3) ∨ (b = 322 ∧ j = 13) ∨ ¬ prP b j := by
  unfold rdC rdM psP wkP mqP mwP at h
  unfold prP tabP hanP stoP tapP imgP
  omega
theorem Rel.read (hR : Rel m) (f : Fr (fun b j => rdC b j ∨ rdM b j) m m') (h1 : rI m' 234 3 = 0) (h2 : rI m' 322 13 = 0) : Rel m' := by
  refine hR.tape (z := 0) (t := fun _ => 0) (f.mo (fun a j w => ?_)) ⟨by omega, h1, h2, fun i hi => absurd hi (Nat.not_lt_zero _)⟩
  unfold tapP
  rcases rd_pr w with q | q | q
  · exact Or.inl (Or.inl q)
  · exact Or.inl (Or.inr (Or.inr (Or.inl q)))
  · exact Or.inr q
def E0 : List LV := [((none, none, none), V0, V0)]
theorem L0_G (z : Nat) : LevG t z L0 := by
  refine ⟨rfl, by decide, fun g hg p hp => ?_, fun g hg => ?_⟩
  · rcases List.mem_cons.mp hg with rfl | hg
    · rcases hp with hp | hp | hp <;> cases hp
    · cases hg
  · rcases List.mem_cons.mp hg with rfl | hg
    · exact ⟨fun q hq => absurd (show (none : Option Nat) = some q from hq) (fun w => by cases w), fun q hq => absurd (show (none : Option Nat) = some q from hq) (fun w => by cases w)⟩
    · cases hg
/-- the kind of what is read -/
def fK (w : Vl) : Nat := if w.1 = 2 ∧ nt w.2 ≠ 0 then 0 else w.1
theorem fK_good {w : Vl} (g : Gd w) : Good (fK w) w.2 := by
  unfold fK
  by_cases y : w.1 = 2 ∧ nt w.2 ≠ 0
  · rw [if_pos y]
    exact ⟨by omega, g.2.1, fun _ => g.2.2.1 (by omega), fun h => by cases h⟩
  · rw [if_neg y]
    refine ⟨g.1, g.2.1, g.2.2.1, fun h => ?_⟩
    have hn : nt w.2 = 0 := by
      rcases Nat.eq_zero_or_pos (nt w.2) with q | q
      · exact q
      · exact absurd ⟨h, by omega⟩ y
    exact nt_emp.mp hn
theorem evr_gd : ∀ (A : List Tok) (bh : Bool) (E : List LV) (w : Vl), LevG t z (erE E) → GdE E → TimN bh E → Run t z A bh (erE E) → mis A = none → evr t A E = .inr w → Gd w
  | [], bh, E, w, hG, hE, _, _, _, h => by
    match E, hG, h with
    | e :: r, _, h => exact epV_gd (hE e List.mem_cons_self) (show epV t e = .inr w from h)
    | [], hG, _ => exact hG.1.elim
  | x :: A, bh, E, w, hG, hE, hT, hR, hM, h => by
    obtain ⟨hm1, hm2⟩ := mis_c hM
    match E, hG, hE, hT, hR, h with
    | e :: r, hG, hE, hT, hR, h =>
      have h : bnS (evt t x (e :: r)) (fun E' => evr t A E') = .inr w := h
      cases hc : evt t x (e :: r) with
      | inl f => rw [hc] at h; cases h
      | inr E' =>
        rw [hc] at h
        obtain ⟨g1, g2, g3, g4⟩ := evt_ok hG hE hT hR.1 hm1 hR.2 hc
        exact evr_gd A (bhn x) E' w g1 g2 g3 g4 hm2 h
theorem neg_nz {b : Nat} (h : b < 1000) : ¬ (-1000 : Int32) - nI b = 0 ∧ ¬ (-2000 : Int32) - nI b = 0 := by
  have : ∀ b, b < 1000 → ¬ (-1000 : Int32) - nI b = 0 ∧ ¬ (-2000 : Int32) - nI b = 0 := by decide +kernel
  exact this b h
theorem call_read (hN : 1000 ≤ N) (hR : Rel m) (x : Int32) : SameI (F_X8_read N 0 x) (F_X9_read N 322 x) m := by
  rcases (rng x (n := 4) (by decide)).symm with hx | ⟨st, hs, rfl⟩
  · refine SameI.ro (-1) hR ?_ ?_
    · unfold F_X8_read
      refine e_rcv fxO ?_
      exact g_n (c_isStore _) hx rfl
    · unfold F_X9_read
      refine e_rcv fmO ?_
      exact g_n (m_inR (n := 3) _ (by decide)) hx rfl
  obtain ⟨z, t, hz, h1, h2, h3⟩ := id hR.2.2.2.1
  have hTb := hR.1
  have hTC : TpC m z t := ⟨hz, h1, fun i hi => ⟨(h3 i hi).1, (h3 i hi).2.1⟩⟩
  have hTM : TpM m z t := ⟨hz, h2, fun i hi => ⟨(h3 i hi).1, (h3 i hi).2.2⟩⟩
  obtain ⟨m1, c1, c2, c3, c4⟩ := c_takeApart (N := N) (by omega) hTb hTC
  have hTb1 : Tab m1 := hTb.fr (fun b j hb => c2 b j (ps_tab hb))
  have startC : ∀ R, (if fl1 (pars t z 61 0 false L0).1 (ems t (pars t z 61 0 false L0).2 L0) = 0 then (ldR (S m1) 0 8 4 (fun r4 => ldR (S m1) 0 8 3 (fun r5 => bnd (F_X4_workOut N r4 r5 (S m1)) (fun v6 s => J_X8_read_33 N 0 (nI st) v6 s)))) else (J_X8_read_33 N 0 (nI st) (fl1 (pars t z 61 0 false L0).1 (ems t (pars t z 61 0 false L0).2 L0)) (S m1))) = R → F_X8_read N 0 (nI st) (S m) = R := by
    intro R hR'
    unfold F_X8_read
    refine e_rcv fxO ?_
    refine g_y (c_isStore _) (inr hs (by decide)) ?_
    refine e_ldR fxO fxR3 ?_
    refine e_bnd (c1) ?_
    exact hR'
  have j33 : ∀ (m2 : vM) (v : Int32), ¬ v = 0 → J_X8_read_33 N 0 (nI st) v (S m2) = some (v, S (wI m2 234 3 (nI 0))) := by
    intro m2 v hv
    unfold J_X8_read_33
    refine e_ldR fxO fxR3 ?_
    refine e_stI ftO ?_
    refine e_f (hv) ?_
    rfl
  -- the model's beginning, on whatever the class has left
  have modl : ∀ mc : vM, Fr rdC m mc → ∃ v m2, F_X9_isText N 322 (S mc) = some (v, S m2) ∧ Fr mqP mc m2 ∧ (∀ R, (if v = 0 then (ldI (S (wI m2 322 13 (nI 0))) 322 9 29 (fun v3 => some (((-1000) - v3), S (wI m2 322 13 (nI 0))))) else (H_X9_read_36 N N 322 (nI st) (0) (S (wI m2 322 13 (nI 0))))) = R → F_X9_read N 322 (nI st) (S mc) = R) ∧ ((v = 0 ∧ ∃ b, (pars t z 61 0 false L0).1 = some b ∧ b ≤ z ∧ rI m2 322 29 = nI b) ∨ (v = 1 ∧ (pars t z 61 0 false L0).1 = none ∧ TokM m2 (pars t z 61 0 false L0).2 ∧ (pars t z 61 0 false L0).2.length ≤ 60)) := by
    intro mc fc
    have nrd : ∀ b j, 319 < b → ¬ rdC b j := fun b j hb w => by unfold rdC psP wkP at w; omega
    have hTMc : TpM mc z t := ⟨hz, by rw [fc.i (nrd _ _ (by omega))]; exact h2, fun i hi => by rw [fc.i (nrd _ _ (by omega))]; exact hTM.2.2 i hi⟩
    have hTbc : Tab mc := hTb.fr (fun b j hb => fc b j (by unfold tabP at hb; unfold rdC psP wkP; omega))
    obtain ⟨v, m2, g1, g2, g3⟩ := m_isText (N := N) (by omega) hTbc hTMc
    refine ⟨v, m2, g1, g2, fun R hR' => ?_, g3⟩
    unfold F_X9_read
    refine e_rcv fmO ?_
    refine g_y (m_inR (n := 3) _ (by decide)) (inr hs (by decide)) ?_
    refine e_bnd (g1) ?_
    refine e_stI fmO ?_
    exact hR'
  cases hp : (pars t z 61 0 false L0).1 with
  | some b =>
    -- no such text
    have hb := c3 b hp
    have hne := (neg_nz hb).1
    have hfl : fl1 (pars t z 61 0 false L0).1 (ems t (pars t z 61 0 false L0).2 L0) = -1000 - nI b := by rw [hp]; rfl
    have fc : Fr rdC m (wI m1 234 3 (nI 0)) := (c2.mo (fun _ _ w => Or.inl w)).sI (Or.inr (Or.inr ⟨rfl, rfl⟩))
    obtain ⟨v, m2, g1, g2, g3, g4⟩ := modl _ fc
    rcases g4 with ⟨v0, b', q1, q2, q3⟩ | ⟨v1, q1, _⟩
    · rw [hp] at q1
      cases q1
      refine ⟨-1000 - nI b, wI m1 234 3 (nI 0), wI m2 322 13 (nI 0), startC _ ?_, g3 _ ?_, hR.read (((fc.mo (fun _ _ => Or.inl)).tr (g2.mo (fun _ _ w => Or.inr (Or.inl w)))).sI (Or.inr (Or.inr (Or.inr ⟨rfl, rfl⟩)))) ?_ (rI_s _ _ _ _)⟩
      · rw [hfl]
        refine e_f (hne) ?_
        exact j33 _ _ hne
      · refine e_t (v0) ?_
        refine e_ldIV fmO (show rI _ 322 29 = nI b by rw [rI_n _ _ (by omega)]; exact q3) ?_
        rfl
      · rw [rI_n _ _ (by omega), g2.i (by unfold mqP; omega), rI_s]
        rfl
    · rw [hp] at q1
      cases q1
  | none =>
    obtain ⟨T, hT⟩ : ∃ T, (pars t z 61 0 false L0).2 = T := ⟨_, rfl⟩
    have hRun := pars_run (t := t) (z := z) 61 0 false L0 hp
    have hfl0 : fl1 (pars t z 61 0 false L0).1 (ems t (pars t z 61 0 false L0).2 L0) = fl2 (mis (ems t (pars t z 61 0 false L0).2 L0)) := by rw [hp]; rfl
    have hmis := mis_ems _ _ _ (L0_G z) hRun
    rw [hmis] at hfl0
    obtain ⟨hOrd, hOl⟩ := c4 hp
    rw [hT] at hRun hfl0 hOrd hOl startC
    have hnet := run_net hz T false L0 hRun
    cases hm : mis T with
    | some p =>
      -- a network that there is not
      rw [hm] at hfl0
      have hp60 : p < 1000 := by
        have gen : ∀ A : List Tok, (∀ x, x ∈ A → netOk x) → ∀ p, mis A = some p → p < 60 := by
          intro A
          induction A with
          | nil => intro _ p hp; cases hp
          | cons y A ih =>
            intro hA p hp
            rw [mis] at hp
            by_cases w : (y.1 = 91 ∨ y.1 = 60) ∧ y.2.2.1 = -1
            · rw [if_pos w] at hp
              cases hp
              exact (hA y List.mem_cons_self).2.1
            · rw [if_neg w] at hp
              exact ih (fun x hx => hA x (List.mem_cons_of_mem _ hx)) p hp
        have := gen T hnet p hm
        omega
      have hne := (neg_nz hp60).2
      have hfl : fl1 (pars t z 61 0 false L0).1 (ems t T L0) = -2000 - nI p := hfl0
      have fc : Fr rdC m (wI m1 234 3 (nI 0)) := (c2.mo (fun _ _ w => Or.inl w)).sI (Or.inr (Or.inr ⟨rfl, rfl⟩))
      obtain ⟨v, m2, g1, g2, g3, g4⟩ := modl _ fc
      rcases g4 with ⟨v0, b', q1, q2, q3⟩ | ⟨v1, q1, q2, q3⟩
      · rw [hp] at q1
        cases q1
      · rw [hT] at q2 q3
        have hO2 : TokM (wI m2 322 13 (nI 0)) T := ⟨by rw [rI_n _ _ (by omega)]; exact q2.1, fun i x hx => by
          rw [rI_n _ _ (by omega), rI_n _ _ (by omega), rI_n _ _ (by omega), rI_n _ _ (by omega)]
          exact q2.2 i x hx⟩
        have hml := (m_mis_l (N := N) (l1 := nI st) hO2 q3 hnet T.length 0 N (by omega) (by omega)).1 p hm
        refine ⟨-2000 - nI p, wI m1 234 3 (nI 0), wI m2 322 13 (nI 0), startC _ ?_, g3 _ ?_, hR.read (((fc.mo (fun _ _ => Or.inl)).tr (g2.mo (fun _ _ w => Or.inr (Or.inl w)))).sI (Or.inr (Or.inr (Or.inr ⟨rfl, rfl⟩)))) ?_ (rI_s _ _ _ _)⟩
        · rw [hfl]
          refine e_f (hne) ?_
          exact j33 _ _ hne
        · refine e_f (by rw [v1]; decide) ?_
          exact hml
        · rw [rI_n _ _ (by omega), g2.i (by unfold mqP; omega), rI_s]
          rfl
    | none =>
      rw [hm] at hfl0
      have hfl : fl1 (pars t z 61 0 false L0).1 (ems t T L0) = 0 := hfl0
      have hGd0 : GdE E0 := fun e he => by
        rcases List.mem_cons.mp he with rfl | he
        · exact ⟨V0_gd, V0_gd⟩
        · cases he
      have hTim0 : TimN false E0 := fun q => by cases q
      -- the class works the orders out
      have f0 : Fr wkP m1 (wI m1 243 2 (nI 0)) := Fr.rf.sI (Or.inl ⟨rfl, rfl⟩)
      obtain ⟨m3, v, w1, w2, w3⟩ := c_run (N := N) (z := z) (t := t) (by omega) T false E0 0 N (wI m1 243 2 (nI 0)) (L0_G z) hGd0 hTim0 hRun hm rfl ⟨hOrd.wk f0, hOl, ⟨Nat.zero_le _, by show (ems t T L0).length < 0 + N; omega⟩, hTb1.fr (fun b j hb => f0 b j (wk_tab hb)), rI_s _ _ _ _, by show 0 < 12; omega, trivial⟩
      have f3 : Fr rdC m m3 := (c2.mo (fun _ _ w => Or.inl w)).tr ((f0.tr w2).mo (fun _ _ w => Or.inr (Or.inl w)))
      have startC2 : ∀ R, J_X8_read_33 N 0 (nI st) v (S m3) = R → F_X8_read N 0 (nI st) (S m) = R := by
        intro R hR'
        refine startC R ?_
        refine e_t (hfl) ?_
        refine e_ldR fxO fxR4 ?_
        refine e_ldR fxO fxR3 ?_
        refine e_bnd (r := v) (s' := S m3) ?_ hR'
        unfold F_X4_workOut
        refine e_rcv fkO ?_
        refine e_stI fkO ?_
        exact w1
      -- the model, on whatever the class has left
      have modl2 : ∀ mc : vM, Fr rdC m mc ∨ (∃ mc0, Fr rdC m mc0 ∧ Fr (fun b _ => 290 ≤ b ∧ b ≤ 303) mc0 mc) → ∃ m4, (∀ R, J_X9_read_151 N 322 (nI st) (S m4) = R → F_X9_read N 322 (nI st) (S mc) = R) ∧ Fr rdM mc m4 ∧ (rI m4 322 13 = 0 ∧ rJ m4 322 13 = rJ mc 322 13) ∧ match evr t T E0 with
          | .inl f => rI m4 322 43 = flv f.1 f.2 ∧ ¬ flv f.1 f.2 = 0
          | .inr w => rI m4 322 43 = 0 ∧ RowV m4 4 w := by
        intro mc hfc
        have big : ∀ b j, 319 < b → rI mc b j = rI m b j ∧ rJ mc b j = rJ m b j := by
          intro b j hb
          have nrd : ¬ rdC b j := fun w => by unfold rdC psP wkP at w; omega
          rcases hfc with fc | ⟨mc0, fc, fd⟩
          · exact ⟨fc.i nrd, fc.j nrd⟩
          · exact ⟨by rw [fd.i (by omega), fc.i nrd], by rw [fd.j (by omega), fc.j nrd]⟩
        have hTMc : TpM mc z t := ⟨hz, by rw [(big _ _ (by omega)).1]; exact h2, fun i hi => by rw [(big _ _ (by omega)).1]; exact hTM.2.2 i hi⟩
        have hTbc : Tab mc := by
          rcases hfc with fc | ⟨mc0, fc, fd⟩
          · exact hTb.fr (fun b j hb => fc b j (by unfold tabP at hb; unfold rdC psP wkP; omega))
          · exact (hTb.fr (fun b j hb => fc b j (by unfold tabP at hb; unfold rdC psP wkP; omega))).fr (fun b j hb => fd b j (by unfold tabP at hb; omega))
        obtain ⟨v', m2, g1, g2, g3⟩ := m_isText (N := N) (by omega) hTbc hTMc
        rcases g3 with ⟨v0, b', q1, q2, q3⟩ | ⟨v1, q1, q2, q3⟩
        · rw [hp] at q1
          cases q1
        · rw [hT] at q2 q3
          have hO2 : TokM (wI m2 322 13 (nI 0)) T := ⟨by rw [rI_n _ _ (by omega)]; exact q2.1, fun i x hx => by
            rw [rI_n _ _ (by omega), rI_n _ _ (by omega), rI_n _ _ (by omega), rI_n _ _ (by omega)]
            exact q2.2 i x hx⟩
          have hml := (m_mis_l (N := N) (l1 := nI st) hO2 q3 hnet T.length 0 N (by omega) (by omega)).2 hm
          -- the state at the beginning
          have hbeg : F_X9_begin N 322 (nI 0) (S (wI (wI (wI (wI m2 322 13 (nI 0)) 322 37 0) 322 43 0) 322 25 0)) = some ((), S (wI (wI (wI (wI (wI (wI (wI m2 322 13 (nI 0)) 322 37 0) 322 43 0) 322 25 0) 349 0 0) 350 0 0) 353 0 (nI 0))) := by
            unfold F_X9_begin
            refine e_rcv fmO ?_
            refine e_ldR fmO fmR38 ?_
            refine e_ldIV fmO (show rI _ 322 37 = nI 0 by rw [rI_n _ _ (by omega), rI_n _ _ (by omega), rI_s]; rfl) ?_
            refine e_asZ fmA38 (j := 0) rfl (by omega) (Or.inl rfl) ?_
            refine e_ldR fmO fmR39 ?_
            refine e_ldIV fmO (show rI _ 322 37 = nI 0 by rw [rI_n _ _ (by omega), rI_n _ _ (by omega), rI_n _ _ (by omega), rI_s]; rfl) ?_
            refine e_asZ fmA39 (j := 0) rfl (by omega) (Or.inl rfl) ?_
            refine e_ldR fmO fmR42 ?_
            refine e_ldIV fmO (show rI _ 322 37 = nI 0 by rw [rI_n _ _ (by omega), rI_n _ _ (by omega), rI_n _ _ (by omega), rI_n _ _ (by omega), rI_s]; rfl) ?_
            refine e_asI fmA42 (j := 0) rfl (by omega) ?_
            rfl
          obtain ⟨mb, hmb⟩ : ∃ mb, mb = wI (wI (wI (wI (wI (wI (wI m2 322 13 (nI 0)) 322 37 0) 322 43 0) 322 25 0) 349 0 0) 350 0 0) 353 0 (nI 0) := ⟨_, rfl⟩
          have fb : Fr mwP (wI m2 322 13 (nI 0)) mb := by
            rw [hmb]
            exact (((((Fr.rf.sI (Or.inl (by omega))).sI (Or.inl (by omega))).sI (Or.inl (by omega))).sI (Or.inr (Or.inr (Or.inr (Or.inr (Or.inr (Or.inr (by omega)))))))).sI (Or.inr (Or.inr (Or.inr (Or.inr (Or.inr (Or.inr (by omega)))))))).sI (Or.inr (Or.inr (Or.inr (Or.inr (Or.inr (Or.inr (by omega)))))))
          have fa0 : Fr rdM mc m2 := g2.mo (fun _ _ w => Or.inl w)
          have fb0 : Fr rdM (wI m2 322 13 (nI 0)) mb := fb.mo (fun _ _ w => Or.inr (Or.inl w))
          have fab : Fr rdM mc mb := (fa0.sI (Or.inr (Or.inr ⟨rfl, rfl⟩))).tr fb0
          have hTbb : Tab mb := hTbc.fr (fun b j hb => fab b j (by unfold tabP at hb; unfold rdM mqP mwP; omega))
          have hMS : MS mb T t false E0 := by
            refine ⟨⟨hO2.mw fb, q3⟩, hTbb, ⟨?_, ?_, ?_⟩, ⟨⟨?_, ?_⟩, fun q hq => (by cases hq), fun q hq => (by cases hq), fun hq => hq.elim (fun q => by cases q) (fun q => by cases q), fun o ho => (by cases ho)⟩, trivial⟩
            · rw [hmb, rI_n _ _ (by omega), rI_n _ _ (by omega), rI_n _ _ (by omega), rI_n _ _ (by omega), rI_n _ _ (by omega), rI_s]
              rfl
            · rw [hmb, rI_n _ _ (by omega), rI_n _ _ (by omega), rI_n _ _ (by omega), rI_n _ _ (by omega), rI_s]
            · rw [hmb, rI_n _ _ (by omega), rI_n _ _ (by omega), rI_n _ _ (by omega), rI_s]
            · show rI mb 349 0 = _
              rw [hmb, rI_n _ _ (by omega), rI_n _ _ (by omega), rI_s]
              rfl
            · show rI mb 350 0 = _
              rw [hmb, rI_n _ _ (by omega), rI_s]
              exact (b2_f (fun q => q.elim (fun q => by cases q) (fun q => by cases q))).symm
          obtain ⟨m4, r1, r2, r3⟩ := m_run (N := N) (t := t) (z := z) (l1 := nI st) hN hz T false E0 0 N mb rfl (Nat.zero_le _) (by omega) hMS (L0_G z) hGd0 hTim0 hRun hm
          refine ⟨m4, fun R hR' => ?_, fab.tr (r2.mo (fun _ _ w => Or.inr (Or.inl w))), ⟨?_, ?_⟩, r3⟩
          · unfold F_X9_read
            refine e_rcv fmO ?_
            refine g_y (m_inR (n := 3) _ (by decide)) (inr hs (by decide)) ?_
            refine e_bnd (g1) ?_
            refine e_stI fmO ?_
            refine e_f (by rw [v1]; decide) ?_
            refine hml _ ?_
            refine e_stI fmO ?_
            refine e_stI fmO ?_
            refine e_stZ fmO (Or.inl rfl) ?_
            refine e_bnd (hbeg) ?_
            rw [← hmb]
            exact r1 R hR'
          · rw [r2.i (by unfold mwP; omega), fb.i (by unfold mwP; omega), rI_s]
            rfl
          · rw [r2.j (by unfold mwP; omega), fb.j (by unfold mwP; omega), rJ_wI, g2.j (by unfold mqP; omega)]
      cases hev : evr t T E0 with
      | inl f =>
        rw [hev] at w3
        have w3 : v = flv f.1 f.2 := w3
        have fc : Fr rdC m (wI m3 234 3 (nI 0)) := f3.sI (Or.inr (Or.inr ⟨rfl, rfl⟩))
        obtain ⟨m4, r1, r2, r3, r4⟩ := modl2 _ (Or.inl fc)
        rw [hev] at r4
        obtain ⟨r5, r6⟩ := r4
        refine ⟨flv f.1 f.2, wI m3 234 3 (nI 0), m4, startC2 _ ?_, r1 _ ?_, hR.read ((fc.mo (fun _ _ => Or.inl)).tr (r2.mo (fun _ _ => Or.inr))) ?_ r3.1⟩
        · rw [w3]
          exact j33 _ _ r6
        · unfold J_X9_read_151
          refine e_ldIV fmO (r5) ?_
          refine e_f (r6) ?_
          refine e_ldIV fmO (r5) ?_
          rfl
        · rw [r2.i (by unfold rdM mqP mwP; omega), rI_s]
          rfl
      | inr w =>
        rw [hev] at w3
        obtain ⟨hv, hsum⟩ := w3
        have gw := evr_gd T false E0 w (L0_G z) hGd0 hTim0 hRun hm hev
        have hgood := fK_good gw
        obtain ⟨s1, s2, s3, s4⟩ := pileS (i := 0) (by omega)
        have s1 : SumAt 246 := s1
        have s3 : RRf 244 0 = some 246 := s3
        have kw := kcs w.1 gw.1 w.1 gw.1
        -- the outcome
        have hout : ∃ m5, F_X4_outcome N 243 (S (wI m3 234 3 (nI 0))) = some (246, S m5) ∧ Fr (fun b j => b = 246 ∧ j = 0) (wI m3 234 3 (nI 0)) m5 ∧ SumC m5 246 (fK w) w.2 := by
          have hs0 : SumC (wI m3 234 3 (nI 0)) 246 w.1 w.2 := hsum.same (fun b j hb => ⟨rI_n _ _ (by omega), rfl⟩)
          by_cases y : w.1 = 2
          · have hst := c_settle (N := N) (m := wI m3 234 3 (nI 0)) s1 (by omega) 1
            have hcnt : cnt (fun k => rJ (wI m3 234 3 (nI 0)) (246 + 1) k ≠ 0) 29 = nt w.2 := cnt_c 29 (fun k hk => by
              have e : rJ (wI m3 234 3 (nI 0)) (246 + 1) k = (w.2 k).1 := congrArg Prod.fst (hs0.2 k hk)
              rw [e])
            rw [hcnt] at hst
            refine ⟨wI (wI m3 234 3 (nI 0)) 246 0 (if nt w.2 = 0 then 0 else 1), ?_, Fr.rf.sI ⟨rfl, rfl⟩, ⟨?_, fun j hj => hs0.2 j hj⟩⟩
            · unfold F_X4_outcome
              refine e_rcv fkO ?_
              refine e_ldR fkO fkR1 ?_
              refine e_alR pileA (by decide) (j := 0) rfl (by omega) s3 ?_
              refine e_ldIV s1.1 hs0.1 ?_
              refine e_t (kw.1.mpr y) ?_
              refine e_ldR fkO fkR1 ?_
              refine e_alR pileA (by decide) (j := 0) rfl (by omega) s3 ?_
              refine e_bnd (hst) ?_
              unfold J_X4_outcome_22
              refine e_ldR fkO fkR1 ?_
              refine e_alR pileA (by decide) (j := 0) rfl (by omega) s3 ?_
              rfl
            · rw [rI_s]
              unfold fK
              by_cases y0 : nt w.2 = 0
              · rw [if_pos y0, if_neg (fun q => q.2 y0), y]
                rfl
              · rw [if_neg y0, if_pos ⟨y, y0⟩]
                rfl
          · refine ⟨wI m3 234 3 (nI 0), ?_, Fr.rf, ?_⟩
            · unfold F_X4_outcome
              refine e_rcv fkO ?_
              refine e_ldR fkO fkR1 ?_
              refine e_alR pileA (by decide) (j := 0) rfl (by omega) s3 ?_
              refine e_ldIV s1.1 hs0.1 ?_
              refine e_f (fun q => y (kw.1.mp q)) ?_
              unfold J_X4_outcome_22
              refine e_ldR fkO fkR1 ?_
              refine e_alR pileA (by decide) (j := 0) rfl (by omega) s3 ?_
              rfl
            · have hk : fK w = w.1 := by unfold fK; exact if_neg (fun q => y q.1)
              rw [hk]
              exact hs0
        obtain ⟨m5, o1', o2, o3⟩ := hout
        obtain ⟨m6, p1, p2, p3, p4⟩ := c_put (N := N) (m := m5) (by omega) hs s1 (by omega) o3
        have f5 : Fr rdC m m5 := (f3.sI (Or.inr (Or.inr ⟨rfl, rfl⟩))).tr (o2.mo (fun b j w => Or.inr (Or.inl (by unfold wkP; omega))))
        have tC : F_X8_read N 0 (nI st) (S m) = some (nI (nt w.2), S m6) := by
          refine startC2 _ ?_
          unfold J_X8_read_33
          refine e_ldR fxO fxR3 ?_
          refine e_stI ftO ?_
          refine e_t (hv) ?_
          refine e_ldR fxO fxR8 ?_
          refine e_ldR fxO fxR4 ?_
          refine e_bnd o1' ?_
          refine e_bnd (p1) ?_
          rfl
        obtain ⟨m7, r1, r2, r3, r4⟩ := modl2 m6 (Or.inr ⟨m5, f5, p2.mo (fun b j w => by omega)⟩)
        rw [hev] at r4
        obtain ⟨r5, r6⟩ := r4
        -- into the model's store
        obtain ⟨m8, d1, d2, d3, d4⟩ := m_copyG (N := N) (m := m7) (p := 4) (q := st) (by omega) (by omega) (by omega)
        have hrow := d4 w r6
        have d1 : F_X9_copy N 322 4 (nI st) (S m7) = some ((), S m8) := d1
        have hnt := m_ntR (N := N) (u := st) (by omega) (by omega) hrow.1
        have hnl := nt_le w.2
        have tM : F_X9_read N 322 (nI st) (S m6) = some (nI (nt w.2), S (wI (wI m8 331 st (nI (fK w))) 330 st 1)) := by
          refine r1 _ ?_
          have j202 : J_X9_read_202 N 322 (nI st) 331 (nI st) (nI (fK w)) (S m8) = some (nI (nt w.2), S (wI (wI m8 331 st (nI (fK w))) 330 st 1)) := by
            unfold J_X9_read_202
            refine e_asI fmA10 (j := st) rfl (by omega) ?_
            refine e_ldR fmO fmR9 ?_
            refine e_asZ fmA9 (j := st) rfl (by omega) (Or.inr rfl) ?_
            refine e_bnd (m_ntR (N := N) (u := st) (o := w.2) (by omega) (by omega) hrow.1) ?_
            rfl
          have j196 : fK w = w.1 → J_X9_read_196 N 322 (nI st) 331 (nI st) (S m8) = some (nI (nt w.2), S (wI (wI m8 331 st (nI (fK w))) 330 st 1)) := by
            intro hk
            unfold J_X9_read_196
            refine e_ldR fmO fmR10 ?_
            refine e_alIV fmA10 (j := st) rfl (by omega) hrow.2 ?_
            rw [← hk]
            exact j202
          unfold J_X9_read_151
          refine e_ldIV fmO (r5) ?_
          refine e_t (rfl) ?_
          refine e_bnd (d1) ?_
          refine e_ldR fmO fmR10 ?_
          refine e_bnd (hnt) ?_
          by_cases y0 : nt w.2 = 0
          · refine e_t (by rw [y0]; exact Int32.le_refl _) ?_
            exact j196 (if_neg (fun q => q.2 y0))
          · refine e_f (by rw [leR (by decide) (by omega)]; show ¬ nt w.2 ≤ 0; omega) ?_
            refine e_ldR fmO fmR10 ?_
            refine e_alIV fmA10 (j := st) rfl (by omega) hrow.2 ?_
            have k3 := gw.1
            by_cases y2 : w.1 = 2
            · refine e_t (by rw [y2]; rfl) ?_
              have hk : fK w = 0 := if_pos ⟨y2, y0⟩
              rw [hk] at j202
              rw [hk]
              exact j202
            · refine e_f (by rw [eqR (by decide) (by omega)]; exact y2) ?_
              exact j196 (if_neg (fun q => y2 q.1))
        refine ⟨nI (nt w.2), m6, _, tC, tM, ?_⟩
        -- the relation again
        have hR1 : Rel (wI (wI m 234 3 (nI 0)) 322 13 (nI 0)) := hR.read ((Fr.rf.sI (Or.inl (Or.inr (Or.inr ⟨rfl, rfl⟩)))).sI (Or.inr (Or.inr (Or.inr ⟨rfl, rfl⟩)))) (by rw [rI_n _ _ (by omega), rI_s]; rfl) (rI_s _ _ _ _)
        have z1 : rI (wI (wI m8 331 st (nI (fK w))) 330 st 1) 234 3 = 0 := by
          rw [rI_n _ _ (by omega), rI_n _ _ (by omega), d2.i (by unfold rwP; omega), r2.i (by unfold rdM mqP mwP; omega), p2.i (by omega), o2.i (by omega), rI_s]
          rfl
        have z2 : rI (wI (wI m8 331 st (nI (fK w))) 330 st 1) 322 13 = 0 := by
          rw [rI_n _ _ (by omega), rI_n _ _ (by omega), d2.i (by unfold rwP; omega)]
          exact r3.1
        refine hR1.store hs (fun a j ha => ?_) (Or.inr ⟨fK w, w.2, ?_, rI_s _ _ _ _, hgood, ?_, ?_, fun j hj => ?_⟩)
        · have ha1 : prP a j := Classical.byContradiction (fun q => ha (Or.inl q))
          have ha2 : ¬ ((a = 290 ∧ j = st) ∨ (292 + 3 * st ≤ a ∧ a ≤ 292 + 3 * st + 2) ∨ (a = 330 ∧ j = st) ∨ (a = 331 ∧ j = st) ∨ ((a = 332 ∨ a = 333) ∧ 29 * st ≤ j ∧ j < 29 * st + 29)) := fun q => ha (Or.inr q)
          by_cases q1 : a = 234 ∧ j = 3
          · obtain ⟨rfl, rfl⟩ := q1
            refine ⟨?_, ?_⟩
            · rw [z1, rI_n _ _ (by omega), rI_s]
              rfl
            · rw [rJ_wI, rJ_wI, d2.j (by unfold rwP; omega), r2.j (by unfold rdM mqP mwP; omega), p2.j (by omega), rJ_wI, rJ_wI]
              by_cases q5 : rdC 234 3
              · rw [o2.j (by omega), rJ_wI, w2.j (by unfold wkP; omega), rJ_wI, c2.j (by unfold psP; omega)]
              · exact absurd (Or.inr (Or.inr ⟨rfl, rfl⟩)) q5
          · by_cases q2 : a = 322 ∧ j = 13
            · obtain ⟨rfl, rfl⟩ := q2
              refine ⟨?_, ?_⟩
              · rw [z2, rI_s]
                rfl
              · rw [rJ_wI, rJ_wI, d2.j (by unfold rwP; omega), r3.2, p2.j (by omega), f5.j (by unfold rdC psP wkP; omega), rJ_wI, rJ_wI]
            · have nC : ¬ rdC a j := fun q => by
                rcases rd_pr (Or.inl q) with v | v | v
                · exact q1 v
                · exact q2 v
                · exact v ha1
              have nM : ¬ rdM a j := fun q => by
                rcases rd_pr (Or.inr q) with v | v | v
                · exact q1 v
                · exact q2 v
                · exact v ha1
              rw [rI_n _ _ (by omega), rI_n _ _ (by omega), rJ_wI, rJ_wI, d2.i (by unfold rwP; omega), d2.j (by unfold rwP; omega), r2.i nM, r2.j nM, p2.i (by omega), p2.j (by omega), f5.i nC, f5.j nC, rI_n _ _ (by omega), rI_n _ _ (by omega), rJ_wI, rJ_wI]
              exact ⟨rfl, rfl⟩
        · rw [rI_n _ _ (by omega), rI_n _ _ (by omega), d2.i (by unfold rwP; omega), r2.i (by unfold rdM mqP mwP; omega)]
          exact p3
        · refine p4.same (fun b j hb => ?_)
          rw [rI_n _ _ (by omega), rI_n _ _ (by omega), rJ_wI, rJ_wI, d2.i (by unfold rwP; omega), d2.j (by unfold rwP; omega), r2.i (by unfold rdM mqP mwP; omega), r2.j (by unfold rdM mqP mwP; omega)]
          exact ⟨rfl, rfl⟩
        · rw [rI_n _ _ (by omega), rI_s]
        · exact hrow.1 j hj
end RDC
