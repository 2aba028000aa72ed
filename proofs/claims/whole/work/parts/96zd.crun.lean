section CRUN
variable {N z : Nat} {t : Nat → Nat} {m m' : vM} {s : vS}
def lw (e : LV) : List Vl := match e.1.2.1 with
  | none => []
  | some _ => [e.2.1]
def pp (e : LV) : List Vl := match e.1.2.2 with
  | none => []
  | some _ => [e.2.2]
def pilF : List LV → List Vl
  | [] => []
  | e :: r => pp e ++ (lw e ++ pilF r)
def pil (bh : Bool) (E : List LV) : List Vl := match bh, E with
  | true, e :: r => e.2.2 :: (lw e ++ pilF r)
  | _, E => pilF E
def erE (E : List LV) : List Lev := E.map (fun e => e.1)
theorem lw_le (e : LV) : (lw e).length ≤ 1 ∧ (pp e).length ≤ 1 := by
  unfold lw pp
  constructor
  · cases e.1.2.1
    · exact Nat.zero_le _
    · exact Nat.le_refl _
  · cases e.1.2.2
    · exact Nat.zero_le _
    · exact Nat.le_refl _
theorem pilF_le : ∀ E : List LV, (pilF E).length ≤ 2 * E.length
  | [] => Nat.le_refl 0
  | e :: r => by
    have h1 := lw_le e
    have h2 := pilF_le r
    show (pp e ++ (lw e ++ pilF r)).length ≤ 2 * (r.length + 1)
    rw [List.length_append, List.length_append]
    omega
def RunC (N : Nat) (O : List Tok) (i n : Nat) (m : vM) (Y : (Nat × Nat) ⊕ Vl) : Prop := ∃ m' v, H_X4_workOut_7 N n 243 234 (nI i) (S m) = some (v, S m') ∧ Fr wkP m m' ∧ match Y with
  | .inl e => v = flv e.1 e.2
  | .inr w => v = 0 ∧ SumC m' 246 w.1 w.2
theorem StepC.bad {O A : List Tok} {i n : Nat} {e : Nat × Nat} (h : StepC N O i n m A (.inl e)) : RunC N O i n m (.inl e) := by
  obtain ⟨m', g1, g2⟩ := h
  exact ⟨m', _, g1, g2, rfl⟩
theorem StepC.go {O A : List Tok} {i n : Nat} {st : List Vl} {Y : (Nat × Nat) ⊕ Vl} (h : StepC N O i n m A (.inr st)) (k : ∀ m' i' n', O.drop i' = A → CS m' O i' n' st → RunC N O i' n' m' Y) : RunC N O i n m Y := by
  obtain ⟨m1, i', n', g1, g2, g3, g4⟩ := h
  obtain ⟨m', v, k1, k2, k3⟩ := k m1 i' n' g3 g4
  exact ⟨m', v, g1.trans k1, g2.tr k2, k3⟩
theorem StepC.rf {O A : List Tok} {i n : Nat} {st : List Vl} (h : CS m O i n st) (hd : O.drop i = A) : StepC N O i n m A (.inr st) := ⟨m, i, n, rfl, Fr.rf, hd, h⟩
theorem ex_ep {O A : List Tok} {i n : Nat} {e : LV} {st : List Vl} (hN : 100 ≤ N) (h : CS m O i n (e.2.2 :: (lw e ++ st))) (hd : O.drop i = ep t e.1 ++ A) (ge : Gd e.2.1 ∧ Gd e.2.2) (hQ : ∀ q, e.1.2.1 = some q → t q = 43 ∨ t q = 45) : StepC N O i n m A (match epV t e with
    | .inl f => .inl f
    | .inr w => .inr (w :: st)) := by
  cases hg : e.1.2.1 with
  | none =>
    have h1 : epV t e = .inr e.2.2 := by unfold epV; rw [hg]
    have h2 : ep t e.1 = [] := by unfold ep; rw [hg]
    have h3 : lw e = [] := by unfold lw; rw [hg]
    rw [h2] at hd
    rw [h3] at h
    rw [h1]
    exact StepC.rf h hd
  | some q =>
    have hq := hQ q hg
    have h1 : epV t e = (match cmb (if t q = 45 then 1 else 0) e.2.1 e.2.2 with
      | .inl f => .inl (f, q)
      | .inr v => .inr v) := by
      unfold epV
      rw [hg]
      rfl
    have h2 : ep t e.1 = [(t q, q, 0, 0)] := by unfold ep; rw [hg]
    have h3 : lw e = [e.2.1] := by unfold lw; rw [hg]
    rw [h2] at hd
    rw [h3] at h
    rw [h1]
    have hs := ex_bin (N := N) (w := if t q = 45 then 1 else 0) hN h hd (by
      rcases hq with y | y
      · exact Or.inl ⟨y, if_neg (by omega)⟩
      · exact Or.inr (Or.inl ⟨y, if_pos y⟩)) ge.1 ge.2
    cases hc : cmb (if t q = 45 then 1 else 0) e.2.1 e.2.2 with
    | inl f => rw [hc] at hs; exact hs
    | inr v => rw [hc] at hs; exact hs
theorem ex_br {O A : List Tok} {i n : Nat} {g : Lev} {w : Vl} {st : List Vl} (hN : 100 ≤ N) (h : CS m O i n (w :: st)) (hd : O.drop i = br t g ++ A) (gw : Gd w) : StepC N O i n m A (match brV t g w with
    | .inl f => .inl f
    | .inr v => .inr (v :: st)) := by
  cases hg : g.1 with
  | none =>
    have h1 : brV t g w = .inr w := by unfold brV; rw [hg]
    have h2 : br t g = [] := by unfold br; rw [hg]
    rw [h2] at hd
    rw [h1]
    exact StepC.rf h hd
  | some o =>
    by_cases y : t o = 123
    · have h1 : brV t g w = (match avgV w with
        | .inl f => .inl (f, o)
        | .inr v => .inr v) := by
        unfold brV
        rw [hg]
        exact if_pos y
      have h2 : br t g = [(123, o, 0, 0)] := by
        unfold br
        rw [hg]
        exact if_pos y
      rw [h2] at hd
      rw [h1]
      have hs := ex_avg (N := N) hN h hd rfl gw
      cases hc : avgV w with
      | inl f => rw [hc] at hs; exact hs
      | inr v => rw [hc] at hs; exact hs
    · have h1 : brV t g w = .inr w := by
        unfold brV
        rw [hg]
        exact if_neg y
      have h2 : br t g = [] := by
        unfold br
        rw [hg]
        exact if_neg y
      rw [h2] at hd
      rw [h1]
      exact StepC.rf h hd
theorem ex_eo {O A : List Tok} {i n : Nat} {e : LV} {w : Vl} {st : List Vl} (hN : 100 ≤ N) (h : CS m O i n (w :: (pp e ++ st))) (hd : O.drop i = eo e.1 ++ A) (gw : Gd w) (ge : Gd e.2.2) : StepC N O i n m A (match cmV w e with
    | .inl f => .inl f
    | .inr e' => .inr (e'.2.2 :: st)) := by
  cases hg : e.1.2.2 with
  | none =>
    have h1 : cmV w e = .inr (e.1, e.2.1, w) := by unfold cmV; rw [hg]
    have h2 : eo e.1 = [] := by unfold eo; rw [hg]
    have h3 : pp e = [] := by unfold pp; rw [hg]
    rw [h2] at hd
    rw [h3] at h
    rw [h1]
    exact StepC.rf h hd
  | some q =>
    have h1 : cmV w e = (match cmb 2 e.2.2 w with
      | .inl f => .inl (f, q)
      | .inr v => .inr ((e.1.1, e.1.2.1, none), e.2.1, v)) := by
      unfold cmV
      rw [hg]
      rfl
    have h2 : eo e.1 = [(42, q, 0, 0)] := by unfold eo; rw [hg]
    have h3 : pp e = [e.2.2] := by unfold pp; rw [hg]
    rw [h2] at hd
    rw [h3] at h
    rw [h1]
    have hs := ex_bin (N := N) (w := 2) hN h hd (Or.inr (Or.inr ⟨rfl, rfl⟩)) ge gw
    cases hc : cmb 2 e.2.2 w with
    | inl f => rw [hc] at hs; exact hs
    | inr v => rw [hc] at hs; exact hs
theorem cmV_er {w : Vl} {e e' : LV} (k : cmV w e = .inr e') : e'.1 = (e.1.1, e.1.2.1, none) ∧ e'.2.1 = e.2.1 := by
  unfold cmV at k
  cases hg : e.1.2.2 with
  | none =>
    rw [hg] at k
    cases k
    exact ⟨by rw [← hg], rfl⟩
  | some q =>
    rw [hg] at k
    dsimp only at k
    cases hc : cmb 2 e.2.2 w with
    | inl f => rw [hc] at k; cases k
    | inr v => rw [hc] at k; cases k; exact ⟨rfl, rfl⟩
theorem cmV_lw {w : Vl} {e e' : LV} (k : cmV w e = .inr e') : lw e' = lw e := by
  obtain ⟨h1, h2⟩ := cmV_er k
  unfold lw
  rw [h1, h2]
/-- what a sign may be, its value -/
theorem ok_val {L : List Lev} {x : Tok} (k : Ok t z false L x) (hm : mis [x] = none) (h1 : x.1 = 48 ∨ x.1 = 91 ∨ x.1 = 60) : (x.1 = 91 ∧ ∃ k, k < 19 ∧ x.2.2.1 = nI k) ∨ (x.1 = 60 ∧ ∃ k, k < 29 ∧ x.2.2.1 = nI k) ∨ (x.1 = 48 ∧ ∃ u v, u < 1000 ∧ 0 < v ∧ v < 1000 ∧ x.2.2 = (nI u, nI v)) := by
  have hno : (x.1 = 91 ∨ x.1 = 60) → ¬ x.2.2.1 = -1 := fun h e => by
    rw [mis, if_pos ⟨h, e⟩] at hm
    cases hm
  obtain ⟨_, k⟩ := k
  rcases k with ⟨k, _⟩ | ⟨_, k⟩
  · cases k
  · rcases k with ⟨_, k, _⟩ | ⟨k, kn⟩ | ⟨k, kn⟩ | k
    · omega
    · exact Or.inl ⟨k, kn.2.resolve_left (hno (Or.inl k))⟩
    · exact Or.inr (Or.inl ⟨k, kn.2.resolve_left (hno (Or.inr k))⟩)
    · exact Or.inr (Or.inr k)
theorem mis_c {x : Tok} {T : List Tok} (h : mis (x :: T) = none) : mis [x] = none ∧ mis T = none := by
  rw [show x :: T = [x] ++ T from rfl, mis_app] at h
  cases hx : mis [x] with
  | none => rw [hx] at h; exact ⟨rfl, h⟩
  | some p => rw [hx] at h; cases h
def TimN (bh : Bool) (E : List LV) : Prop := bh = true → ∀ e r, E = e :: r → e.1.2.2 = none
theorem c_run {O : List Tok} (hN : 100 ≤ N) : ∀ (T : List Tok) (bh : Bool) (E : List LV) (i n : Nat) (m : vM), LevG t z (erE E) → GdE E → TimN bh E → Run t z T bh (erE E) → mis T = none → O.drop i = ems t T (erE E) → CS m O i n (pil bh E) → RunC N O i n m (evr t T E)
  | [], bh, E, i, n, m, hG, hE, hT, hR, hM, hd, h => by
    obtain ⟨hb, hl⟩ := hR
    have hl : E.length = 1 := by unfold erE at hl; rw [List.length_map] at hl; exact hl
    match E, hl with
    | [e], _ =>
      rw [hb] at h
      have h : CS m O i n (e.2.2 :: (lw e ++ [])) := h
      have hd : O.drop i = ep t e.1 ++ [] := by rw [List.append_nil]; exact hd
      have hs := ex_ep (N := N) hN h hd (hE e List.mem_cons_self) (hG.2.2.2 e.1 List.mem_cons_self).1
      show RunC N O i n m (epV t e)
      cases hc : epV t e with
      | inl f => rw [hc] at hs; exact hs.bad
      | inr w =>
        rw [hc] at hs
        refine hs.go (fun m' i' n' g1 g2 => ?_)
        obtain ⟨h1, h2, h3, h4, h5⟩ := g2
        have hi : O.length ≤ i' := by
          rcases Nat.lt_or_ge i' O.length with y | y
          · rw [List.drop_eq_getElem_cons y] at g1; cases g1
          · exact y
        obtain ⟨n', rfl⟩ : ∃ k, n' = k + 1 := ⟨n' - 1, by omega⟩
        refine ⟨m', 0, ?_, Fr.rf, rfl, h5.2.2.1⟩
        refine Eq.trans u_H_X4_workOut_7 ?_
        refine e_ldIV ftO (h1.1) ?_
        exact e_t (by rw [nI_leI (by omega) (by omega)]; exact hi) rfl
  | x :: T, bh, E, i, n, m, hG, hE, hT, hR, hM, hd, h => by
    obtain ⟨hok, hR2⟩ := hR
    obtain ⟨hm1, hm2⟩ := mis_c hM
    have hG2 := ok_lev hG hok
    have hEl : E.length ≤ 4 := by have := hG.2.1; unfold erE at this; rw [List.length_map] at this; exact this
    match E, hG, hE, hT, hok, hR2, hG2, hd, h, hEl with
    | [], hG, _, _, _, _, _, _, _, _ => exact hG.1.elim
    | e :: r, hG, hE, hT, hok, hR2, hG2, hd, h, hEl =>
      have her : erE (e :: r) = e.1 :: erE r := rfl
      rw [her] at hR2 hG2 hd hok
      have ge := hE e List.mem_cons_self
      have gr_ : GdE r := fun y hy => hE y (List.mem_cons_of_mem _ hy)
      have hle := pilF_le (e :: r)
      have hd0 : O.drop i = emi t x (e.1 :: erE r) ++ ems t T (lvn x (e.1 :: erE r)) := hd
      have hevr : evr t (x :: T) (e :: r) = bnS (evt t x (e :: r)) (fun E' => evr t T E') := rfl
      rw [hevr]
      have one : bh = false → (x.1 = 48 ∨ x.1 = 91 ∨ x.1 = 60) → RunC N O i n m (bnS (evt t x (e :: r)) (fun E' => evr t T E')) := by
        intro hb hx
        rw [hb] at h hok
        obtain ⟨e1, e2, e3⟩ := emi_n (t := t) (g := e.1) (r := erE r) hx
        rw [e1] at hd0
        rw [e2] at hd0 hR2 hG2
        rw [e3] at hR2
        have hev : evt t x (e :: r) = bnS (cmV (valV x) e) (fun e' => .inr (e' :: r)) := if_pos hx
        have hval := ok_val hok hm1 hx
        have gv_ := valV_gd hval
        have hd1 : O.drop i = x :: (eo e.1 ++ ems t T ((e.1.1, e.1.2.1, none) :: erE r)) := by rw [hd0]; rfl
        have h : CS m O i n (pilF (e :: r)) := h
        have s1 := ex_push (N := N) hN h hd1 (by have : (e :: r).length ≤ 4 := hEl; omega) hval
        refine s1.go (fun m1 i1 n1 g1 g2 => ?_)
        have s2 := ex_eo (N := N) hN (e := e) (st := lw e ++ pilF r) g2 g1 gv_ ge.2
        rw [hev]
        cases hc : cmV (valV x) e with
        | inl f => rw [hc] at s2; exact s2.bad
        | inr e' =>
          rw [hc] at s2
          obtain ⟨q1, q2⟩ := cmV_er hc
          refine s2.go (fun m2 i2 n2 g3 g4 => ?_)
          have her2 : erE (e' :: r) = (e.1.1, e.1.2.1, none) :: erE r := by rw [← q1]; rfl
          have gg := cmV_gd gv_ ge hc
          refine c_run hN T true (e' :: r) i2 n2 m2 (by rw [her2]; exact hG2) (fun y hy => ?_) (fun _ y z' hy => ?_) (by rw [her2]; exact hR2) hm2 (by rw [her2]; exact g3) (by rw [← cmV_lw hc] at g4; exact g4)
          · rcases List.mem_cons.mp hy with rfl | hy
            · exact gg
            · exact gr_ y hy
          · cases hy
            rw [q1]
      obtain ⟨okz, ok⟩ := id hok
      rcases ok with ⟨hb, kt, ok⟩ | ⟨hb, ok⟩
      · have htim := hT hb e r rfl
        rw [hb] at h
        have h : CS m O i n (e.2.2 :: (lw e ++ pilF r)) := h
        have hQe := (hG.2.2.2 e.1 List.mem_cons_self).1
        rcases ok with hcl | hop
        · -- closing
          obtain ⟨⟨g2, r2, hr2⟩, hc, o, ho⟩ := cls_r hG.1 (show cls t e.1 x.1 from hcl)
          match r, hr2, hG, hE, hT, hok, hR2, hG2, hd0, h, hEl, gr_ with
          | e2 :: r', hr2, hG, hE, hT, hok, hR2, hG2, hd0, h, hEl, gr_ =>
            have her2 : erE (e2 :: r') = e2.1 :: erE r' := rfl
            rw [her2] at hd0 hR2 hG2
            obtain ⟨c1, c2, c3⟩ := emi_c (t := t) (g := e.1) (g2 := e2.1) (r := erE r') hc
            rw [c1] at hd0
            rw [c2] at hd0 hR2 hG2
            rw [c3] at hR2
            have ge2 := gr_ e2 List.mem_cons_self
            have hev : evt t x (e :: e2 :: r') = bnS (epV t e) (fun w => bnS (brV t e.1 w) (fun w' => bnS (cmV w' e2) (fun e' => .inr (e' :: r')))) := (if_neg (by omega)).trans ((if_neg (by omega)).trans ((if_neg (by omega)).trans (if_pos hc)))
            rw [hev]
            have hd1 : O.drop i = ep t e.1 ++ (br t e.1 ++ (eo e2.1 ++ ems t T ((e2.1.1, e2.1.2.1, none) :: erE r'))) := by
              rw [hd0, List.append_assoc, List.append_assoc]
            have s1 := ex_ep (N := N) hN h hd1 ge hQe
            cases hc1 : epV t e with
            | inl f => rw [hc1] at s1; exact s1.bad
            | inr w =>
              rw [hc1] at s1
              have gw := epV_gd ge hc1
              refine s1.go (fun m1 i1 n1 g1 g2 => ?_)
              have s2 := ex_br (N := N) (g := e.1) hN g2 g1 gw
              show RunC N O i1 n1 m1 (bnS (bnS (brV t e.1 w) (fun w' => bnS (cmV w' e2) (fun e' => .inr (e' :: r')))) (fun E' => evr t T E'))
              cases hc2 : brV t e.1 w with
              | inl f => rw [hc2] at s2; exact s2.bad
              | inr w' =>
                rw [hc2] at s2
                have gw' := brV_gd gw hc2
                refine s2.go (fun m2 i2 n2 g3 g4 => ?_)
                have s3 := ex_eo (N := N) hN (e := e2) (st := lw e2 ++ pilF r') g4 g3 gw' ge2.2
                show RunC N O i2 n2 m2 (bnS (bnS (cmV w' e2) (fun e' => .inr (e' :: r'))) (fun E' => evr t T E'))
                cases hc3 : cmV w' e2 with
                | inl f => rw [hc3] at s3; exact s3.bad
                | inr e' =>
                  rw [hc3] at s3
                  obtain ⟨q1, q2⟩ := cmV_er hc3
                  refine s3.go (fun m3 i3 n3 g5 g6 => ?_)
                  have her3 : erE (e' :: r') = (e2.1.1, e2.1.2.1, none) :: erE r' := by rw [← q1]; rfl
                  have gg := cmV_gd gw' ge2 hc3
                  refine c_run hN T true (e' :: r') i3 n3 m3 (by rw [her3]; exact hG2) (fun y hy => ?_) (fun _ y z' hy => ?_) (by rw [her3]; exact hR2) hm2 (by rw [her3]; exact g5) (by rw [← cmV_lw hc3] at g6; exact g6)
                  · rcases List.mem_cons.mp hy with rfl | hy
                    · exact gg
                    · exact gr_ y (List.mem_cons_of_mem _ hy)
                  · cases hy
                    rw [q1]
        · by_cases y : x.1 = 42
          · -- times
            obtain ⟨c1, c2, c3⟩ := emi_t (t := t) (g := e.1) (r := erE r) y
            rw [c1] at hd0
            rw [c2] at hd0 hR2 hG2
            rw [c3] at hR2
            have hev : evt t x (e :: r) = .inr (((e.1.1, e.1.2.1, some x.2.1), e.2.1, e.2.2) :: r) := (if_neg (by omega)).trans (if_pos y)
            rw [hev]
            refine c_run hN T false (((e.1.1, e.1.2.1, some x.2.1), e.2.1, e.2.2) :: r) i n m hG2 (fun y hy => ?_) (fun q => by cases q) hR2 hm2 hd0 h
            rcases List.mem_cons.mp hy with rfl | hy
            · exact ge
            · exact gr_ y hy
          · -- plus, less
            have y : x.1 = 43 ∨ x.1 = 45 := by
              rcases hop with q | q | q
              · exact Or.inl q
              · exact Or.inr q
              · exact absurd q y
            obtain ⟨c1, c2, c3⟩ := emi_s (t := t) (g := e.1) (r := erE r) y
            rw [c1] at hd0
            rw [c2] at hd0 hR2 hG2
            rw [c3] at hR2
            have hev : evt t x (e :: r) = bnS (epV t e) (fun w => .inr (((e.1.1, some x.2.1, e.1.2.2), w, e.2.2) :: r)) := (if_neg (by omega)).trans ((if_neg (by omega)).trans (if_pos y))
            rw [hev]
            have s1 := ex_ep (N := N) hN h hd0 ge hQe
            cases hc1 : epV t e with
            | inl f => rw [hc1] at s1; exact s1.bad
            | inr w =>
              rw [hc1] at s1
              have gw := epV_gd ge hc1
              refine s1.go (fun m1 i1 n1 g1 g2 => ?_)
              have hpp : pp ((e.1.1, some x.2.1, e.1.2.2), w, e.2.2) = [] := by unfold pp; rw [htim]
              refine c_run hN T false (((e.1.1, some x.2.1, e.1.2.2), w, e.2.2) :: r) i1 n1 m1 hG2 (fun y hy => ?_) (fun q => by cases q) hR2 hm2 g1 ?_
              · rcases List.mem_cons.mp hy with rfl | hy
                · exact ⟨gw, ge.2⟩
                · exact gr_ y hy
              · show CS m1 O i1 n1 (pp ((e.1.1, some x.2.1, e.1.2.2), w, e.2.2) ++ ([w] ++ pilF r))
                rw [hpp]
                exact g2
      · rcases ok with ⟨kt, ko, kl⟩ | ⟨k, _⟩ | ⟨k, _⟩ | ⟨k, _⟩
        · -- opening
          rw [hb] at h
          obtain ⟨c1, c2, c3⟩ := emi_o (t := t) (g := e.1) (r := erE r) ko
          rw [c1] at hd0
          rw [c2] at hd0 hR2 hG2
          rw [c3] at hR2
          have hev : evt t x (e :: r) = .inr (((some x.2.1, none, none), V0, V0) :: e :: r) := (if_neg (by omega)).trans ((if_neg (by omega)).trans ((if_neg (by omega)).trans (if_neg (by omega))))
          rw [hev]
          refine c_run hN T false (((some x.2.1, none, none), V0, V0) :: e :: r) i n m hG2 (fun y hy => ?_) (fun q => by cases q) hR2 hm2 hd0 h
          rcases List.mem_cons.mp hy with rfl | hy
          · exact ⟨V0_gd, V0_gd⟩
          · exact hE y hy
        · exact one hb (by omega)
        · exact one hb (by omega)
        · exact one hb (by omega)
end CRUN
