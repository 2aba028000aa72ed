section RD8
variable {N z a : Nat} {t : Nat → Nat} {m m' : vM} {s : vS}
/-! what a text's signs are -/
def netK (q : Bool) (x : Tok) : Prop := x.2.2.2 = 0 ∧ (x.2.2.1 = -1 ∨ ∃ k, k < mny q ∧ x.2.2.1 = nI k)
def LevQ (t : Nat → Nat) (L : List Lev) : Prop := ∀ g, g ∈ L → (∀ q, g.2.1 = some q → t q = 43 ∨ t q = 45) ∧ (∀ o, g.1 = some o → t o = 40 ∨ t o = 123)
def LevG (t : Nat → Nat) (z : Nat) (L : List Lev) : Prop := LevW L ∧ L.length ≤ 4 ∧ LevP z L ∧ LevQ t L
def Ok (t : Nat → Nat) (z : Nat) (bh : Bool) (L : List Lev) (x : Tok) : Prop := x.2.1 < z ∧ ((bh = true ∧ x.1 = t x.2.1 ∧ (cls t (hd L) x.1 ∨ opr x.1)) ∨ (bh = false ∧ ((x.1 = t x.2.1 ∧ (x.1 = 40 ∨ x.1 = 123) ∧ L.length < 4) ∨ (x.1 = 91 ∧ netK false x) ∨ (x.1 = 60 ∧ netK true x) ∨ (x.1 = 48 ∧ ∃ u v, u < 1000 ∧ 0 < v ∧ v < 1000 ∧ x.2.2 = (nI u, nI v)))))
def Run (t : Nat → Nat) (z : Nat) : List Tok → Bool → List Lev → Prop
  | [], bh, L => bh = true ∧ L.length = 1
  | x :: T, bh, L => Ok t z bh L x ∧ Run t z T (bhn x) (lvn x L)
theorem LevW.cons {L : List Lev} {o : Nat} (h : LevW L) {u v : Option Nat} : LevW ((some o, u, v) :: L) := by
  match L, h with
  | x :: y, h => exact ⟨⟨o, rfl⟩, h⟩
theorem LevQ.top {g g' : Lev} {r : List Lev} (h : LevQ t (g :: r)) (e : (∀ q, g'.2.1 = some q → t q = 43 ∨ t q = 45) ∧ (∀ o, g'.1 = some o → t o = 40 ∨ t o = 123)) : LevQ t (g' :: r) := fun x hx => by
  rcases List.mem_cons.mp hx with rfl | hx
  · exact e
  · exact h x (List.mem_cons_of_mem _ hx)
theorem cls_r {g : Lev} {r : List Lev} {c : Nat} (hW : LevW (g :: r)) (h : cls t g c) : (∃ g2 r', r = g2 :: r') ∧ (c = 41 ∨ c = 125) ∧ ∃ o, g.1 = some o := by
  have hc : c = 41 ∨ c = 125 := h.elim (fun w => Or.inl w.2) (fun w => Or.inr w.2)
  cases hg : g.1 with
  | none =>
    exfalso
    unfold cls opc at h
    rw [hg] at h
    rcases h with w | w
    · exact absurd (show 0 = 40 from w.1) (by decide)
    · exact absurd (show 0 = 123 from w.1) (by decide)
  | some o =>
    refine ⟨?_, hc, o, rfl⟩
    match r, hW with
    | [], hW =>
      have hW : g.1 = none := hW
      rw [hg] at hW
      cases hW
    | x :: y, _ => exact ⟨x, y, rfl⟩
theorem LevP.tail {g : Lev} {r : List Lev} (h : LevP z (g :: r)) : LevP z r := fun x hx => h x (List.mem_cons_of_mem _ hx)
theorem LevQ.tail {g : Lev} {r : List Lev} (h : LevQ t (g :: r)) : LevQ t r := fun x hx => h x (List.mem_cons_of_mem _ hx)
theorem LevW.tail {g g2 : Lev} {r : List Lev} (h : LevW (g :: g2 :: r)) : LevW (g2 :: r) := h.2
theorem ok_lev {bh : Bool} {L : List Lev} {x : Tok} (h : LevG t z L) (k : Ok t z bh L x) : LevG t z (lvn x L) := by
  obtain ⟨hW, h4, hP, hQ⟩ := h
  obtain ⟨kz, k⟩ := k
  match L, hW with
  | g :: r, hW =>
    have pg := hP g List.mem_cons_self
    have qg := hQ g List.mem_cons_self
    have one : (x.1 = 48 ∨ x.1 = 91 ∨ x.1 = 60) → LevG t z (lvn x (g :: r)) := fun w => by
      rw [(emi_n (t := t) w).2.1]
      exact ⟨hW.top rfl, h4, hP.top (fun p hp => by
        rcases hp with hp | hp | hp
        · exact pg p (Or.inl hp)
        · exact pg p (Or.inr (Or.inl hp))
        · cases hp), hQ.top qg⟩
    rcases k with ⟨_, kt, k⟩ | ⟨_, k⟩
    · rcases k with k | k
      · obtain ⟨⟨g2, r', rfl⟩, hc, o, ho⟩ := cls_r hW k
        rw [(emi_c (t := t) hc).2.1]
        refine ⟨hW.tail.top rfl, by have : (g :: g2 :: r').length = r'.length + 2 := rfl; show r'.length + 1 ≤ 4; omega, hP.tail.top (fun p hp => ?_), hQ.tail.top (hQ.tail g2 List.mem_cons_self)⟩
        rcases hp with hp | hp | hp
        · exact hP.tail g2 List.mem_cons_self p (Or.inl hp)
        · exact hP.tail g2 List.mem_cons_self p (Or.inr (Or.inl hp))
        · cases hp
      · by_cases w : x.1 = 42
        · rw [(emi_t (t := t) w).2.1]
          refine ⟨hW.top rfl, h4, hP.top (fun p hp => ?_), hQ.top qg⟩
          rcases hp with hp | hp | hp
          · exact pg p (Or.inl hp)
          · exact pg p (Or.inr (Or.inl hp))
          · cases hp; exact kz
        · have w : x.1 = 43 ∨ x.1 = 45 := by unfold opr at k; omega
          rw [(emi_s (t := t) w).2.1]
          refine ⟨hW.top rfl, h4, hP.top (fun p hp => ?_), hQ.top ⟨fun q hq => ?_, qg.2⟩⟩
          · rcases hp with hp | hp | hp
            · exact pg p (Or.inl hp)
            · cases hp; exact kz
            · exact pg p (Or.inr (Or.inr hp))
          · cases hq
            omega
    · rcases k with ⟨kt, k, kl⟩ | ⟨k, _⟩ | ⟨k, _⟩ | ⟨k, _⟩
      · rw [(emi_o (t := t) k).2.1]
        refine ⟨hW.cons, by show (g :: r).length + 1 ≤ 4; omega, fun y hy p hp => ?_, fun y hy => ?_⟩
        · rcases List.mem_cons.mp hy with rfl | hy
          · rcases hp with hp | hp | hp
            · cases hp; exact kz
            · cases hp
            · cases hp
          · exact hP y hy p hp
        · rcases List.mem_cons.mp hy with rfl | hy
          · refine ⟨fun q hq => absurd (show (none : Option Nat) = some q from hq) (fun w => by cases w), fun o ho => ?_⟩
            cases ho
            omega
          · exact hQ y hy
      · exact one (by omega)
      · exact one (by omega)
      · exact one (by omega)
theorem netV_k (q : Bool) (f e : Nat) : netV q t f e = -1 ∨ ∃ k, k < mny q ∧ netV q t f e = nI k := by
  unfold netV
  by_cases w : sh_ q ≤ dgt t f ∧ dgt t f ≤ 4 ∧ (e - f) % 2 = 1
  · rw [if_pos w]
    cases hp : pco t (dgt t f) f ((e - f) / 2) with
    | none => exact Or.inl rfl
    | some c => exact Or.inr ⟨_, (nuc q _ c (by omega) w.1 (pco_lt (by omega) _ _ hp)).1, rfl⟩
  · rw [if_neg w]
    exact Or.inl rfl
theorem tkN_ok {q : Bool} {cl a' : Nat} {v : Int32} (ha : a < z) (h : tkN q t z a cl = .inr (v, a')) : (v = -1 ∨ ∃ k, k < mny q ∧ v = nI k) ∧ a < a' ∧ a' ≤ z := by
  obtain ⟨e1, e2, e3, e4⟩ := ef_sp (t := t) (z := z) (i := a + 1) (by omega)
  unfold tkN at h
  cases hb : bdf (a + 1) (ef t z (a + 1)) 9 with
  | some b => rw [hb] at h; cases h
  | none =>
    rw [hb] at h
    dsimp only at h
    by_cases w : ef t z (a + 1) < z ∧ t (ef t z (a + 1)) = cl
    · rw [if_pos w] at h
      cases h
      exact ⟨netV_k _ _ _, by omega, by omega⟩
    · rw [if_neg w] at h; cases h
theorem num_lt {f e : Nat} (hf : ∀ j, f ≤ j → j < e → fig t z j) (h : e - f ≤ 3) : num t f e < 1000 := by
  have hlt : nmb t (e - f) f 0 < 1 * 10 ^ (e - f) := nmb_lt _ _ _ _ (by omega) (fun j j1 j2 => (hf j j1 (by omega)).2.2)
  have hp : 10 ^ (e - f) ≤ 10 ^ 3 := Nat.pow_le_pow_right (by decide) h
  unfold num
  omega
theorem tkF_ok {u v a' : Nat} (ha : a < z) (h : tkF t z a = .inr (u, v, a')) : u < 1000 ∧ 0 < v ∧ v < 1000 ∧ a < a' ∧ a' ≤ z := by
  obtain ⟨e1, e2, e3, e4⟩ := ef_sp (t := t) (z := z) (i := a) (by omega)
  unfold tkF at h
  cases hb : bdf a (ef t z a) 3 with
  | some b => rw [hb] at h; cases h
  | none =>
    have hbn := bdf_n hb
    rw [hb] at h
    dsimp only at h
    have hu := num_lt e3 hbn.2
    by_cases w : ef t z a < z ∧ t (ef t z a) = 47
    · rw [if_pos w] at h
      obtain ⟨c1, c2, c3, c4⟩ := ef_sp (t := t) (z := z) (i := ef t z a + 1) (by omega)
      unfold tkB at h
      cases hb2 : bdf (ef t z a + 1) (ef t z (ef t z a + 1)) 3 with
      | some b => rw [hb2] at h; cases h
      | none =>
        have hbn2 := bdf_n hb2
        rw [hb2] at h
        dsimp only at h
        have hv := num_lt c3 hbn2.2
        by_cases y : num t (ef t z a + 1) (ef t z (ef t z a + 1)) = 0
        · rw [if_pos y] at h; cases h
        · rw [if_neg y] at h
          cases h
          omega
    · rw [if_neg w] at h
      cases h
      omega
theorem tkn_ok {bh : Bool} {L : List Lev} {x : Tok} {a' : Nat} (ha : a < z) (h : tkn t z a bh L = .inr (x, a')) : Ok t z bh L x ∧ a < a' ∧ a' ≤ z ∧ x.2.1 = a := by
  unfold tkn at h
  cases bh with
  | true =>
    rw [if_pos rfl] at h
    by_cases w : cls t (hd L) (t a) ∨ opr (t a)
    · rw [if_pos w] at h
      cases h
      exact ⟨⟨ha, Or.inl ⟨rfl, rfl, w⟩⟩, by omega, ha, rfl⟩
    · rw [if_neg w] at h; cases h
  | false =>
    rw [if_neg (by decide)] at h
    by_cases w : t a = 40 ∨ t a = 123
    · rw [if_pos w] at h
      by_cases w2 : L.length < 4
      · rw [if_pos w2] at h
        cases h
        exact ⟨⟨ha, Or.inr ⟨rfl, Or.inl ⟨rfl, w, w2⟩⟩⟩, by omega, ha, rfl⟩
      · rw [if_neg w2] at h; cases h
    · rw [if_neg w] at h
      by_cases w1 : t a = 91
      · rw [if_pos w1] at h
        cases hk : tkN false t z a 93 with
        | inl b => rw [hk] at h; cases h
        | inr y =>
          obtain ⟨v, b⟩ := y
          rw [hk] at h
          cases h
          obtain ⟨n1, n2, n3⟩ := tkN_ok ha hk
          exact ⟨⟨ha, Or.inr ⟨rfl, Or.inr (Or.inl ⟨rfl, rfl, n1⟩)⟩⟩, n2, n3, rfl⟩
      · rw [if_neg w1] at h
        by_cases w2 : t a = 60
        · rw [if_pos w2] at h
          cases hk : tkN true t z a 62 with
          | inl b => rw [hk] at h; cases h
          | inr y =>
            obtain ⟨v, b⟩ := y
            rw [hk] at h
            cases h
            obtain ⟨n1, n2, n3⟩ := tkN_ok ha hk
            exact ⟨⟨ha, Or.inr ⟨rfl, Or.inr (Or.inr (Or.inl ⟨rfl, rfl, n1⟩))⟩⟩, n2, n3, rfl⟩
        · rw [if_neg w2] at h
          cases hk : tkF t z a with
          | inl b => rw [hk] at h; cases h
          | inr y =>
            obtain ⟨u, v, b⟩ := y
            rw [hk] at h
            cases h
            obtain ⟨n1, n2, n3, n4, n5⟩ := tkF_ok ha hk
            exact ⟨⟨ha, Or.inr ⟨rfl, Or.inr (Or.inr (Or.inr ⟨rfl, u, v, n1, n2, n3, rfl⟩))⟩⟩, n4, n5, rfl⟩
theorem pars_bad {f b : Nat} {bh : Bool} {L : List Lev} (ha : a < z) (h : tkn t z a bh L = .inl b) : pars t z (f + 1) a bh L = (some b, []) := by
  rw [pars, if_pos ha, h]
theorem pars_ok {f a' : Nat} {x : Tok} {bh : Bool} {L : List Lev} (ha : a < z) (h : tkn t z a bh L = .inr (x, a')) : pars t z (f + 1) a bh L = ((pars t z f a' (bhn x) (lvn x L)).1, x :: (pars t z f a' (bhn x) (lvn x L)).2) := by
  rw [pars, if_pos ha, h]
theorem pars_end {f : Nat} {bh : Bool} {L : List Lev} (ha : ¬ a < z) : pars t z (f + 1) a bh L = (if bh = true ∧ L.length = 1 then none else some z, []) := by
  rw [pars, if_neg ha]
theorem pars_run : ∀ (f a : Nat) (bh : Bool) (L : List Lev), (pars t z f a bh L).1 = none → Run t z (pars t z f a bh L).2 bh L
  | 0, a, bh, L, h => by cases h
  | f + 1, a, bh, L, h => by
    by_cases w : a < z
    · cases hk : tkn t z a bh L with
      | inl b => rw [pars_bad w hk] at h; cases h
      | inr y =>
        obtain ⟨x, a'⟩ := y
        rw [pars_ok w hk] at h ⊢
        exact ⟨(tkn_ok w hk).1, pars_run f a' _ _ h⟩
    · rw [pars_end w] at h ⊢
      by_cases y : bh = true ∧ L.length = 1
      · exact y
      · rw [if_neg y] at h; cases h
/-- the networks that there are not stand in the orders as in the text -/
theorem mis_app : ∀ (A B : List Tok), mis (A ++ B) = match mis A with
    | some p => some p
    | none => mis B
  | [], B => rfl
  | x :: A, B => by
    show (if (x.1 = 91 ∨ x.1 = 60) ∧ x.2.2.1 = -1 then some x.2.1 else mis (A ++ B)) = _
    rw [mis_app A B, mis]
    by_cases w : (x.1 = 91 ∨ x.1 = 60) ∧ x.2.2.1 = -1
    · rw [if_pos w, if_pos w]
    · rw [if_neg w, if_neg w]
theorem mis_1 {x : Tok} (h : ¬ (x.1 = 91 ∨ x.1 = 60)) (r : List Tok) : mis (x :: r) = mis r := by
  rw [mis, if_neg (fun w => h w.1)]
theorem mis_eo (g : Lev) : mis (eo g) = none := by
  unfold eo
  cases g.2.2 with
  | none => rfl
  | some q => exact mis_1 (by show ¬ (42 = 91 ∨ 42 = 60); omega) _
theorem mis_ep {g : Lev} (h : ∀ q, g.2.1 = some q → t q = 43 ∨ t q = 45) : mis (ep t g) = none := by
  unfold ep
  cases hg : g.2.1 with
  | none => rfl
  | some q =>
    have := h q hg
    exact mis_1 (by show ¬ (t q = 91 ∨ t q = 60); omega) _
theorem mis_br (g : Lev) : mis (br t g) = none := by
  unfold br
  cases g.1 with
  | none => rfl
  | some o =>
    dsimp only
    split
    · exact mis_1 (by show ¬ (123 = 91 ∨ 123 = 60); omega) _
    · rfl
theorem mis_emi {bh : Bool} {L : List Lev} {x : Tok} (h : LevG t z L) (k : Ok t z bh L x) : mis (emi t x L) = mis [x] := by
  obtain ⟨hW, h4, hP, hQ⟩ := h
  obtain ⟨kz, k⟩ := k
  match L, hW with
  | g :: r, hW =>
    have qg := hQ g List.mem_cons_self
    have one : (x.1 = 48 ∨ x.1 = 91 ∨ x.1 = 60) → mis (emi t x (g :: r)) = mis [x] := fun w => by
      rw [(emi_n (t := t) w).1, show x :: eo g = [x] ++ eo g from rfl, mis_app, mis_eo]
      cases mis [x] <;> rfl
    rcases k with ⟨_, kt, k⟩ | ⟨_, k⟩
    · rcases k with k | k
      · obtain ⟨⟨g2, r', rfl⟩, hc, o, ho⟩ := cls_r hW k
        rw [(emi_c (t := t) hc).1, mis_app, mis_app, mis_ep qg.1, mis_br, mis_eo, mis_1 (by omega)]
        rfl
      · by_cases w : x.1 = 42
        · rw [(emi_t (t := t) w).1, mis_1 (by omega)]
        · have w : x.1 = 43 ∨ x.1 = 45 := by unfold opr at k; omega
          rw [(emi_s (t := t) w).1, mis_ep qg.1, mis_1 (by omega)]
          rfl
    · rcases k with ⟨kt, k, kl⟩ | ⟨k, _⟩ | ⟨k, _⟩ | ⟨k, _⟩
      · rw [(emi_o (t := t) k).1, mis_1 (by omega)]
      · exact one (by omega)
      · exact one (by omega)
      · exact one (by omega)
theorem mis_ems : ∀ (T : List Tok) (bh : Bool) (L : List Lev), LevG t z L → Run t z T bh L → mis (ems t T L) = mis T
  | [], bh, L, h, _ => by
    show mis (ep t (hd L)) = none
    match L, h with
    | g :: r, h => exact mis_ep (h.2.2.2 g List.mem_cons_self).1
    | [], h => exact h.1.elim
  | x :: T, bh, L, h, hR => by
    have ih := mis_ems T (bhn x) (lvn x L) (ok_lev h hR.1) hR.2
    show mis (emi t x L ++ ems t T (lvn x L)) = mis (x :: T)
    rw [mis_app, mis_emi h hR.1, ih, show x :: T = [x] ++ T from rfl, mis_app]
end RD8
