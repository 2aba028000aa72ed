section RD2
variable {N z at_ : Nat} {t : Nat → Nat} {m m' : vM} {s : vS}
/-! the orders, the levels -/
abbrev Tok := Nat × Nat × Int32 × Int32
abbrev Lev := Option Nat × Option Nat × Option Nat
def OrdC (m : vM) (O : List Tok) : Prop := rI m 234 4 = nI O.length ∧ ∀ i x, O[i]? = some x → rI m 236 i = nI x.1 ∧ rI m 237 i = nI x.2.1 ∧ rI m 238 i = x.2.2.1 ∧ rI m 239 i = x.2.2.2 ∧ x.1 < 128 ∧ x.2.1 < 60
def LevC (m : vM) : List Lev → Prop
  | [] => True
  | g :: r => (rI m 240 r.length = ip g.1 ∧ rI m 241 r.length = ip g.2.1 ∧ rI m 242 r.length = ip g.2.2) ∧ LevC m r
def LevW : List Lev → Prop
  | [] => False
  | [g] => g.1 = none
  | g :: r => (∃ o, g.1 = some o) ∧ LevW r
def LevP (z : Nat) (L : List Lev) : Prop := ∀ g, g ∈ L → ∀ p, (g.1 = some p ∨ g.2.1 = some p ∨ g.2.2 = some p) → p < z
def o1 : Option Nat → Nat
  | none => 0
  | some _ => 1
def pnd : List Lev → Nat
  | [] => 0
  | g :: r => o1 g.1 + o1 g.2.1 + o1 g.2.2 + pnd r
/-- the class's text, on the way -/
def StC (m : vM) (z : Nat) (t : Nat → Nat) (at_ : Nat) (O : List Tok) (L : List Lev) : Prop :=
  (TpC m z t ∧ at_ ≤ z ∧ rI m 234 9 = nI at_) ∧ OrdC m O ∧ LevC m L ∧ (LevW L ∧ L.length ≤ 4 ∧ rI m 234 10 = nI (L.length - 1)) ∧ LevP z L ∧ O.length + pnd L ≤ at_
def psP (b j : Nat) : Prop := (b = 234 ∧ j ≠ 3) ∨ (236 ≤ b ∧ b ≤ 242)
theorem TpC.fr (h : TpC m z t) (f : Fr psP m m') : TpC m' z t := ⟨h.1, by rw [f.i (by unfold psP; omega)]; exact h.2.1, fun i hi => by rw [f.i (by unfold psP; omega)]; exact h.2.2 i hi⟩
theorem LevC.same : ∀ {L : List Lev}, LevC m L → (∀ b j, 240 ≤ b ∧ b ≤ 242 → j < L.length → rI m' b j = rI m b j) → LevC m' L
  | [], _, _ => trivial
  | g :: r, h, e => by
    have hl : (g :: r).length = r.length + 1 := rfl
    refine ⟨?_, LevC.same h.2 (fun b j hb hj => e b j hb (by omega))⟩
    rw [e _ _ (by omega) (by omega), e _ _ (by omega) (by omega), e _ _ (by omega) (by omega)]
    exact h.1
def orP (b j : Nat) : Prop := (b = 234 ∧ j = 4) ∨ (236 ≤ b ∧ b ≤ 239)
theorem c_order {O : List Tok} (hO : OrdC m O) (hl : O.length < 60) (c p : Nat) (a b : Int32) (hc : c < 128) (hp : p < 60) : ∃ m', F_X7_order N 234 (nI c) (nI p) a b (S m) = some ((), S m') ∧ Fr orP m m' ∧ OrdC m' (O ++ [(c, p, a, b)]) := by
  refine ⟨wI (wI (wI (wI (wI m 236 O.length (nI c)) 237 O.length (nI p)) 238 O.length a) 239 O.length b) 234 4 (nI (O.length + 1)), ?_, ?_, ?_, fun i x hx => ?_⟩
  · have e4 : ∀ m1 : vM, rI m1 234 4 = rI m 234 4 → rI m1 234 4 = nI O.length := fun m1 h => h.trans hO.1
    unfold F_X7_order
    refine e_rcv ftO ?_
    refine e_ldIV ftO (hO.1) ?_
    refine e_f (by rw [leL (by decide) (by omega)]; show ¬ 60 ≤ O.length; omega) ?_
    refine e_ldR ftO ftR5 ?_
    refine e_ldIV ftO (hO.1) ?_
    refine e_asI ftA5 rfl (by omega) ?_
    refine e_ldR ftO ftR6 ?_
    refine e_ldIV ftO (e4 _ (by rw [rI_n _ _ (by omega)])) ?_
    refine e_asI ftA6 rfl (by omega) ?_
    refine e_ldR ftO ftR7 ?_
    refine e_ldIV ftO (e4 _ (by rw [rI_n _ _ (by omega), rI_n _ _ (by omega)])) ?_
    refine e_asI ftA7 rfl (by omega) ?_
    refine e_ldR ftO ftR8 ?_
    refine e_ldIV ftO (e4 _ (by rw [rI_n _ _ (by omega), rI_n _ _ (by omega), rI_n _ _ (by omega)])) ?_
    refine e_asI ftA8 rfl (by omega) ?_
    refine e_ldIV ftO (e4 _ (by rw [rI_n _ _ (by omega), rI_n _ _ (by omega), rI_n _ _ (by omega), rI_n _ _ (by omega)])) ?_
    refine e_stI ftO ?_
    rw [addR]
    rfl
  · exact ((((Fr.rf.sI (Or.inr (by omega))).sI (Or.inr (by omega))).sI (Or.inr (by omega))).sI (Or.inr (by omega))).sI (Or.inl ⟨rfl, rfl⟩)
  · rw [rI_s, List.length_append]
    rfl
  · rw [List.getElem?_append] at hx
    by_cases w : i < O.length
    · rw [if_pos w] at hx
      rw [rI_n _ _ (by omega), rI_n _ _ (by omega), rI_n _ _ (by omega), rI_n _ _ (by omega), rI_n _ _ (by omega)]
      rw [rI_n _ _ (by omega), rI_n _ _ (by omega), rI_n _ _ (by omega), rI_n _ _ (by omega), rI_n _ _ (by omega)]
      rw [rI_n _ _ (by omega), rI_n _ _ (by omega), rI_n _ _ (by omega), rI_n _ _ (by omega), rI_n _ _ (by omega)]
      rw [rI_n _ _ (by omega), rI_n _ _ (by omega), rI_n _ _ (by omega), rI_n _ _ (by omega), rI_n _ _ (by omega)]
      exact hO.2 i x hx
    · rw [if_neg w] at hx
      have hi : i = O.length := by
        by_cases y : i - O.length = 0
        · omega
        · rw [List.getElem?_eq_none (by show 1 ≤ i - O.length; omega)] at hx
          cases hx
      rw [hi, Nat.sub_self] at hx
      cases hx
      rw [hi]
      refine ⟨?_, ?_, ?_, ?_, hc, hp⟩
      · rw [rI_n _ _ (by omega), rI_n _ _ (by omega), rI_n _ _ (by omega), rI_n _ _ (by omega), rI_s]
      · rw [rI_n _ _ (by omega), rI_n _ _ (by omega), rI_n _ _ (by omega), rI_s]
      · rw [rI_n _ _ (by omega), rI_n _ _ (by omega), rI_s]
      · rw [rI_n _ _ (by omega), rI_s]
def eo (g : Lev) : List Tok := match g.2.2 with
  | some q => [(42, q, 0, 0)]
  | none => []
def ep (t : Nat → Nat) (g : Lev) : List Tok := match g.2.1 with
  | some q => [(t q, q, 0, 0)]
  | none => []
theorem LevW.top {g g' : Lev} {r : List Lev} (h : LevW (g :: r)) (e : g'.1 = g.1) : LevW (g' :: r) := by
  match r, h with
  | [], h => exact e.trans h
  | x :: y, h => exact ⟨by rw [e]; exact h.1, h.2⟩
theorem ip_at {x : Option Nat} {p : Nat} (h : x = some p) : ip x = nI p := by rw [h]; rfl
/-- one entry of the top level is changed -/
theorem LevC.set2 {g : Lev} {r : List Lev} {v : Option Nat} (h : LevC m (g :: r)) : LevC (wI m 242 r.length (ip v)) ((g.1, g.2.1, v) :: r) := by
  obtain ⟨⟨h1, h2, h3⟩, h4⟩ := h
  refine ⟨⟨?_, ?_, rI_s _ _ _ _⟩, h4.same (fun b j hb hj => rI_n _ _ (by omega))⟩
  · rw [rI_n _ _ (by omega)]; exact h1
  · rw [rI_n _ _ (by omega)]; exact h2
theorem LevC.set1 {g : Lev} {r : List Lev} {v : Option Nat} (h : LevC m (g :: r)) : LevC (wI m 241 r.length (ip v)) ((g.1, v, g.2.2) :: r) := by
  obtain ⟨⟨h1, h2, h3⟩, h4⟩ := h
  refine ⟨⟨?_, rI_s _ _ _ _, ?_⟩, h4.same (fun b j hb hj => rI_n _ _ (by omega))⟩
  · rw [rI_n _ _ (by omega)]; exact h1
  · rw [rI_n _ _ (by omega)]; exact h3
theorem LevP.top {g g' : Lev} {r : List Lev} (h : LevP z (g :: r)) (e : ∀ p, (g'.1 = some p ∨ g'.2.1 = some p ∨ g'.2.2 = some p) → p < z) : LevP z (g' :: r) := fun x hx p hp => by
  rcases List.mem_cons.mp hx with rfl | hx
  · exact e p hp
  · exact h x (List.mem_cons_of_mem _ hx) p hp
theorem c_endOne {O : List Tok} {g : Lev} {r : List Lev} (h : StC m z t at_ O (g :: r)) : ∃ m', F_X7_endOne N 234 (S m) = some ((), S m') ∧ Fr psP m m' ∧ StC m' z t at_ (O ++ eo g) ((g.1, g.2.1, none) :: r) := by
  obtain ⟨⟨hT, h9, h9'⟩, hO, hL, ⟨hW, h4, h10⟩, hP, hc⟩ := id h
  have hlen : (g :: r).length = r.length + 1 := rfl
  have h10 : rI m 234 10 = nI r.length := h10
  have h60 := hT.1
  have hrl : r.length < 4 := by omega
  cases hg : g.2.2 with
  | none =>
    have he : eo g = [] := by unfold eo; rw [hg]
    have hgg : ((g.1, g.2.1, none) : Lev) = g := by rw [← hg]
    rw [he, hgg, List.append_nil]
    refine ⟨m, ?_, Fr.rf, h⟩
    unfold F_X7_endOne
    refine e_rcv ftO ?_
    refine e_ldR ftO ftR13 ?_
    refine e_ldIV ftO (h10) ?_
    refine e_alIV ftA13 rfl (by omega) ((hL.1.2.2.trans (by rw [hg]))) ?_
    exact e_t rfl rfl
  | some q =>
    have he : eo g = [(42, q, 0, 0)] := by unfold eo; rw [hg]
    have hq : q < z := hP g List.mem_cons_self q (Or.inr (Or.inr hg))
    have hpn : pnd (g :: r) = o1 g.1 + o1 g.2.1 + 1 + pnd r := by rw [pnd, hg]; rfl
    have h242 : rI m 242 r.length = nI q := hL.1.2.2.trans (ip_at hg)
    obtain ⟨m1, c1, c2, c3⟩ := c_order (N := N) hO (by omega) 42 q 0 0 (by omega) (by omega)
    have f1 : Fr psP m m1 := c2.mo (fun b j w => by unfold orP at w; unfold psP; omega)
    have hL1 : LevC m1 (g :: r) := hL.same (fun b j hb _ => c2.i (by unfold orP; omega))
    rw [he]
    refine ⟨wI m1 242 r.length (ip none), ?_, f1.sI (Or.inr (by omega)), ⟨hT.fr (f1.sI (Or.inr (by omega))), h9, by rw [rI_n _ _ (by omega), c2.i (by unfold orP; omega)]; exact h9'⟩, ⟨by rw [rI_n _ _ (by omega)]; exact c3.1, fun i x hx => by
      rw [rI_n _ _ (by omega), rI_n _ _ (by omega), rI_n _ _ (by omega), rI_n _ _ (by omega)]
      exact c3.2 i x hx⟩, hL1.set2, ⟨hW.top rfl, h4, by rw [rI_n _ _ (by omega), c2.i (by unfold orP; omega)]; exact h10⟩, hP.top (fun p hp => ?_), ?_⟩
    · unfold F_X7_endOne
      refine e_rcv ftO ?_
      refine e_ldR ftO ftR13 ?_
      refine e_ldIV ftO (h10) ?_
      refine e_alIV ftA13 rfl (by omega) (h242) ?_
      refine e_f (nI_m1 (by omega)) ?_
      refine e_ldR ftO ftR13 ?_
      refine e_ldIV ftO (h10) ?_
      refine e_alIV ftA13 rfl (by omega) (h242) ?_
      refine e_bnd (c1) ?_
      refine e_ldR ftO ftR13 ?_
      refine e_ldIV ftO ((c2.i (by unfold orP; omega)).trans h10) ?_
      refine e_asI ftA13 rfl (by omega) ?_
      rfl
    · rcases hp with hp | hp | hp
      · exact hP g List.mem_cons_self p (Or.inl hp)
      · exact hP g List.mem_cons_self p (Or.inr (Or.inl hp))
      · cases hp
    · rw [List.length_append]
      show O.length + 1 + (o1 g.1 + o1 g.2.1 + 0 + pnd r) ≤ at_
      omega
theorem c_endProduct {O : List Tok} {g : Lev} {r : List Lev} (h : StC m z t at_ O (g :: r)) : ∃ m', F_X7_endProduct N 234 (S m) = some ((), S m') ∧ Fr psP m m' ∧ StC m' z t at_ (O ++ ep t g) ((g.1, none, g.2.2) :: r) := by
  obtain ⟨⟨hT, h9, h9'⟩, hO, hL, ⟨hW, h4, h10⟩, hP, hc⟩ := id h
  have hlen : (g :: r).length = r.length + 1 := rfl
  have h10 : rI m 234 10 = nI r.length := h10
  have h60 := hT.1
  have hrl : r.length < 4 := by omega
  cases hg : g.2.1 with
  | none =>
    have he : ep t g = [] := by unfold ep; rw [hg]
    have hgg : ((g.1, none, g.2.2) : Lev) = g := by rw [← hg]
    rw [he, hgg, List.append_nil]
    refine ⟨m, ?_, Fr.rf, h⟩
    unfold F_X7_endProduct
    refine e_rcv ftO ?_
    refine e_ldR ftO ftR12 ?_
    refine e_ldIV ftO (h10) ?_
    refine e_alIV ftA12 rfl (by omega) ((hL.1.2.1.trans (by rw [hg]))) ?_
    exact e_t rfl rfl
  | some q =>
    have he : ep t g = [(t q, q, 0, 0)] := by unfold ep; rw [hg]
    have hq : q < z := hP g List.mem_cons_self q (Or.inr (Or.inl hg))
    have hpn : pnd (g :: r) = o1 g.1 + 1 + o1 g.2.2 + pnd r := by rw [pnd, hg]; rfl
    have h241 : rI m 241 r.length = nI q := hL.1.2.1.trans (ip_at hg)
    obtain ⟨m1, c1, c2, c3⟩ := c_order (N := N) hO (by omega) (t q) q 0 0 (hT.2.2 q hq).1 (by omega)
    have f1 : Fr psP m m1 := c2.mo (fun b j w => by unfold orP at w; unfold psP; omega)
    have hL1 : LevC m1 (g :: r) := hL.same (fun b j hb _ => c2.i (by unfold orP; omega))
    rw [he]
    refine ⟨wI m1 241 r.length (ip none), ?_, f1.sI (Or.inr (by omega)), ⟨hT.fr (f1.sI (Or.inr (by omega))), h9, by rw [rI_n _ _ (by omega), c2.i (by unfold orP; omega)]; exact h9'⟩, ⟨by rw [rI_n _ _ (by omega)]; exact c3.1, fun i x hx => by
      rw [rI_n _ _ (by omega), rI_n _ _ (by omega), rI_n _ _ (by omega), rI_n _ _ (by omega)]
      exact c3.2 i x hx⟩, hL1.set1, ⟨hW.top rfl, h4, by rw [rI_n _ _ (by omega), c2.i (by unfold orP; omega)]; exact h10⟩, hP.top (fun p hp => ?_), ?_⟩
    · unfold F_X7_endProduct
      refine e_rcv ftO ?_
      refine e_ldR ftO ftR12 ?_
      refine e_ldIV ftO (h10) ?_
      refine e_alIV ftA12 rfl (by omega) (h241) ?_
      refine e_f (nI_m1 (by omega)) ?_
      refine e_ldR ftO ftR2 ?_
      refine e_ldR ftO ftR12 ?_
      refine e_ldIV ftO (h10) ?_
      refine e_alIV ftA12 rfl (by omega) (h241) ?_
      refine e_alIV ftA2 rfl (by omega) ((hT.2.2 q hq).2) ?_
      refine e_ldR ftO ftR12 ?_
      refine e_ldIV ftO (h10) ?_
      refine e_alIV ftA12 rfl (by omega) (h241) ?_
      refine e_bnd (c1) ?_
      refine e_ldR ftO ftR12 ?_
      refine e_ldIV ftO ((c2.i (by unfold orP; omega)).trans h10) ?_
      refine e_asI ftA12 rfl (by omega) ?_
      rfl
    · rcases hp with hp | hp | hp
      · exact hP g List.mem_cons_self p (Or.inl hp)
      · cases hp
      · exact hP g List.mem_cons_self p (Or.inr (Or.inr hp))
    · rw [List.length_append]
      show O.length + 1 + (o1 g.1 + 0 + o1 g.2.2 + pnd r) ≤ at_
      omega
end RD2
