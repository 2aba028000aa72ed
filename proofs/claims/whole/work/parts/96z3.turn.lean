section UROWS
theorem u_J_X7_takeAll_170 {N : Nat} {k0 : Int32} {s : vS} : J_X7_takeAll_170 N k0 s = (some (k0, s)) := rfl
theorem u_J_X7_takeAll_166 {N : Nat} {a0 : Nat} {s : vS} : J_X7_takeAll_166 N a0 s = (ldI s a0 7 3 (fun v12 => J_X7_takeAll_170 N v12 s)) := rfl
theorem u_J_X7_takeAll_147 {N : Nat} {a0 : Nat} {l1 : Int32} {s : vS} : J_X7_takeAll_147 N a0 l1 s = (bnd (F_X7_endProduct N a0 s) (fun v7 s => if l1 = (0 : Int32) then (J_X7_takeAll_166 N a0 s) else (ldI s a0 7 10 (fun v8 => if v8 = (0 : Int32) then (J_X7_takeAll_170 N (-1 : Int32) s) else (J_X7_takeAll_166 N a0 s))))) := rfl
theorem u_J_X7_takeAll_140 {N : Nat} {k20 : Nat → Int32 → Int32 → vS → Option (Int32 × vS)} {a0 : Nat} {l2 : Int32} {k0 : Int32} {s : vS} : J_X7_takeAll_140 N k20 a0 l2 k0 s = (nm (l2 + (1 : Int32)) (fun l2_13 => k20 a0 k0 l2_13 s)) := rfl
theorem u_J_X7_takeAll_122 {N : Nat} {k20 : Nat → Int32 → Int32 → vS → Option (Int32 × vS)} {a0 : Nat} {l2 : Int32} {s : vS} : J_X7_takeAll_122 N k20 a0 l2 s = (J_X7_takeAll_140 N k20 a0 l2 (1 : Int32) s) := rfl
theorem u_J_X7_takeAll_95 {N : Nat} {k20 : Nat → Int32 → Int32 → vS → Option (Int32 × vS)} {a0 : Nat} {l1 : Int32} {l2 : Int32} {l3 : Int32} {l4 : Int32} {k0 : Int32} {s : vS} : J_X7_takeAll_95 N k20 a0 l1 l2 l3 l4 k0 s = (if k0 = (-1 : Int32) then (if l1 = (0 : Int32) then (if l4 = (0 : Int32) then (J_X7_takeAll_140 N k20 a0 l2 (1 : Int32) s) else (J_X7_takeAll_140 N k20 a0 l2 (0 : Int32) s)) else (if l3 = (41 : Int32) then (J_X7_takeAll_122 N k20 a0 l2 s) else (if l3 = (125 : Int32) then (J_X7_takeAll_122 N k20 a0 l2 s) else (J_X7_takeAll_140 N k20 a0 l2 (0 : Int32) s)))) else (some (k0, s))) := rfl
theorem u_J_X7_takeAll_64 {N : Nat} {k20 : Nat → Int32 → Int32 → vS → Option (Int32 × vS)} {a0 : Nat} {l1 : Int32} {l2 : Int32} {l3 : Int32} {k0 : Int32} {s : vS} : J_X7_takeAll_64 N k20 a0 l1 l2 l3 k0 s = (if l1 = (0 : Int32) then (if k0 = (0 : Int32) then (bnd (F_X7_takeOne N a0 l3 s) (fun v9 s => J_X7_takeAll_95 N k20 a0 l1 l2 l3 k0 v9 s)) else (bnd (F_X7_takeOpening N a0 s) (fun v10 s => J_X7_takeAll_95 N k20 a0 l1 l2 l3 k0 v10 s))) else (bnd (F_X7_takeBehindOne N a0 l3 s) (fun v11 s => J_X7_takeAll_95 N k20 a0 l1 l2 l3 k0 v11 s))) := rfl
theorem u_J_X7_takeAll_59 {N : Nat} {k20 : Nat → Int32 → Int32 → vS → Option (Int32 × vS)} {a0 : Nat} {l1 : Int32} {l2 : Int32} {l3 : Int32} {s : vS} : J_X7_takeAll_59 N k20 a0 l1 l2 l3 s = (J_X7_takeAll_64 N k20 a0 l1 l2 l3 (1 : Int32) s) := rfl
theorem u_H_X7_takeAll_20 {N : Nat} {n : Nat} {a0 : Nat} {l1 : Int32} {l2 : Int32} {s : vS} : H_X7_takeAll_20 N (n + 1) a0 l1 l2 s = (if (60 : Int32) ≤ l2 then (J_X7_takeAll_147 N a0 l1 s) else (ldI s a0 7 9 (fun v2 => ldI s a0 7 3 (fun v3 => if v3 ≤ v2 then (J_X7_takeAll_147 N a0 l1 s) else (ldR s a0 7 2 (fun r4 => ldI s a0 7 9 (fun v5 => alI s r4 v5 (fun v6 => if v6 = (40 : Int32) then (J_X7_takeAll_59 N (H_X7_takeAll_20 N n) a0 l1 l2 v6 s) else (if v6 = (123 : Int32) then (J_X7_takeAll_59 N (H_X7_takeAll_20 N n) a0 l1 l2 v6 s) else (J_X7_takeAll_64 N (H_X7_takeAll_20 N n) a0 l1 l2 v6 (0 : Int32) s)))))))))) := rfl
theorem u_F_X7_takeAll {N : Nat} {a0 : Nat} {s : vS} : F_X7_takeAll N a0 s = (rcv s a0 7 (stI s a0 7 9 (0 : Int32) (fun s => stI s a0 7 4 (0 : Int32) (fun s => bnd (F_X7_startLevel N a0 (0 : Int32) (-1 : Int32) s) (fun v1 s => H_X7_takeAll_20 N N a0 (0 : Int32) (0 : Int32) s))))) := rfl
theorem u_J_X7_takeApart_69 {N : Nat} {k18 : Nat → Int32 → vS → Option (Int32 × vS)} {a0 : Nat} {l2 : Int32} {s : vS} : J_X7_takeApart_69 N k18 a0 l2 s = (nm (l2 + (1 : Int32)) (fun l2_13 => k18 a0 l2_13 s)) := rfl
theorem u_J_X7_takeApart_48 {N : Nat} {k18 : Nat → Int32 → vS → Option (Int32 × vS)} {a0 : Nat} {l2 : Int32} {s : vS} : J_X7_takeApart_48 N k18 a0 l2 s = (ldR s a0 7 7 (fun r8 => alI s r8 l2 (fun v9 => if v9 = (-1 : Int32) then (ldR s a0 7 6 (fun r10 => alI s r10 l2 (fun v11 => bnd (F_X7_faultOf N (2 : Int32) v11 s) (fun v12 s => some (v12, s))))) else (J_X7_takeApart_69 N k18 a0 l2 s)))) := rfl
theorem u_H_X7_takeApart_18 {N : Nat} {n : Nat} {a0 : Nat} {l2 : Int32} {s : vS} : H_X7_takeApart_18 N (n + 1) a0 l2 s = (ldI s a0 7 4 (fun v3 => if v3 ≤ l2 then (some ((0 : Int32), s)) else (ldR s a0 7 5 (fun r4 => alI s r4 l2 (fun v5 => if v5 = (91 : Int32) then (J_X7_takeApart_48 N (H_X7_takeApart_18 N n) a0 l2 s) else (ldR s a0 7 5 (fun r6 => alI s r6 l2 (fun v7 => if v7 = (60 : Int32) then (J_X7_takeApart_48 N (H_X7_takeApart_18 N n) a0 l2 s) else (J_X7_takeApart_69 N (H_X7_takeApart_18 N n) a0 l2 s))))))))) := rfl
theorem u_F_X7_takeApart {N : Nat} {a0 : Nat} {s : vS} : F_X7_takeApart N a0 s = (rcv s a0 7 (bnd (F_X7_takeAll N a0 s) (fun v1 s => if v1 = (-1 : Int32) then (H_X7_takeApart_18 N N a0 (0 : Int32) s) else (bnd (F_X7_faultOf N (1 : Int32) v1 s) (fun v2 s => some (v2, s)))))) := rfl
end UROWS
section RD3
variable {N z at_ : Nat} {t : Nat → Nat} {m m' : vM} {s : vS}
theorem LevW.pos {L : List Lev} (h : LevW L) : 1 ≤ L.length := by
  match L, h with
  | [], h => exact h.elim
  | g :: r, _ => show 1 ≤ r.length + 1; omega
theorem c_takeOpening {O : List Tok} {L : List Lev} (h : StC m z t at_ O L) (ha : at_ < z) (hl : L.length < 4) : ∃ m', F_X7_takeOpening N 234 (S m) = some (-1, S m') ∧ Fr psP m m' ∧ StC m' z t (at_ + 1) O ((some at_, none, none) :: L) := by
  obtain ⟨⟨hT, h9, h9'⟩, hO, hL, ⟨hW, h4, h10⟩, hP, hc⟩ := id h
  have h60 := hT.1
  have h1 := hW.pos
  have f : Fr psP m (wI (wI (wI (wI (wI m 234 10 (nI L.length)) 240 L.length (nI at_)) 241 L.length (-1)) 242 L.length (-1)) 234 9 (nI (at_ + 1))) := ((((Fr.rf.sI (Or.inl ⟨rfl, by omega⟩)).sI (Or.inr (by omega))).sI (Or.inr (by omega))).sI (Or.inr (by omega))).sI (Or.inl ⟨rfl, by omega⟩)
  refine ⟨_, ?_, f, ⟨hT.fr f, ha, rI_s _ _ _ _⟩, ⟨?_, fun i x hx => ?_⟩, ⟨⟨?_, ?_, ?_⟩, hL.same (fun b j hb hj => ?_)⟩, ⟨?_, ?_, ?_⟩, fun g hg p hp => ?_, ?_⟩
  · unfold F_X7_takeOpening
    refine e_rcv ftO ?_
    refine e_ldIV ftO (h10) ?_
    refine e_t (by rw [ltR (by decide) (by omega)]; show L.length - 1 < 3; omega) ?_
    refine e_ldIV ftO (h10) ?_
    refine e_ldIV ftO (h9') ?_
    rw [addR, show L.length - 1 + (OfNat.ofNat 1 : Nat) = L.length from Nat.sub_add_cancel h1]
    refine e_bnd (r := ()) (s' := S (wI (wI (wI (wI m 234 10 (nI L.length)) 240 L.length (nI at_)) 241 L.length (-1)) 242 L.length (-1))) ?_ ?_
    · unfold F_X7_startLevel
      refine e_rcv ftO ?_
      refine e_stI ftO ?_
      refine e_ldR ftO ftR11 ?_
      refine e_asI ftA11 rfl (by omega) ?_
      refine e_ldR ftO ftR12 ?_
      refine e_asI ftA12 rfl (by omega) ?_
      refine e_ldR ftO ftR13 ?_
      refine e_asI ftA13 rfl (by omega) ?_
      rfl
    · refine e_ldIV ftO (show rI _ 234 9 = nI at_ by rw [rI_n _ _ (by omega), rI_n _ _ (by omega), rI_n _ _ (by omega), rI_n _ _ (by omega)]; exact h9') ?_
      refine e_stI ftO ?_
      rw [addR]
  · rw [rI_n _ _ (by omega), rI_n _ _ (by omega), rI_n _ _ (by omega), rI_n _ _ (by omega), rI_n _ _ (by omega)]
    exact hO.1
  · rw [rI_n _ _ (by omega), rI_n _ _ (by omega), rI_n _ _ (by omega), rI_n _ _ (by omega), rI_n _ _ (by omega)]
    rw [rI_n _ _ (by omega), rI_n _ _ (by omega), rI_n _ _ (by omega), rI_n _ _ (by omega), rI_n _ _ (by omega)]
    rw [rI_n _ _ (by omega), rI_n _ _ (by omega), rI_n _ _ (by omega), rI_n _ _ (by omega), rI_n _ _ (by omega)]
    rw [rI_n _ _ (by omega), rI_n _ _ (by omega), rI_n _ _ (by omega), rI_n _ _ (by omega), rI_n _ _ (by omega)]
    exact hO.2 i x hx
  · rw [rI_n _ _ (by omega), rI_n _ _ (by omega), rI_n _ _ (by omega), rI_s]
    rfl
  · rw [rI_n _ _ (by omega), rI_n _ _ (by omega), rI_s]
    rfl
  · rw [rI_n _ _ (by omega), rI_s]
    rfl
  · rw [rI_n _ _ (by omega), rI_n _ _ (by omega), rI_n _ _ (by omega), rI_n _ _ (by omega), rI_n _ _ (by omega)]
  · match L, hW with
    | x :: y, hW => exact ⟨⟨at_, rfl⟩, hW⟩
  · show L.length + 1 ≤ 4
    omega
  · rw [rI_n _ _ (by omega), rI_n _ _ (by omega), rI_n _ _ (by omega), rI_n _ _ (by omega), rI_s]
    rfl
  · rcases List.mem_cons.mp hg with rfl | hg
    · rcases hp with hp | hp | hp
      · cases hp; exact ha
      · cases hp
      · cases hp
    · exact hP g hg p hp
  · show O.length + (1 + 0 + 0 + pnd L) ≤ at_ + 1
    omega
def opn (t : Nat → Nat) (g : Lev) : Int32 := match g.1 with
  | some o => nI (t o)
  | none => -1
def opc (t : Nat → Nat) (g : Lev) : Nat := match g.1 with
  | some o => t o
  | none => 0
abbrev cls (t : Nat → Nat) (g : Lev) (c : Nat) : Prop := (opc t g = 40 ∧ c = 41) ∨ (opc t g = 123 ∧ c = 125)
def br (t : Nat → Nat) (g : Lev) : List Tok := match g.1 with
  | some o => if t o = 123 then [(123, o, 0, 0)] else []
  | none => []
theorem opn_40 {g : Lev} (hg : ∀ o, g.1 = some o → t o < 128) : (opn t g = 40 ↔ opc t g = 40) ∧ (opn t g = 123 ↔ opc t g = 123) := by
  unfold opn opc
  cases h : g.1 with
  | none => exact ⟨⟨fun w => absurd (show (-1 : Int32) = 40 from w) (by decide), fun w => absurd (show 0 = 40 from w) (by decide)⟩, ⟨fun w => absurd (show (-1 : Int32) = 123 from w) (by decide), fun w => absurd (show 0 = 123 from w) (by decide)⟩⟩
  | some o =>
    have := hg o h
    exact ⟨eqR (by decide) (by omega), eqR (by decide) (by omega)⟩
theorem c_max0 {k : Nat} (hk : k < 4) : F_J9_max_7cf53 N (nI k) 0 s = some (nI k, s) := by
  unfold F_J9_max_7cf53 J_J9_max_7cf53_10
  exact e_f (nI_pos (by omega)) rfl
theorem c_endLevel {O : List Tok} {g g2 : Lev} {r : List Lev} (h : StC m z t at_ O (g :: g2 :: r)) : ∃ m', F_X7_endLevel N 234 (opn t g) (S m) = some ((), S m') ∧ Fr psP m m' ∧ StC m' z t at_ (O ++ br t g ++ eo g2) ((g2.1, g2.2.1, none) :: r) := by
  obtain ⟨⟨hT, h9, h9'⟩, hO, hL, ⟨hW, h4, h10⟩, hP, hc⟩ := id h
  have h60 := hT.1
  obtain ⟨⟨o, ho⟩, hW2⟩ := hW
  have hoz : o < z := hP g List.mem_cons_self o (Or.inl ho)
  have hlen : (g :: g2 :: r).length = r.length + 2 := rfl
  have h10 : rI m 234 10 = nI (r.length + 1) := h10
  have h240 : rI m 240 (r.length + 1) = nI o := hL.1.1.trans (ip_at ho)
  have hpn : pnd (g :: g2 :: r) = 1 + o1 g.2.1 + o1 g.2.2 + pnd (g2 :: r) := by rw [pnd, ho]; rfl
  have hop : opn t g = nI (t o) := by unfold opn; rw [ho]
  have hP2 : LevP z (g2 :: r) := fun x hx p hp => hP x (List.mem_cons_of_mem _ hx) p hp
  have j22 : ∀ m1 O1, Fr psP m m1 → OrdC m1 O1 → LevC m1 (g2 :: r) → rI m1 234 9 = nI at_ → rI m1 234 10 = nI (r.length + 1) → O1.length + pnd (g2 :: r) ≤ at_ → ∃ m', J_X7_endLevel_22 N 234 (S m1) = some ((), S m') ∧ Fr psP m m' ∧ StC m' z t at_ (O1 ++ eo g2) ((g2.1, g2.2.1, none) :: r) := by
    intro m1 O1 f1 hO1 hL1 a9 a10 hc1
    have f2 : Fr psP m (wI m1 234 10 (nI r.length)) := f1.sI (Or.inl ⟨rfl, by omega⟩)
    obtain ⟨m', c1, c2, c3⟩ := c_endOne (N := N) (m := wI m1 234 10 (nI r.length)) (O := O1) (g := g2) (r := r) (z := z) (t := t) (at_ := at_) ⟨⟨hT.fr f2, h9, by rw [rI_n _ _ (by omega)]; exact a9⟩, ⟨by rw [rI_n _ _ (by omega)]; exact hO1.1, fun i x hx => by
      rw [rI_n _ _ (by omega), rI_n _ _ (by omega), rI_n _ _ (by omega), rI_n _ _ (by omega)]
      exact hO1.2 i x hx⟩, hL1.same (fun b j hb _ => rI_n _ _ (by omega)), ⟨hW2, by show r.length + 1 ≤ 4; omega, rI_s _ _ _ _⟩, hP2, hc1⟩
    refine ⟨m', ?_, f2.tr c2, c3⟩
    unfold J_X7_endLevel_22
    refine e_ldIV ftO (a10) ?_
    rw [subR (by show 1 ≤ r.length + 1; omega)]
    refine e_bnd (c_max0 (by show r.length + 1 - 1 < 4; omega)) ?_
    refine e_stI ftO ?_
    refine e_bnd (c1) ?_
    rfl
  unfold F_X7_endLevel
  by_cases w : t o = 123
  · obtain ⟨m1, d1, d2, d3⟩ := c_order (N := N) hO (by omega) 123 o 0 0 (by omega) (by omega)
    have hb : br t g = [(123, o, 0, 0)] := by unfold br; rw [ho]; exact if_pos w
    rw [hb]
    obtain ⟨m', c1, c2, c3⟩ := j22 m1 (O ++ [(123, o, 0, 0)]) (d2.mo (fun b j w => by unfold orP at w; unfold psP; omega)) d3 (hL.2.same (fun b j hb _ => d2.i (by unfold orP; omega))) (by rw [d2.i (by unfold orP; omega)]; exact h9') (by rw [d2.i (by unfold orP; omega)]; exact h10) (by rw [List.length_append]; show O.length + 1 + _ ≤ _; omega)
    refine ⟨m', ?_, c2, c3⟩
    refine e_rcv ftO ?_
    rw [hop, w]
    refine e_t (rfl) ?_
    refine e_ldR ftO ftR11 ?_
    refine e_ldIV ftO (h10) ?_
    refine e_alIV ftA11 rfl (by omega) (h240) ?_
    refine e_bnd (d1) ?_
    exact c1
  · have hb : br t g = [] := by unfold br; rw [ho]; exact if_neg w
    rw [hb, List.append_nil]
    obtain ⟨m', c1, c2, c3⟩ := j22 m O Fr.rf hO hL.2 h9' h10 (by omega)
    refine ⟨m', ?_, c2, c3⟩
    refine e_rcv ftO ?_
    have := (hT.2.2 o hoz).1
    rw [hop]
    refine e_f (by rw [eqR (by decide) (by omega)]; exact w) ?_
    exact c1
/-- the next place -/
theorem StC.at1 {O : List Tok} {L : List Lev} {a' : Nat} (h : StC m z t at_ O L) (ha : at_ ≤ a') (hz : a' ≤ z) : StC (wI m 234 9 (nI a')) z t a' O L := by
  obtain ⟨⟨hT, h9, h9'⟩, hO, hL, ⟨hW, h4, h10⟩, hP, hc⟩ := h
  have f : Fr psP m (wI m 234 9 (nI a')) := Fr.rf.sI (Or.inl ⟨rfl, by omega⟩)
  exact ⟨⟨hT.fr f, hz, rI_s _ _ _ _⟩, ⟨by rw [rI_n _ _ (by omega)]; exact hO.1, fun i x hx => by
      rw [rI_n _ _ (by omega), rI_n _ _ (by omega), rI_n _ _ (by omega), rI_n _ _ (by omega)]
      exact hO.2 i x hx⟩, hL.same (fun b j hb _ => rI_n _ _ (by omega)), ⟨hW, h4, by rw [rI_n _ _ (by omega)]; exact h10⟩, hP, by omega⟩
theorem f9 {a' : Nat} : Fr psP m (wI m 234 9 (nI a')) := Fr.rf.sI (Or.inl ⟨rfl, by omega⟩)
def emi (t : Nat → Nat) (x : Tok) : List Lev → List Tok
  | [] => []
  | g :: r => if x.1 = 48 ∨ x.1 = 91 ∨ x.1 = 60 then x :: eo g else if x.1 = 43 ∨ x.1 = 45 then ep t g else if x.1 = 41 ∨ x.1 = 125 then (match r with
    | [] => []
    | h :: _ => ep t g ++ br t g ++ eo h) else []
def lvn (x : Tok) : List Lev → List Lev
  | [] => []
  | g :: r => if x.1 = 48 ∨ x.1 = 91 ∨ x.1 = 60 then (g.1, g.2.1, none) :: r else if x.1 = 42 then (g.1, g.2.1, some x.2.1) :: r else if x.1 = 43 ∨ x.1 = 45 then (g.1, some x.2.1, g.2.2) :: r else if x.1 = 41 ∨ x.1 = 125 then (match r with
    | [] => []
    | h :: r' => (h.1, h.2.1, none) :: r') else (some x.2.1, none, none) :: g :: r
def bhn (x : Tok) : Bool := decide (x.1 = 48 ∨ x.1 = 91 ∨ x.1 = 60 ∨ x.1 = 41 ∨ x.1 = 125)
theorem emi_n {x : Tok} {g : Lev} {r : List Lev} (h : x.1 = 48 ∨ x.1 = 91 ∨ x.1 = 60) : emi t x (g :: r) = x :: eo g ∧ lvn x (g :: r) = (g.1, g.2.1, none) :: r ∧ bhn x = true := ⟨if_pos h, if_pos h, decide_eq_true (by omega)⟩
theorem emi_t {x : Tok} {g : Lev} {r : List Lev} (h : x.1 = 42) : emi t x (g :: r) = [] ∧ lvn x (g :: r) = (g.1, g.2.1, some x.2.1) :: r ∧ bhn x = false := ⟨(if_neg (by omega)).trans ((if_neg (by omega)).trans (if_neg (by omega))), (if_neg (by omega)).trans (if_pos h), decide_eq_false (by omega)⟩
theorem emi_s {x : Tok} {g : Lev} {r : List Lev} (h : x.1 = 43 ∨ x.1 = 45) : emi t x (g :: r) = ep t g ∧ lvn x (g :: r) = (g.1, some x.2.1, g.2.2) :: r ∧ bhn x = false := ⟨(if_neg (by omega)).trans (if_pos h), (if_neg (by omega)).trans ((if_neg (by omega)).trans (if_pos h)), decide_eq_false (by omega)⟩
theorem emi_c {x : Tok} {g g2 : Lev} {r : List Lev} (h : x.1 = 41 ∨ x.1 = 125) : emi t x (g :: g2 :: r) = ep t g ++ br t g ++ eo g2 ∧ lvn x (g :: g2 :: r) = (g2.1, g2.2.1, none) :: r ∧ bhn x = true := ⟨(if_neg (by omega)).trans ((if_neg (by omega)).trans (if_pos h)), (if_neg (by omega)).trans ((if_neg (by omega)).trans ((if_neg (by omega)).trans (if_pos h))), decide_eq_true (by omega)⟩
theorem emi_o {x : Tok} {g : Lev} {r : List Lev} (h : x.1 = 40 ∨ x.1 = 123) : emi t x (g :: r) = [] ∧ lvn x (g :: r) = (some x.2.1, none, none) :: g :: r ∧ bhn x = false := ⟨(if_neg (by omega)).trans ((if_neg (by omega)).trans (if_neg (by omega))), (if_neg (by omega)).trans ((if_neg (by omega)).trans ((if_neg (by omega)).trans (if_neg (by omega)))), decide_eq_false (by omega)⟩
abbrev opr (c : Nat) : Prop := c = 43 ∨ c = 45 ∨ c = 42
theorem c_j143 {O : List Tok} {L : List Lev} (h : StC m z t at_ O L) (ha : at_ < z) : J_X7_takeBehindOne_143 N 234 (S m) = some (-1, S (wI m 234 9 (nI (at_ + 1)))) := by
  unfold J_X7_takeBehindOne_143
  refine e_ldIV ftO (h.1.2.2) ?_
  rw [addR]
  refine e_stI ftO ?_
  rfl
theorem c_takeBehind {O : List Tok} {g : Lev} {r : List Lev} (h : StC m z t at_ O (g :: r)) (ha : at_ < z) : ∃ m', Fr psP m m' ∧ ((¬ (cls t g (t at_) ∨ opr (t at_)) ∧ F_X7_takeBehindOne N 234 (nI (t at_)) (S m) = some (nI at_, S m')) ∨ ((cls t g (t at_) ∨ opr (t at_)) ∧ F_X7_takeBehindOne N 234 (nI (t at_)) (S m) = some (-1, S m') ∧ StC m' z t (at_ + 1) (O ++ emi t (t at_, at_, 0, 0) (g :: r)) (lvn (t at_, at_, 0, 0) (g :: r)))) := by
  obtain ⟨⟨hT, h9, h9'⟩, hO, hL, ⟨hW, h4, h10⟩, hP, hc⟩ := id h
  have h60 := hT.1
  have h10 : rI m 234 10 = nI r.length := h10
  have hlen : (g :: r).length = r.length + 1 := rfl
  have hrl : r.length < 4 := by omega
  have hc128 := (hT.2.2 at_ ha).1
  obtain ⟨c, hcc⟩ : ∃ c, t at_ = c := ⟨_, rfl⟩
  rw [hcc] at hc128 ⊢
  have ho : ∀ o, g.1 = some o → t o < 128 := fun o e => (hT.2.2 o (hP g List.mem_cons_self o (Or.inl e))).1
  obtain ⟨o40, o123⟩ := opn_40 ho
  have j25 : ∀ R, J_X7_takeBehindOne_25 N 234 (nI c) (opn t g) (S m) = R → F_X7_takeBehindOne N 234 (nI c) (S m) = R := by
    intro R hR
    unfold F_X7_takeBehindOne
    refine e_rcv ftO ?_
    refine e_ldIV ftO (h10) ?_
    match r, hW, hL, h10, hlen with
    | [], hW, _, _, _ =>
      have hg : g.1 = none := hW
      refine e_t (Int32.le_refl 0) ?_
      unfold opn at hR
      rw [hg] at hR
      exact hR
    | x :: y, hW, hL, h10, hlen =>
      obtain ⟨⟨o, hg⟩, _⟩ := hW
      have hyl : (x :: y).length = y.length + 1 := rfl
      refine e_f (by rw [leR (by decide) (by omega)]; show ¬ (x :: y).length ≤ 0; omega) ?_
      refine e_ldR ftO ftR2 ?_
      refine e_ldR ftO ftR11 ?_
      refine e_ldIV ftO (h10) ?_
      refine e_alIV ftA11 rfl (by omega) ((hL.1.1.trans (ip_at hg))) ?_
      have hoz := hP g List.mem_cons_self o (Or.inl hg)
      refine e_alIV ftA2 rfl (by omega) ((hT.2.2 o hoz).2) ?_
      unfold opn at hR
      rw [hg] at hR
      exact hR
  have i41 : ∀ k : Nat, k < 128 → (nI c = nI k ↔ c = k) := fun k hk => nI_eq (by omega) (by omega)
  by_cases hcl : cls t g c
  · -- closing
    have hns : c = 41 ∨ c = 125 := hcl.elim (fun w => Or.inl w.2) (fun w => Or.inr w.2)
    obtain ⟨g2, r', hr⟩ : ∃ g2 r', r = g2 :: r' := by
      match r, hW with
      | [], hW =>
        have hg : g.1 = none := hW
        unfold cls opc at hcl
        rw [hg] at hcl
        rcases hcl with w | w
        · exact absurd (show 0 = 40 from w.1) (by decide)
        · exact absurd (show 0 = 123 from w.1) (by decide)
      | x :: y, _ => exact ⟨x, y, rfl⟩
    subst hr
    obtain ⟨m1, p1, p2, p3⟩ := c_endProduct (N := N) h
    obtain ⟨m2, q1, q2, q3⟩ := c_endLevel (N := N) p3
    refine ⟨wI m2 234 9 (nI (at_ + 1)), (p2.tr q2).tr f9, Or.inr ⟨Or.inl hcl, j25 _ ?_, ?_⟩⟩
    · have j83 : J_X7_takeBehindOne_83 N 234 (nI c) (opn t g) 1 (S m) = some (-1, S (wI m2 234 9 (nI (at_ + 1)))) := by
        unfold J_X7_takeBehindOne_83
        refine e_f (fun w => by have := (i41 42 (by omega)).mp w; omega) ?_
        refine e_bnd (p1) ?_
        unfold J_X7_takeBehindOne_109
        refine e_f (fun w => by have := (i41 43 (by omega)).mp w; omega) ?_
        refine e_f (fun w => by have := (i41 45 (by omega)).mp w; omega) ?_
        unfold J_X7_takeBehindOne_134
        refine e_f (by decide) ?_
        refine e_bnd (q1) ?_
        exact c_j143 q3 ha
      have j50 : J_X7_takeBehindOne_50 N 234 (nI c) (opn t g) (S m) = some (-1, S (wI m2 234 9 (nI (at_ + 1)))) := by
        unfold J_X7_takeBehindOne_50 J_X7_takeBehindOne_55
        refine e_f (by decide) ?_
        exact j83
      unfold J_X7_takeBehindOne_25
      rcases hcl with w | w
      · refine e_t (o40.mpr w.1) ?_
        refine e_t ((i41 41 (by omega)).mpr w.2) ?_
        exact j50
      · refine e_f (fun y => by have := o40.mp y; omega) ?_
        unfold J_X7_takeBehindOne_38
        refine e_t (o123.mpr w.1) ?_
        refine e_t ((i41 125 (by omega)).mpr w.2) ?_
        exact j50
    · obtain ⟨e1, e2, -⟩ := emi_c (t := t) (x := (c, at_, 0, 0)) (g := g) (g2 := g2) (r := r') hns
      rw [e1, e2, ← List.append_assoc, ← List.append_assoc]
      exact q3.at1 (by omega) ha
  · -- no closing
    have j55 : ∀ R, J_X7_takeBehindOne_54 N 234 (nI c) (opn t g) (S m) = R → F_X7_takeBehindOne N 234 (nI c) (S m) = R := by
      intro R hR
      have j38 : J_X7_takeBehindOne_38 N 234 (nI c) (opn t g) (S m) = R := by
        unfold J_X7_takeBehindOne_38
        by_cases y : opn t g = 123
        · refine e_t (y) ?_
          refine e_f (fun w => hcl (Or.inr ⟨o123.mp y, (i41 125 (by omega)).mp w⟩)) ?_
          exact hR
        · exact e_f y hR
      refine j25 R ?_
      unfold J_X7_takeBehindOne_25
      by_cases y : opn t g = 40
      · refine e_t (y) ?_
        refine e_f (fun w => hcl (Or.inl ⟨o40.mp y, (i41 41 (by omega)).mp w⟩)) ?_
        exact j38
      · exact e_f y j38
    by_cases hop : opr c
    · have j83 : ∀ R, J_X7_takeBehindOne_83 N 234 (nI c) (opn t g) 0 (S m) = R → F_X7_takeBehindOne N 234 (nI c) (S m) = R := by
        intro R hR
        refine j55 R ?_
        unfold J_X7_takeBehindOne_54 J_X7_takeBehindOne_55
        refine e_t (rfl) ?_
        by_cases y1 : c = 43
        · exact e_t ((i41 43 (by omega)).mpr y1) hR
        refine e_f (fun w => y1 ((i41 43 (by omega)).mp w)) ?_
        by_cases y2 : c = 45
        · exact e_t ((i41 45 (by omega)).mpr y2) hR
        refine e_f (fun w => y2 ((i41 45 (by omega)).mp w)) ?_
        exact e_t ((i41 42 (by omega)).mpr (by omega)) hR
      by_cases y : c = 42
      · -- times
        have f1 : Fr psP m (wI m 242 r.length (nI at_)) := Fr.rf.sI (Or.inr (by omega))
        refine ⟨wI (wI m 242 r.length (nI at_)) 234 9 (nI (at_ + 1)), f1.tr f9, Or.inr ⟨Or.inr hop, j83 _ ?_, ?_⟩⟩
        · unfold J_X7_takeBehindOne_83
          refine e_t ((i41 42 (by omega)).mpr y) ?_
          refine e_ldR ftO ftR13 ?_
          refine e_ldIV ftO (h10) ?_
          refine e_ldIV ftO (h9') ?_
          refine e_asI ftA13 rfl (by omega) ?_
          unfold J_X7_takeBehindOne_109
          refine e_f (fun w => by have := (i41 43 (by omega)).mp w; omega) ?_
          refine e_f (fun w => by have := (i41 45 (by omega)).mp w; omega) ?_
          unfold J_X7_takeBehindOne_134
          refine e_t (rfl) ?_
          unfold J_X7_takeBehindOne_143
          refine e_ldIV ftO (show rI _ 234 9 = nI at_ by rw [rI_n _ _ (by omega)]; exact h9') ?_
          rw [addR]
          refine e_stI ftO ?_
          rfl
        · obtain ⟨e1, e2, -⟩ := emi_t (t := t) (x := (c, at_, 0, 0)) (g := g) (r := r) y
          rw [e1, e2, List.append_nil]
          have hL2 : LevC (wI m 242 r.length (nI at_)) ((g.1, g.2.1, some at_) :: r) := hL.set2 (v := some at_)
          refine ⟨⟨(hT.fr f1).fr f9, ha, rI_s _ _ _ _⟩, ⟨by rw [rI_n _ _ (by omega), rI_n _ _ (by omega)]; exact hO.1, fun i x hx => ?_⟩, hL2.same (fun b j hb _ => rI_n _ _ (by omega)), ⟨hW.top rfl, h4, by rw [rI_n _ _ (by omega), rI_n _ _ (by omega)]; exact h10⟩, hP.top (fun p hp => ?_), ?_⟩
          · rw [rI_n _ _ (by omega), rI_n _ _ (by omega), rI_n _ _ (by omega), rI_n _ _ (by omega)]
            rw [rI_n _ _ (by omega), rI_n _ _ (by omega), rI_n _ _ (by omega), rI_n _ _ (by omega)]
            exact hO.2 i x hx
          · rcases hp with hp | hp | hp
            · exact hP g List.mem_cons_self p (Or.inl hp)
            · exact hP g List.mem_cons_self p (Or.inr (Or.inl hp))
            · cases hp; exact ha
          · have hpn : pnd (g :: r) = o1 g.1 + o1 g.2.1 + o1 g.2.2 + pnd r := rfl
            show O.length + (o1 g.1 + o1 g.2.1 + 1 + pnd r) ≤ at_ + 1
            omega
      · -- plus, less
        obtain ⟨m1, p1, p2, p3⟩ := c_endProduct (N := N) h
        obtain ⟨⟨hT1, k9, k9'⟩, hO1, hL1, ⟨hW1, k4, k10⟩, hP1, hc1⟩ := id p3
        have k10 : rI m1 234 10 = nI r.length := k10
        have f1 : Fr psP m1 (wI m1 241 r.length (nI at_)) := Fr.rf.sI (Or.inr (by omega))
        refine ⟨wI (wI m1 241 r.length (nI at_)) 234 9 (nI (at_ + 1)), (p2.tr f1).tr f9, Or.inr ⟨Or.inr hop, j83 _ ?_, ?_⟩⟩
        · have j121 : J_X7_takeBehindOne_121 N 234 (opn t g) 0 (S m1) = some (-1, S (wI (wI m1 241 r.length (nI at_)) 234 9 (nI (at_ + 1)))) := by
            unfold J_X7_takeBehindOne_121
            refine e_ldR ftO ftR12 ?_
            refine e_ldIV ftO (k10) ?_
            refine e_ldIV ftO (k9') ?_
            refine e_asI ftA12 rfl (by omega) ?_
            unfold J_X7_takeBehindOne_134
            refine e_t (rfl) ?_
            unfold J_X7_takeBehindOne_143
            refine e_ldIV ftO (show rI _ 234 9 = nI at_ by rw [rI_n _ _ (by omega)]; exact k9') ?_
            rw [addR]
            refine e_stI ftO ?_
            rfl
          unfold J_X7_takeBehindOne_83
          refine e_f (fun w => y ((i41 42 (by omega)).mp w)) ?_
          refine e_bnd (p1) ?_
          unfold J_X7_takeBehindOne_109
          by_cases y1 : c = 43
          · exact e_t ((i41 43 (by omega)).mpr y1) j121
          refine e_f (fun w => y1 ((i41 43 (by omega)).mp w)) ?_
          exact e_t ((i41 45 (by omega)).mpr (by omega)) j121
        · obtain ⟨e1, e2, -⟩ := emi_s (t := t) (x := (c, at_, 0, 0)) (g := g) (r := r) (show c = 43 ∨ c = 45 by omega)
          rw [e1, e2]
          have hL2 : LevC (wI m1 241 r.length (nI at_)) ((g.1, some at_, g.2.2) :: r) := hL1.set1 (v := some at_)
          refine ⟨⟨(hT1.fr f1).fr f9, ha, rI_s _ _ _ _⟩, ⟨by rw [rI_n _ _ (by omega), rI_n _ _ (by omega)]; exact hO1.1, fun i x hx => ?_⟩, hL2.same (fun b j hb _ => rI_n _ _ (by omega)), ⟨hW1.top rfl, k4, by rw [rI_n _ _ (by omega), rI_n _ _ (by omega)]; exact k10⟩, hP1.top (fun p hp => ?_), ?_⟩
          · rw [rI_n _ _ (by omega), rI_n _ _ (by omega), rI_n _ _ (by omega), rI_n _ _ (by omega)]
            rw [rI_n _ _ (by omega), rI_n _ _ (by omega), rI_n _ _ (by omega), rI_n _ _ (by omega)]
            exact hO1.2 i x hx
          · rcases hp with hp | hp | hp
            · exact hP g List.mem_cons_self p (Or.inl hp)
            · cases hp; exact ha
            · exact hP g List.mem_cons_self p (Or.inr (Or.inr hp))
          · have hc1 : (O ++ ep t g).length + (o1 g.1 + 0 + o1 g.2.2 + pnd r) ≤ at_ := hc1
            show (O ++ ep t g).length + (o1 g.1 + 1 + o1 g.2.2 + pnd r) ≤ at_ + 1
            omega
    · refine ⟨m, Fr.rf, Or.inl ⟨fun w => w.elim hcl hop, j55 _ ?_⟩⟩
      have i1 : ¬ nI c = 43 := fun w => hop (Or.inl ((i41 43 (by omega)).mp w))
      have i2 : ¬ nI c = 45 := fun w => hop (Or.inr (Or.inl ((i41 45 (by omega)).mp w)))
      have i3 : ¬ nI c = 42 := fun w => hop (Or.inr (Or.inr ((i41 42 (by omega)).mp w)))
      unfold J_X7_takeBehindOne_54 J_X7_takeBehindOne_55
      refine e_t (rfl) ?_
      refine e_f (i1) ?_
      refine e_f (i2) ?_
      refine e_f (i3) ?_
      refine e_ldIV ftO (h9') ?_
      rfl
end RD3
