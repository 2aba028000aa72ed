section RD5
variable {N z at_ : Nat} {t : Nat → Nat} {m m' : vM} {s : vS}
def hd (L : List Lev) : Lev := match L with
  | [] => (none, none, none)
  | g :: _ => g
/-- what comes next in a text -/
def tkn (t : Nat → Nat) (z at_ : Nat) (bh : Bool) (L : List Lev) : Nat ⊕ (Tok × Nat) :=
  if bh = true then (if cls t (hd L) (t at_) ∨ opr (t at_) then .inr ((t at_, at_, 0, 0), at_ + 1) else .inl at_)
  else if t at_ = 40 ∨ t at_ = 123 then (if L.length < 4 then .inr ((t at_, at_, 0, 0), at_ + 1) else .inl at_)
  else if t at_ = 91 then (match tkN false t z at_ 93 with
    | .inl b => .inl b
    | .inr (v, a') => .inr ((91, at_, v, 0), a'))
  else if t at_ = 60 then (match tkN true t z at_ 62 with
    | .inl b => .inl b
    | .inr (v, a') => .inr ((60, at_, v, 0), a'))
  else (match tkF t z at_ with
    | .inl b => .inl b
    | .inr (u, v, a') => .inr ((48, at_, nI u, nI v), a'))
def pars (t : Nat → Nat) (z : Nat) : Nat → Nat → Bool → List Lev → Option Nat × List Tok
  | 0, _, _, _ => (some z, [])
  | f + 1, a, bh, L => if a < z then (match tkn t z a bh L with
      | .inl b => (some b, [])
      | .inr (x, a') => ((pars t z f a' (bhn x) (lvn x L)).1, x :: (pars t z f a' (bhn x) (lvn x L)).2)) else (if bh = true ∧ L.length = 1 then none else some z, [])
def ems (t : Nat → Nat) : List Tok → List Lev → List Tok
  | [], L => ep t (hd L)
  | x :: T, L => emi t x L ++ ems t T (lvn x L)
theorem c_takeOne {O : List Tok} {g : Lev} {r : List Lev} (hN : 100 ≤ N) (hTb : Tab m) (h : StC m z t at_ O (g :: r)) (ha : at_ < z) (hc : ¬ (t at_ = 40 ∨ t at_ = 123)) :
    (∃ b, tkn t z at_ false (g :: r) = .inl b ∧ b < 1000 ∧ F_X7_takeOne N 234 (nI (t at_)) (S m) = some (nI b, S m)) ∨ (∃ x a' m', tkn t z at_ false (g :: r) = .inr (x, a') ∧ (x.1 = 48 ∨ x.1 = 91 ∨ x.1 = 60) ∧ F_X7_takeOne N 234 (nI (t at_)) (S m) = some (-1, S m') ∧ Fr psP m m' ∧ at_ < a' ∧ a' ≤ z ∧ StC m' z t a' (O ++ emi t x (g :: r)) (lvn x (g :: r))) := by
  have hc128 := (h.1.1.2.2 at_ ha).1
  have i91 : ∀ k : Nat, k < 128 → (nI (t at_) = nI k ↔ t at_ = k) := fun k hk => nI_eq (by omega) (by omega)
  have hend : ∀ (x : Tok) (a' : Nat) (m1 : vM), (x.1 = 48 ∨ x.1 = 91 ∨ x.1 = 60) → Fr psP m m1 → StC m1 z t a' (O ++ [x]) (g :: r) → ∃ m', J_X7_takeOne_42 N 234 (-1) (S m1) = some (-1, S m') ∧ Fr psP m m' ∧ StC m' z t a' (O ++ emi t x (g :: r)) (lvn x (g :: r)) := by
    intro x a' m1 hx f1 h1
    obtain ⟨m', c1, c2, c3⟩ := c_endOne (N := N) h1
    obtain ⟨e1, e2, -⟩ := emi_n (t := t) (g := g) (r := r) hx
    refine ⟨m', ?_, f1.tr c2, ?_⟩
    · unfold J_X7_takeOne_42
      refine e_t (rfl) ?_
      refine e_bnd (c1) ?_
      rfl
    · rw [e1, e2, show O ++ x :: eo g = (O ++ [x]) ++ eo g by simp]
      exact c3
  unfold tkn
  rw [if_neg (by decide), if_neg hc]
  by_cases w1 : t at_ = 91
  · rw [if_pos w1]
    rcases c_takeNet (N := N) (q := false) (cl := 93) hN hTb h ha (by omega) with ⟨b, g1, g2, g3⟩ | ⟨v, a', m1, g1, g3, g4, g5, g6, g7⟩
    · rw [g1]
      refine Or.inl ⟨b, rfl, g2, ?_⟩
      unfold F_X7_takeOne
      refine e_rcv ftO ?_
      refine e_t ((i91 91 (by omega)).mpr w1) ?_
      refine e_ldR ftO ftR0 ?_
      refine e_bnd (g3) ?_
      unfold J_X7_takeOne_42
      exact e_f (nI_m1 g2) rfl
    · rw [g1]
      rw [w1] at g7
      obtain ⟨m', c1, c2, c3⟩ := hend (91, at_, v, 0) a' m1 (Or.inr (Or.inl rfl)) g4 g7
      refine Or.inr ⟨_, a', m', rfl, Or.inr (Or.inl rfl), ?_, c2, g5, g6, c3⟩
      unfold F_X7_takeOne
      refine e_rcv ftO ?_
      refine e_t ((i91 91 (by omega)).mpr w1) ?_
      refine e_ldR ftO ftR0 ?_
      refine e_bnd (g3) ?_
      exact c1
  · rw [if_neg w1]
    by_cases w2 : t at_ = 60
    · rw [if_pos w2]
      rcases c_takeNet (N := N) (q := true) (cl := 62) hN hTb h ha (by omega) with ⟨b, g1, g2, g3⟩ | ⟨v, a', m1, g1, g3, g4, g5, g6, g7⟩
      · rw [g1]
        refine Or.inl ⟨b, rfl, g2, ?_⟩
        unfold F_X7_takeOne
        refine e_rcv ftO ?_
        refine e_f (fun y => w1 ((i91 91 (by omega)).mp y)) ?_
        refine e_t ((i91 60 (by omega)).mpr w2) ?_
        refine e_ldR ftO ftR1 ?_
        refine e_bnd (g3) ?_
        unfold J_X7_takeOne_42
        exact e_f (nI_m1 g2) rfl
      · rw [g1]
        rw [w2] at g7
        obtain ⟨m', c1, c2, c3⟩ := hend (60, at_, v, 0) a' m1 (Or.inr (Or.inr rfl)) g4 g7
        refine Or.inr ⟨_, a', m', rfl, Or.inr (Or.inr rfl), ?_, c2, g5, g6, c3⟩
        unfold F_X7_takeOne
        refine e_rcv ftO ?_
        refine e_f (fun y => w1 ((i91 91 (by omega)).mp y)) ?_
        refine e_t ((i91 60 (by omega)).mpr w2) ?_
        refine e_ldR ftO ftR1 ?_
        refine e_bnd (g3) ?_
        exact c1
    · rw [if_neg w2]
      rcases c_takeFraction (N := N) hN h ha with ⟨b, g1, g2, g3⟩ | ⟨u, v, a', m1, g1, g3, g4, g5, g6, g7⟩
      · rw [g1]
        refine Or.inl ⟨b, rfl, g2, ?_⟩
        unfold F_X7_takeOne
        refine e_rcv ftO ?_
        refine e_f (fun y => w1 ((i91 91 (by omega)).mp y)) ?_
        refine e_f (fun y => w2 ((i91 60 (by omega)).mp y)) ?_
        refine e_bnd (g3) ?_
        unfold J_X7_takeOne_42
        exact e_f (nI_m1 g2) rfl
      · rw [g1]
        obtain ⟨m', c1, c2, c3⟩ := hend (48, at_, nI u, nI v) a' m1 (Or.inl rfl) g4 g7
        refine Or.inr ⟨_, a', m', rfl, Or.inl rfl, ?_, c2, g5, g6, c3⟩
        unfold F_X7_takeOne
        refine e_rcv ftO ?_
        refine e_f (fun y => w1 ((i91 91 (by omega)).mp y)) ?_
        refine e_f (fun y => w2 ((i91 60 (by omega)).mp y)) ?_
        refine e_bnd (g3) ?_
        exact c1
theorem c_turn {O : List Tok} {g : Lev} {r : List Lev} {n l2 : Nat} {bh : Bool} (hN : 100 ≤ N) (hTb : Tab m) (h : StC m z t at_ O (g :: r)) (ha : at_ < z) (hl : l2 < 60) :
    (∃ b m', tkn t z at_ bh (g :: r) = .inl b ∧ b < 1000 ∧ Fr psP m m' ∧ H_X7_takeAll_20 N (n + 1) 234 (b2 (bh = true)) (nI l2) (S m) = some (nI b, S m')) ∨ (∃ x a' m', tkn t z at_ bh (g :: r) = .inr (x, a') ∧ Fr psP m m' ∧ at_ < a' ∧ a' ≤ z ∧ StC m' z t a' (O ++ emi t x (g :: r)) (lvn x (g :: r)) ∧ H_X7_takeAll_20 N (n + 1) 234 (b2 (bh = true)) (nI l2) (S m) = H_X7_takeAll_20 N n 234 (b2 (bhn x = true)) (nI (l2 + 1)) (S m')) := by
  obtain ⟨⟨hT, h9, h9'⟩, hO, hL, ⟨hW, h4, h10⟩, hP, hcc⟩ := id h
  have h60 := hT.1
  have hc128 := (hT.2.2 at_ ha).1
  have i91 : ∀ k : Nat, k < 128 → (nI (t at_) = nI k ↔ t at_ = k) := fun k hk => nI_eq (by omega) (by omega)
  have start : ∀ R, J_X7_takeAll_64 N (H_X7_takeAll_20 N n) 234 (b2 (bh = true)) (nI l2) (nI (t at_)) (b2 (t at_ = 40 ∨ t at_ = 123)) (S m) = R → H_X7_takeAll_20 N (n + 1) 234 (b2 (bh = true)) (nI l2) (S m) = R := by
    intro R hR
    refine Eq.trans u_H_X7_takeAll_20 ?_
    refine e_f (by rw [leL (by decide) (by omega)]; show ¬ 60 ≤ l2; omega) ?_
    refine e_ldIV ftO (h9') ?_
    refine e_ldIV ftO (hT.2.1) ?_
    refine e_f (by rw [nI_leI (by omega) (by omega)]; omega) ?_
    refine e_ldR ftO ftR2 ?_
    refine e_ldIV ftO (h9') ?_
    refine e_alIV ftA2 rfl (by omega) ((hT.2.2 at_ ha).2) ?_
    by_cases w1 : t at_ = 40
    · refine e_t ((i91 40 (by omega)).mpr w1) ?_
      rw [b2_t (Or.inl w1)] at hR
      exact hR
    · refine e_f (fun y => w1 ((i91 40 (by omega)).mp y)) ?_
      by_cases w2 : t at_ = 123
      · refine e_t ((i91 123 (by omega)).mpr w2) ?_
        rw [b2_t (Or.inr w2)] at hR
        exact hR
      · refine e_f (fun y => w2 ((i91 123 (by omega)).mp y)) ?_
        rw [b2_f (c := t at_ = 40 ∨ t at_ = 123) (fun y => y.elim w1 w2)] at hR
        exact hR
  have j140 : ∀ (k0 : Int32) (m1 : vM), J_X7_takeAll_140 N (H_X7_takeAll_20 N n) 234 (nI l2) k0 (S m1) = H_X7_takeAll_20 N n 234 k0 (nI (l2 + 1)) (S m1) := fun k0 m1 => by
    unfold J_X7_takeAll_140
    refine e_nm ?_
    rw [addR]
  cases bh with
  | true =>
    obtain ⟨m', f1, hh⟩ := c_takeBehind (N := N) h ha
    have e1 : tkn t z at_ true (g :: r) = if cls t g (t at_) ∨ opr (t at_) then .inr ((t at_, at_, 0, 0), at_ + 1) else .inl at_ := by
      unfold tkn
      rw [if_pos rfl]
      rfl
    rcases hh with ⟨w, hF⟩ | ⟨w, hF, hS⟩
    · rw [if_neg w] at e1
      refine Or.inl ⟨at_, m', e1, by omega, f1, start _ ?_⟩
      unfold J_X7_takeAll_64
      refine e_f (by decide) ?_
      refine e_bnd (hF) ?_
      unfold J_X7_takeAll_95
      exact e_f (nI_m1 (by omega)) rfl
    · rw [if_pos w] at e1
      refine Or.inr ⟨_, _, m', e1, f1, by omega, ha, hS, start _ ?_⟩
      unfold J_X7_takeAll_64
      refine e_f (by decide) ?_
      refine e_bnd (hF) ?_
      unfold J_X7_takeAll_95
      refine e_t (rfl) ?_
      refine e_f (by decide) ?_
      by_cases y1 : t at_ = 41
      · refine e_t ((i91 41 (by omega)).mpr y1) ?_
        unfold J_X7_takeAll_122
        rw [j140, show bhn (t at_, at_, 0, 0) = true from decide_eq_true (by show t at_ = 48 ∨ _; omega)]
        rfl
      · refine e_f (fun y => y1 ((i91 41 (by omega)).mp y)) ?_
        by_cases y2 : t at_ = 125
        · refine e_t ((i91 125 (by omega)).mpr y2) ?_
          unfold J_X7_takeAll_122
          rw [j140, show bhn (t at_, at_, 0, 0) = true from decide_eq_true (by show t at_ = 48 ∨ _; omega)]
          rfl
        · refine e_f (fun y => y2 ((i91 125 (by omega)).mp y)) ?_
          rw [j140, show bhn (t at_, at_, 0, 0) = false from decide_eq_false (by show ¬ (t at_ = 48 ∨ _); unfold cls opr at w; omega)]
          rfl
  | false =>
    by_cases w : t at_ = 40 ∨ t at_ = 123
    · have e1 : tkn t z at_ false (g :: r) = if (g :: r).length < 4 then .inr ((t at_, at_, 0, 0), at_ + 1) else .inl at_ := by
        unfold tkn
        rw [if_neg (by decide), if_pos w]
      by_cases hl4 : (g :: r).length < 4
      · rw [if_pos hl4] at e1
        obtain ⟨m', c1, c2, c3⟩ := c_takeOpening (N := N) h ha hl4
        obtain ⟨e2, e3, e4⟩ := emi_o (t := t) (x := (t at_, at_, 0, 0)) (g := g) (r := r) w
        refine Or.inr ⟨_, _, m', e1, c2, by omega, ha, by rw [e2, e3, List.append_nil]; exact c3, start _ ?_⟩
        unfold J_X7_takeAll_64
        refine e_t (rfl) ?_
        refine e_f (b2_nz w) ?_
        refine e_bnd (c1) ?_
        unfold J_X7_takeAll_95
        refine e_t (rfl) ?_
        refine e_t (rfl) ?_
        refine e_f (b2_nz w) ?_
        rw [j140, e4]
        rfl
      · rw [if_neg hl4] at e1
        refine Or.inl ⟨at_, m, e1, by omega, Fr.rf, start _ ?_⟩
        unfold J_X7_takeAll_64
        refine e_t (rfl) ?_
        refine e_f (b2_nz w) ?_
        refine e_bnd (r := nI at_) (s' := S m) ?_ ?_
        · unfold F_X7_takeOpening
          refine e_rcv ftO ?_
          refine e_ldIV ftO (h10) ?_
          refine e_f (by rw [ltR (by decide) (by omega)]; show ¬ (g :: r).length - 1 < 3; omega) ?_
          refine e_ldIV ftO (h9') ?_
          rfl
        · unfold J_X7_takeAll_95
          exact e_f (nI_m1 (by omega)) rfl
    · rcases c_takeOne (N := N) hN hTb h ha w with ⟨b, g1, g2, g3⟩ | ⟨x, a', m', g1, g2, g3, g4, g5, g6, g7⟩
      · refine Or.inl ⟨b, m, g1, g2, Fr.rf, start _ ?_⟩
        unfold J_X7_takeAll_64
        refine e_t (rfl) ?_
        refine e_t (b2_f w) ?_
        refine e_bnd (g3) ?_
        unfold J_X7_takeAll_95
        exact e_f (nI_m1 g2) rfl
      · refine Or.inr ⟨x, a', m', g1, g4, g5, g6, g7, start _ ?_⟩
        unfold J_X7_takeAll_64
        refine e_t (rfl) ?_
        refine e_t (b2_f w) ?_
        refine e_bnd (g3) ?_
        unfold J_X7_takeAll_95
        refine e_t (rfl) ?_
        refine e_t (rfl) ?_
        refine e_t (b2_f w) ?_
        rw [j140, show bhn x = true from decide_eq_true (by omega)]
        rfl
theorem ps_tab {b j : Nat} (h : tabP b j) : ¬ psP b j := by
  unfold tabP at h
  unfold psP
  omega
theorem c_all_l (hN : 100 ≤ N) : ∀ (f a n l2 : Nat) (bh : Bool) (O : List Tok) (L : List Lev) (m : vM), z < a + f → l2 ≤ a → f ≤ n → Tab m → StC m z t a O L →
    ∃ m', H_X7_takeAll_20 N n 234 (b2 (bh = true)) (nI l2) (S m) = some (ip (pars t z f a bh L).1, S m') ∧ Fr psP m m' ∧ (∀ b, (pars t z f a bh L).1 = some b → b < 1000) ∧ ((pars t z f a bh L).1 = none → OrdC m' (O ++ ems t (pars t z f a bh L).2 L) ∧ (O ++ ems t (pars t z f a bh L).2 L).length ≤ 60)
  | 0, a, n, l2, bh, O, L, m, h1, _, _, _, h => by
    have := h.1.2.1
    omega
  | f + 1, a, 0, l2, bh, O, L, m, h1, h2, h3, hTb, h => by omega
  | f + 1, a, n + 1, l2, bh, O, L, m, h1, h2, h3, hTb, h => by
    obtain ⟨⟨hT, h9, h9'⟩, hO, hL, ⟨hW, h4, h10⟩, hP, hcc⟩ := id h
    have h60 := hT.1
    by_cases w : a < z
    · match L, h, hW with
      | g :: r, h, _ =>
        rcases c_turn (N := N) (n := n) (l2 := l2) (bh := bh) hN hTb h w (by omega) with ⟨b, m', e1, e2, e3, e4⟩ | ⟨x, a', m1, e1, e2, e3, e4, e5, e6⟩
        · have hp : pars t z (f + 1) a bh (g :: r) = (some b, []) := by
            rw [pars, if_pos w, e1]
          rw [hp]
          exact ⟨m', e4, e3, fun b' hb => by cases hb; exact e2, fun hb => by cases hb⟩
        · have hp : pars t z (f + 1) a bh (g :: r) = ((pars t z f a' (bhn x) (lvn x (g :: r))).1, x :: (pars t z f a' (bhn x) (lvn x (g :: r))).2) := by
            rw [pars, if_pos w, e1]
          obtain ⟨m', i1, i2, i3, i4⟩ := c_all_l hN f a' n (l2 + 1) (bhn x) (O ++ emi t x (g :: r)) (lvn x (g :: r)) m1 (by omega) (by omega) (by omega) (hTb.fr (fun b j hb => e2 b j (ps_tab hb))) e5
          rw [hp]
          refine ⟨m', e6.trans i1, e2.tr i2, i3, fun hn => ?_⟩
          have := i4 hn
          rw [List.append_assoc] at this
          exact this
    · have hp : pars t z (f + 1) a bh L = (if bh = true ∧ L.length = 1 then none else some z, []) := by
        rw [pars, if_neg w]
      have j147 : ∀ R, J_X7_takeAll_147 N 234 (b2 (bh = true)) (S m) = R → H_X7_takeAll_20 N (n + 1) 234 (b2 (bh = true)) (nI l2) (S m) = R := by
        intro R hR
        refine Eq.trans u_H_X7_takeAll_20 ?_
        by_cases y : 60 ≤ l2
        · exact e_t (by rw [leL (by decide) (by omega)]; exact y) hR
        · refine e_f (by rw [leL (by decide) (by omega)]; exact y) ?_
          refine e_ldIV ftO (h9') ?_
          refine e_ldIV ftO (hT.2.1) ?_
          exact e_t (by rw [nI_leI (by omega) (by omega)]; omega) hR
      match L, h, hW, h10, hp with
      | g :: r, h, hW, h10, hp =>
        obtain ⟨m1, p1, p2, p3⟩ := c_endProduct (N := N) h
        have h10 : rI m1 234 10 = nI r.length := p3.2.2.2.1.2.2
        have hz1 : rI m1 234 3 = nI z := p3.1.1.2.1
        rw [hp]
        refine ⟨m1, j147 _ ?_, p2, fun b hb => ?_, fun _ => ?_⟩
        · unfold J_X7_takeAll_147
          refine e_bnd (p1) ?_
          cases bh with
          | false =>
            refine e_t (rfl) ?_
            unfold J_X7_takeAll_166
            refine e_ldIV ftO (hz1) ?_
            rfl
          | true =>
            refine e_f (by decide) ?_
            refine e_ldIV ftO (h10) ?_
            by_cases y : r.length = 0
            · refine e_t (by rw [y]; rfl) ?_
              rw [if_pos ⟨rfl, by show r.length + 1 = 1; omega⟩]
              rfl
            · have hlt : r.length < 4 := by have : (g :: r).length = r.length + 1 := rfl; omega
              refine e_f (by rw [eqR (by decide) (by omega)]; exact y) ?_
              rw [if_neg (fun q => y (by have : r.length + 1 = 1 := q.2; omega))]
              unfold J_X7_takeAll_166
              refine e_ldIV ftO (hz1) ?_
              rfl
        · have hb : (if bh = true ∧ (g :: r).length = 1 then none else some z) = some b := hb
          by_cases y : bh = true ∧ (g :: r).length = 1
          · rw [if_pos y] at hb; cases hb
          · rw [if_neg y] at hb; cases hb; omega
        · have hc1 := p3.2.2.2.2.2
          exact ⟨p3.2.1, by show (O ++ ep t g).length ≤ 60; omega⟩
/-- an empty start -/
def L0 : List Lev := [(none, none, none)]
theorem c_takeAll (hN : 100 ≤ N) (hTb : Tab m) (hT : TpC m z t) : ∃ m', F_X7_takeAll N 234 (S m) = some (ip (pars t z 61 0 false L0).1, S m') ∧ Fr psP m m' ∧ (∀ b, (pars t z 61 0 false L0).1 = some b → b < 1000) ∧ ((pars t z 61 0 false L0).1 = none → OrdC m' (ems t (pars t z 61 0 false L0).2 L0) ∧ (ems t (pars t z 61 0 false L0).2 L0).length ≤ 60) := by
  have h60 := hT.1
  have f : Fr psP m (wI (wI (wI (wI (wI (wI m 234 9 (nI 0)) 234 4 (nI 0)) 234 10 (nI 0)) 240 0 (-1)) 241 0 (-1)) 242 0 (-1)) := (((((Fr.rf.sI (Or.inl ⟨rfl, by omega⟩)).sI (Or.inl ⟨rfl, by omega⟩)).sI (Or.inl ⟨rfl, by omega⟩)).sI (Or.inr (by omega))).sI (Or.inr (by omega))).sI (Or.inr (by omega))
  obtain ⟨m', c1, c2, c3, c4⟩ := c_all_l (N := N) (z := z) (t := t) hN 61 0 N 0 false [] L0 (wI (wI (wI (wI (wI (wI m 234 9 (nI 0)) 234 4 (nI 0)) 234 10 (nI 0)) 240 0 (-1)) 241 0 (-1)) 242 0 (-1)) (by omega) (Nat.le_refl _) (by omega) (hTb.fr (fun b j hb => f b j (ps_tab hb))) (by
    refine ⟨⟨hT.fr f, Nat.zero_le _, ?_⟩, ⟨?_, fun i x hx => ?_⟩, ⟨⟨?_, ?_, ?_⟩, trivial⟩, ⟨rfl, by decide, ?_⟩, fun g hg p hp => ?_, Nat.zero_le _⟩
    · rw [rI_n _ _ (by omega), rI_n _ _ (by omega), rI_n _ _ (by omega), rI_n _ _ (by omega), rI_n _ _ (by omega), rI_s]
    · rw [rI_n _ _ (by omega), rI_n _ _ (by omega), rI_n _ _ (by omega), rI_n _ _ (by omega), rI_s]
      rfl
    · cases hx
    · show rI _ 240 0 = -1
      rw [rI_n _ _ (by omega), rI_n _ _ (by omega), rI_s]
    · show rI _ 241 0 = -1
      rw [rI_n _ _ (by omega), rI_s]
    · show rI _ 242 0 = -1
      rw [rI_s]
    · rw [rI_n _ _ (by omega), rI_n _ _ (by omega), rI_n _ _ (by omega), rI_s]
      rfl
    · rcases List.mem_cons.mp hg with rfl | hg
      · rcases hp with hp | hp | hp <;> cases hp
      · cases hg)
  refine ⟨m', ?_, f.tr c2, c3, c4⟩
  unfold F_X7_takeAll
  refine e_rcv ftO ?_
  refine e_stI ftO ?_
  refine e_stI ftO ?_
  refine e_bnd (r := ()) (s' := S (wI (wI (wI (wI (wI (wI m 234 9 (nI 0)) 234 4 (nI 0)) 234 10 (nI 0)) 240 0 (-1)) 241 0 (-1)) 242 0 (-1))) ?_ c1
  unfold F_X7_startLevel
  refine e_rcv ftO ?_
  refine e_stI ftO ?_
  refine e_ldR ftO ftR11 ?_
  refine e_asI ftA11 (j := 0) rfl (by omega) ?_
  refine e_ldR ftO ftR12 ?_
  refine e_asI ftA12 (j := 0) rfl (by omega) ?_
  refine e_ldR ftO ftR13 ?_
  refine e_asI ftA13 (j := 0) rfl (by omega) ?_
  rfl
/-- the place of the first network that there is not -/
def mis : List Tok → Option Nat
  | [] => none
  | x :: r => if (x.1 = 91 ∨ x.1 = 60) ∧ x.2.2.1 = -1 then some x.2.1 else mis r
def fl2 : Option Nat → Int32
  | none => 0
  | some p => -2000 - nI p
theorem c_apart_l {O : List Tok} (hO : OrdC m O) (hl : O.length ≤ 60) : ∀ (d i n : Nat), i + d = O.length → d < n → H_X7_takeApart_18 N n 234 (nI i) (S m) = some (fl2 (mis (O.drop i)), S m)
  | _, _, 0, _, h => by omega
  | 0, i, n + 1, hi, _ => by
    refine Eq.trans u_H_X7_takeApart_18 ?_
    refine e_ldIV ftO (hO.1) ?_
    rw [List.drop_eq_nil_of_le (by omega)]
    exact e_t (by rw [nI_leI (by omega) (by omega)]; omega) rfl
  | d + 1, i, n + 1, hi, hd => by
    have ih := c_apart_l hO hl d (i + 1) n (by omega) (by omega)
    have hlt : i < O.length := by omega
    obtain ⟨x, hx⟩ : ∃ x, O[i]? = some x := ⟨O[i], List.getElem?_eq_getElem hlt⟩
    have hdr : O.drop i = x :: O.drop (i + 1) := by
      rw [List.drop_eq_getElem_cons hlt]
      rw [List.getElem?_eq_getElem hlt] at hx
      rw [Option.some.inj hx]
    obtain ⟨x1, x2, x3, x4, x5, x6⟩ := hO.2 i x hx
    rw [hdr, mis]
    have j69 : J_X7_takeApart_69 N (H_X7_takeApart_18 N n) 234 (nI i) (S m) = some (fl2 (mis (O.drop (i + 1))), S m) := by
      unfold J_X7_takeApart_69
      refine e_nm ?_
      rw [addR]
      exact ih
    have j48 : (x.1 = 91 ∨ x.1 = 60) → J_X7_takeApart_48 N (H_X7_takeApart_18 N n) 234 (nI i) (S m) = some (fl2 (if (x.1 = 91 ∨ x.1 = 60) ∧ x.2.2.1 = -1 then some x.2.1 else mis (O.drop (i + 1))), S m) := by
      intro y
      unfold J_X7_takeApart_48
      refine e_ldR ftO ftR7 ?_
      refine e_alIV ftA7 rfl (by omega) (x3) ?_
      by_cases v : x.2.2.1 = -1
      · refine e_t (v) ?_
        refine e_ldR ftO ftR6 ?_
        refine e_alIV ftA6 rfl (by omega) (x2) ?_
        rw [if_pos ⟨y, v⟩]
        refine e_bnd (r := (-2000) - nI x.2.1) (s' := S m) ?_ rfl
        rfl
      · refine e_f (v) ?_
        rw [if_neg (fun q => v q.2)]
        exact j69
    refine Eq.trans u_H_X7_takeApart_18 ?_
    refine e_ldIV ftO (hO.1) ?_
    refine e_f (by rw [nI_leI (by omega) (by omega)]; omega) ?_
    refine e_ldR ftO ftR5 ?_
    refine e_alIV ftA5 rfl (by omega) (x1) ?_
    by_cases y1 : x.1 = 91
    · refine e_t (by rw [y1]; rfl) ?_
      exact j48 (Or.inl y1)
    refine e_f (by rw [eqR (by decide) (by omega)]; exact y1) ?_
    refine e_ldR ftO ftR5 ?_
    refine e_alIV ftA5 rfl (by omega) (x1) ?_
    by_cases y2 : x.1 = 60
    · refine e_t (by rw [y2]; rfl) ?_
      exact j48 (Or.inr y2)
    refine e_f (by rw [eqR (by decide) (by omega)]; exact y2) ?_
    rw [if_neg (fun q => q.1.elim y1 y2)]
    exact j69
def fl1 (x : Option Nat) (T : List Tok) : Int32 := match x with
  | some b => -1000 - nI b
  | none => fl2 (mis T)
theorem c_takeApart (hN : 100 ≤ N) (hTb : Tab m) (hT : TpC m z t) : ∃ m', F_X7_takeApart N 234 (S m) = some (fl1 (pars t z 61 0 false L0).1 (ems t (pars t z 61 0 false L0).2 L0), S m') ∧ Fr psP m m' ∧ (∀ b, (pars t z 61 0 false L0).1 = some b → b < 1000) ∧ ((pars t z 61 0 false L0).1 = none → OrdC m' (ems t (pars t z 61 0 false L0).2 L0) ∧ (ems t (pars t z 61 0 false L0).2 L0).length ≤ 60) := by
  obtain ⟨m', c1, c2, c3, c4⟩ := c_takeAll (N := N) hN hTb hT
  refine ⟨m', ?_, c2, c3, c4⟩
  unfold F_X7_takeApart
  refine e_rcv ftO ?_
  refine e_bnd (c1) ?_
  cases hp : (pars t z 61 0 false L0).1 with
  | some b =>
    refine e_f (nI_m1 (c3 b hp)) ?_
    rfl
  | none =>
    refine e_t (rfl) ?_
    exact c_apart_l (c4 hp).1 (c4 hp).2 (ems t (pars t z 61 0 false L0).2 L0).length 0 N (by omega) (by have := (c4 hp).2; omega)
end RD5
