/-! the class: sizes, sums and products of two, averaged, lifted, values -/
section CCOMB
variable {N : Nat} {m : vM} {s : vS}
theorem c_max {a b : Nat} (ha : a < 7) (hb : b < 7) : F_J9_max_7cf53 N (gv a) (gv b) s = some (gv (max a b), s) := by
  unfold F_J9_max_7cf53 J_J9_max_7cf53_10
  by_cases z : a < b
  · refine e_t ((gv_lt a ha b hb).mpr z) ?_
    rw [Nat.max_eq_right (by omega)]
  · refine e_f (fun w => z ((gv_lt a ha b hb).mp w)) ?_
    rw [Nat.max_eq_left (by omega)]
theorem c_great_l {q : Bool} {a : Nat} {o : Row} (sa : SumAt a) (hT : Tab m) (r1 : RowC m a o) : ∀ (d i n g : Nat), i + d = mny q → d < n → g ≤ 5 → H_X0_greatestSize_12 N n a (fo q) (gv g) (nI i) (S m) = some (gv (fld (grs q o) d i g), S m)
  | _, _, 0, _, _, h, _ => by omega
  | 0, i, n + 1, g, hi, _, _ => by
    have ha := adr q
    refine Eq.trans u_H_X0_greatestSize_12 ?_
    refine e_ldIV gO (hT.1 q).2.2 ?_
    exact e_t (by rw [nI_leI (by omega) (by omega)]; omega) rfl
  | d + 1, i, n + 1, g, hi, hd, hg => by
    have ha := adr q
    obtain ⟨o1, o2, o3, o4, o5⟩ := id sa
    have e1 : rJ m (a + 1) i = (o i).1 := congrArg Prod.fst (r1 i (by omega))
    have hz := szc q i (by omega)
    refine Eq.trans u_H_X0_greatestSize_12 ?_
    refine e_ldIV gO (hT.1 q).2.2 ?_
    refine e_f (by rw [nI_leI (by omega) (by omega)]; omega) ?_
    refine e_ldR o1 o2 ?_
    refine e_alJV o4 rfl (by omega) e1 ?_
    rw [fld]
    by_cases z : (o i).1 = 0
    · refine e_t ((lg_cmp_eq _ _).mpr z) ?_
      unfold J_X0_greatestSize_47
      refine e_nm ?_
      rw [addR, show grs q o i g = g by unfold grs; rw [if_pos z]]
      exact c_great_l sa hT r1 d (i + 1) n g (by omega) (by omega) hg
    · refine e_f (fun w => z ((lg_cmp_eq _ _).mp w)) ?_
      refine e_ldR gO gR3 ?_
      refine e_alIV gA3 rfl (by omega) (hT.2.1 q i (by omega)).1 ?_
      have hw : nI (sz_ q i) = gv (sz_ q i + 1) := by unfold gv; rw [if_neg (by omega)]; rfl
      rw [hw]
      refine e_bnd (c_max (by omega) (by omega)) ?_
      unfold J_X0_greatestSize_47
      refine e_nm ?_
      rw [addR, show grs q o i g = max g (sz_ q i + 1) by unfold grs; rw [if_neg z]]
      exact c_great_l sa hT r1 d (i + 1) n _ (by omega) (by omega) (by omega)
theorem c_greatestSize {q : Bool} {a : Nat} {x : Int32} {o : Row} (hN : 100 ≤ N) (hx : q = true ↔ x = 2) (sa : SumAt a) (hT : Tab m) (r1 : RowC m a o) : F_X0_greatestSize N 223 a x (S m) = some (gv (gr q o), S m) := by
  have ha := adr q
  unfold F_X0_greatestSize
  refine e_rcv faO ?_
  refine e_bnd (c_familyOf hx) ?_
  exact c_great_l sa hT r1 (mny q) 0 N 0 (by omega) (by omega) (by omega)
/-- the class's number of a kind: 0 neither, 1 flags, 2 rooted (the model's: 2, 0, 1) -/
def kc (k : Nat) : Int32 := nI ((k + 1) % 3)
theorem c_isTooLarge {q : Bool} {a b k : Nat} (ha : a < 6) (hb : b < 6) (hk : k < 3) (hq : q = true ↔ k = 1) : F_X0_isTooLarge N (gv a) (gv b) (kc k) s = some (if decide (1 ≤ a ∧ 1 ≤ b ∧ 6 + sh_ q < a + b) = true then 1 else 0, s) := by
  have h : ∀ a, a < 6 → ∀ b, b < 6 → ∀ k, k < 3 → (F_X0_isTooLarge 0 (gv a) (gv b) (kc k) ((0, 0), fun _ => (0, 0), fun _ _ => 0, fun _ _ => 0, fun _ _ => none)).map (·.1) = some (if decide (1 ≤ a ∧ 1 ≤ b ∧ 6 + sh_ (decide (k = 1)) < a + b) = true then 1 else 0) := by decide +kernel
  have g : ∀ (x y z : Int32) (s' : vS), F_X0_isTooLarge N x y z s = ((F_X0_isTooLarge 0 x y z s').map (·.1)).map (fun r => (r, s)) := by
    intro x y z s'
    unfold F_X0_isTooLarge J_X0_isTooLarge_13 J_X0_isTooLarge_34 J_X0_isTooLarge_35
    unfold nm
    repeat' split
    all_goals first
      | rfl
      | (dsimp only; split <;> rfl)
  have hq' : q = decide (k = 1) := by
    cases q with
    | true => exact (decide_eq_true (hq.mp rfl)).symm
    | false => exact (decide_eq_false (fun w => absurd (hq.mpr w) (by decide))).symm
  rw [g _ _ _ _, h a ha b hb k hk, hq']
  rfl
/-- a sum of the class: its kind, its row -/
def SumC (m : vM) (a k : Nat) (o : Row) : Prop := rI m a 0 = kc k ∧ RowC m a o
def cmP (a4 b j : Nat) : Prop := muQ b j ∨ (a4 ≤ b ∧ b ≤ a4 + 2)
theorem kc_E {row : Row} {kd : Nat} : (if cnt (fun k => (row k).1 ≠ 0) 29 = 0 then 0 else kc kd) = kc (kdE row kd) := by
  unfold kdE
  split
  · rfl
  · rfl
/-- the end of each: settled, and laid where it belongs -/
theorem c_end {a4 kd : Nat} {row : Row} (hN : 100 ≤ N) (s4 : SumAt a4) (p4 : Apart a4) (hc : CR m row) :
    ∃ m1 m', F_X6_settle N 226 (kc kd) (S m) = some ((), S m1) ∧ F_X6_become N a4 226 (S m1) = some ((), S m') ∧ Fr (cmP a4) m m' ∧ SumC m' a4 (kdE row kd) row := by
  have h := c_settle (N := N) (m := m) sum226 hN (kc kd)
  obtain ⟨m', g1, g2, g3, g4⟩ := c_copy (N := N) (m := wI m 226 0 (if cnt (fun k => rJ m (226 + 1) k ≠ 0) 29 = 0 then 0 else kc kd)) s4 sum226 (by unfold Apart at p4; omega) hN
  have he : cnt (fun k => rJ m (226 + 1) k ≠ 0) 29 = cnt (fun k => (row k).1 ≠ 0) 29 := cnt_c 29 (fun k hk => by
    have e : rJ m (226 + 1) k = (row k).1 := congrArg Prod.fst (hc k hk)
    rw [e])
  refine ⟨_, m', h, g1, fun b j hb => ?_, ?_, fun k hk => ?_⟩
  · unfold cmP muQ at hb
    rw [g2, if_neg (by omega), g4 b j (by omega), rI_n _ _ (by omega)]
    exact ⟨rfl, rfl⟩
  · rw [g2, if_pos ⟨rfl, rfl⟩, rI_s, he, kc_E]
  · rw [← hc k hk]
    show (rJ m' (a4 + 1) k, rJ m' (a4 + 2) k) = (rJ m 227 k, rJ m 228 k)
    rw [(g3 k hk).1, (g3 k hk).2]
    rfl
/-- one row more, or less, in the result -/
theorem c_uniteR {a b : Nat} {o p : Row} {less : Prop} [Decidable less] (ha : SumAt a) (hb : SumAt b) (pa : Apart a) (pb : Apart b) (hN : 100 ≤ N) (lo : Lows o) (lp : Lows p) (r1 : RowC m a o) (r2 : RowC m b p) :
    ∃ (m' : vM) (r : Int32), F_X0_unite N 223 a b (b2 less) (S m) = some (r, S m') ∧ Fr muQ m m' ∧ match sumF p less 29 0 o with
      | some row' => r = 1 ∧ CR m' row'
      | none => r = 0 := by
  unfold Apart at pa pb
  obtain ⟨m1, h1, h2, h3, h4⟩ := c_copy (N := N) (m := m) sum226 ha (by omega) hN
  have hb1 : ∀ k, k < 29 → rowC m1 b k = p k := fun k hk => by
    rw [← r2 k hk]
    show (rJ m1 (b + 1) k, rJ m1 (b + 2) k) = (rJ m (b + 1) k, rJ m (b + 2) k)
    rw [h4 _ _ (by omega), h4 _ _ (by omega)]
  obtain ⟨m', r, g1, g2, g3, g4⟩ := c_unite_l (N := N) hb (by omega) (less := less) hN 29 0 N m1 o rfl (by omega) (fun k hk => by
    rw [← r1 k hk]
    show (rJ m1 (226 + 1) k, rJ m1 (226 + 2) k) = (rJ m (a + 1) k, rJ m (a + 2) k)
    rw [(h3 k hk).1, (h3 k hk).2]) lo (fun k hk => by rw [hb1 k hk]; exact lp k hk)
  rw [sumF_o hb1 29 0 o rfl] at g4
  refine ⟨m', r, ?_, fun c j hc => ⟨?_, ?_⟩, g4⟩
  · unfold F_X0_unite
    refine e_rcv faO ?_
    refine e_ldR faO faR4 ?_
    refine e_bnd h1 ?_
    exact g1
  · unfold muQ at hc
    rw [g2, h2, if_neg (by omega)]
  · unfold muQ at hc
    rw [g3 c j (by omega) (by omega), h4 c j (by omega)]
theorem sumF_low {o p : Row} {less : Prop} [Decidable less] (lp : Lows p) : ∀ (d i : Nat) (row row' : Row), i + d = 29 → Lows row → sumF p less d i row = some row' → Lows row'
  | 0, _, row, row', _, hl, e => by cases e; exact hl
  | d + 1, i, row, row', hi, hl, e => by
    rw [sumF] at e
    have lpi := lp i (by omega)
    by_cases z : (p i).1 = 0
    · rw [if_pos z] at e
      exact sumF_low (o := o) lp d (i + 1) row row' (by omega) hl e
    · rw [if_neg z] at e
      cases hs : sgn less (p i) with
      | none => rw [hs] at e; cases e
      | some q =>
        rw [hs] at e
        dsimp only at e
        have hq : 0 < q.2.toInt := by
          unfold sgn at hs
          by_cases w : less
          · rw [if_pos w] at hs; exact fmul_pos one1 lpi.1 hs
          · rw [if_neg w] at hs; cases hs; exact lpi.1
        cases ha : acc row i q with
        | none => rw [ha] at e; cases e
        | some row1 =>
          rw [ha] at e
          dsimp only at e
          exact sumF_low (o := o) lp d (i + 1) row1 row' (by omega) (acc_low (by omega) hl hq ha) e
def sumX (w : Nat) (q : Bool) (o p : Row) : Option Row := if w = 2 then mulG q (fun f g => sz_ q f + sz_ q g - sh_ q) o p (mny q) else sumF p (w = 1) 29 0 o
def tooX (w : Nat) (q : Bool) (o p : Row) : Bool := decide (w = 2 ∧ 1 ≤ gr q o ∧ 1 ≤ gr q p ∧ 6 + sh_ q < gr q o + gr q p)
theorem kcs : ∀ k1, k1 < 3 → ∀ k2, k2 < 3 → (kc k1 = 0 ↔ k1 = 2) ∧ (kc k1 = kc k2 ↔ k1 = k2) ∧ (kc k1 = 2 ↔ k1 = 1) ∧ (kc k1 = 1 ↔ k1 = 0) := by decide +kernel
theorem c_combine {q : Bool} {a1 a2 a4 k1 k2 w : Nat} {o p : Row} (hN : 100 ≤ N) (s1 : SumAt a1) (s2 : SumAt a2) (s4 : SumAt a4) (p1 : Apart a1) (p2 : Apart a2) (p4 : Apart a4) (hk1 : k1 < 3) (hk2 : k2 < 3) (hw : w < 3) (hq : q = true ↔ mn k1 k2 = 1) (lo : Lows o) (lp : Lows p) (hT : Tab m) (r1 : SumC m a1 k1 o) (r2 : SumC m a2 k2 p) :
    ∃ (m' : vM) (v : Int32), F_X0_combine N 223 a1 a2 (nI w) a4 (S m) = some (v, S m') ∧ Fr (cmP a4) m m' ∧ (if k1 + k2 = 1 then v = -2 else if tooX w q o p = true then v = -4 else match sumX w q o p with
      | none => v = -6
      | some row => v = 0 ∧ SumC m' a4 (kdE row (mn k1 k2)) row ∧ Lows row) := by
  have c1 := kcs k1 hk1 k2 hk2
  have c2 := kcs k2 hk2 k1 hk1
  have hkm : mn k1 k2 < 3 := by unfold mn; split <;> omega
  have cm := kcs (mn k1 k2) hkm k1 hk1
  obtain ⟨e1, ro⟩ := r1
  obtain ⟨e2, rp⟩ := r2
  have hx : q = true ↔ kc (mn k1 k2) = 2 := hq.trans cm.2.2.1.symm
  by_cases un : k1 + k2 = 1
  · refine ⟨m, -2, ?_, Fr.rf, by rw [if_pos un]⟩
    unfold F_X0_combine
    refine e_rcv faO ?_
    refine e_ldIV s1.1 e1 ?_
    refine e_f (fun z => by have := c1.1.mp z; omega) ?_
    refine e_ldIV s2.1 e2 ?_
    refine e_f (fun z => by have := c2.1.mp z; omega) ?_
    refine e_ldIV s1.1 e1 ?_
    refine e_ldIV s2.1 e2 ?_
    exact e_f (fun z => by have := c1.2.1.mp z; omega) rfl
  simp only [if_neg un]
  have h28 : ∀ R, J_X0_combine_46 N 223 a1 a2 (nI w) a4 (kc (mn k1 k2)) (S m) = R → F_X0_combine N 223 a1 a2 (nI w) a4 (S m) = R := by
    intro R hR
    have j28 : J_X0_combine_28 N 223 a1 a2 (nI w) a4 (S m) = R := by
      unfold J_X0_combine_28
      refine e_ldIV s1.1 e1 ?_
      unfold mn at hR
      by_cases z : k1 = 2
      · refine e_t (c1.1.mpr z) ?_
        refine e_ldIV s2.1 e2 ?_
        rw [if_pos (by omega)] at hR
        exact hR
      · refine e_f (fun y => z (c1.1.mp y)) ?_
        refine e_ldIV s1.1 e1 ?_
        by_cases y : k2 ≤ k1
        · rw [if_pos y, show k2 = k1 by omega] at hR; exact hR
        · rw [if_neg y] at hR; exact hR
    unfold F_X0_combine
    refine e_rcv faO ?_
    refine e_ldIV s1.1 e1 ?_
    by_cases z1 : k1 = 2
    · exact e_t (c1.1.mpr z1) j28
    refine e_f (fun y => z1 (c1.1.mp y)) ?_
    refine e_ldIV s2.1 e2 ?_
    by_cases z2 : k2 = 2
    · exact e_t (c2.1.mpr z2) j28
    refine e_f (fun y => z2 (c2.1.mp y)) ?_
    refine e_ldIV s1.1 e1 ?_
    refine e_ldIV s2.1 e2 ?_
    exact e_t (c1.2.1.mpr (by omega)) j28
  have h120 : ∀ m1 row, Fr muQ m m1 → CR m1 row → ∃ m', J_X0_combine_120 N 223 a4 (kc (mn k1 k2)) (S m1) = some (0, S m') ∧ Fr (cmP a4) m m' ∧ SumC m' a4 (kdE row (mn k1 k2)) row := by
    intro m1 row f1 hc
    obtain ⟨m2, m3, t1, t2, t3, t4⟩ := c_end (N := N) (kd := mn k1 k2) hN s4 p4 hc
    refine ⟨m3, ?_, (f1.mo (fun b j h => Or.inl h)).tr t3, t4⟩
    unfold J_X0_combine_120
    refine e_ldR faO faR4 ?_
    refine e_bnd t1 ?_
    refine e_ldR faO faR4 ?_
    refine e_bnd t2 ?_
    rfl
  have g1 := c_greatestSize (N := N) hN hx s1 hT ro
  have g2 := c_greatestSize (N := N) hN hx s2 hT rp
  have gq := gr_5 (q := q) (o := o)
  have gp := gr_5 (q := q) (o := p)
  by_cases w2 : w = 2
  · subst w2
    have hT2 : tooX 2 q o p = decide (1 ≤ gr q o ∧ 1 ≤ gr q p ∧ 6 + sh_ q < gr q o + gr q p) := by
      unfold tooX
      by_cases z : 1 ≤ gr q o ∧ 1 ≤ gr q p ∧ 6 + sh_ q < gr q o + gr q p
      · rw [decide_eq_true z, decide_eq_true ⟨rfl, z⟩]
      · rw [decide_eq_false z, decide_eq_false (fun y => z y.2)]
    have tl := c_isTooLarge (N := N) (s := S m) (q := q) (a := gr q o) (b := gr q p) (by omega) (by omega) hkm hq
    rw [← hT2] at tl
    have h46 : ∀ R, (if (if tooX 2 q o p = true then (1 : Int32) else 0) = 0 then J_X0_combine_78 N 223 a1 a2 2 a4 (kc (mn k1 k2)) (S m) else some (-4, S m)) = R → F_X0_combine N 223 a1 a2 (nI 2) a4 (S m) = R := by
      intro R hR
      refine h28 R ?_
      unfold J_X0_combine_46
      refine e_t rfl ?_
      refine e_bnd g1 ?_
      refine e_bnd g2 ?_
      refine e_bnd tl ?_
      exact hR
    by_cases tg : tooX 2 q o p = true
    · refine ⟨m, -4, h46 _ ?_, Fr.rf, by rw [if_pos tg]⟩
      rw [if_pos tg]
      rfl
    · simp only [if_neg tg]
      have hadr := adr q
      obtain ⟨m1, r, t1, t2, t3⟩ := c_multiply (N := N) (q := q) (x := kc (mn k1 k2)) (l4 := -1) (sf := fun f g => sz_ q f + sz_ q g - sh_ q) hN hx s1 s2 p1 p2 lo lp (Or.inl ⟨rfl, fun _ _ => rfl⟩) (fun f g hf hg zf zg => by
        have y1 := gr_ge hf zf
        have y2 := gr_ge hg zg
        have x1 := szc q f hf
        have x2 := szc q g hg
        have : ¬ (1 ≤ gr q o ∧ 1 ≤ gr q p ∧ 6 + sh_ q < gr q o + gr q p) := fun y => tg (by rw [hT2]; exact decide_eq_true y)
        refine ⟨Nat.le_refl _, ?_, ?_⟩
        · show sz_ q f + sz_ q g - sh_ q < 5
          omega
        · show sh_ q ≤ sz_ q f + sz_ q g - sh_ q
          omega) hT ro rp
      have hg : ∀ R, (if r = 0 then J_X0_combine_117 N (S m1) else J_X0_combine_120 N 223 a4 (kc (mn k1 k2)) (S m1)) = R → F_X0_combine N 223 a1 a2 (nI 2) a4 (S m) = R := by
        intro R hR
        refine h46 R ?_
        rw [if_neg tg, if_pos rfl]
        unfold J_X0_combine_78
        refine e_t rfl ?_
        refine e_bnd t1 ?_
        exact hR
      have hsx : sumX 2 q o p = mulG q (fun f g => sz_ q f + sz_ q g - sh_ q) o p (mny q) := rfl
      simp only [hsx]
      cases hres : mulG q (fun f g => sz_ q f + sz_ q g - sh_ q) o p (mny q) with
      | none =>
        rw [hres] at t3
        subst t3
        exact ⟨m1, -6, hg _ (e_t rfl rfl), t2.mo (fun b j h => Or.inl h), rfl⟩
      | some row =>
        rw [hres] at t3
        obtain ⟨rfl, d1, d2⟩ := t3
        obtain ⟨m', v1, v2, v3⟩ := h120 m1 row t2 d1
        exact ⟨m', 0, hg _ (e_f (by decide) v1), v2, rfl, v3, d2⟩
  · have hno : ¬ tooX w q o p = true := fun z => w2 (of_decide_eq_true z).1
    simp only [if_neg hno]
    obtain ⟨m1, r, t1, t2, t3⟩ := c_uniteR (N := N) (less := w = 1) s1 s2 p1 p2 hN lo lp ro rp
    have hne : ¬ nI w = 2 := by rw [eqR (by decide) (by omega)]; exact w2
    have hg : ∀ R, (if r = 0 then J_X0_combine_117 N (S m1) else J_X0_combine_120 N 223 a4 (kc (mn k1 k2)) (S m1)) = R → F_X0_combine N 223 a1 a2 (nI w) a4 (S m) = R := by
      intro R hR
      refine h28 R ?_
      unfold J_X0_combine_46
      refine e_f hne ?_
      unfold J_X0_combine_78
      refine e_f hne ?_
      by_cases w1 : w = 1
      · refine e_t (by rw [w1]; rfl) ?_
        rw [b2_t w1] at t1
        unfold J_X0_combine_111
        refine e_bnd t1 ?_
        exact hR
      · refine e_f (by rw [eqR (by decide) (by omega)]; exact w1) ?_
        rw [b2_f w1] at t1
        unfold J_X0_combine_111
        refine e_bnd t1 ?_
        exact hR
    have hsx : sumX w q o p = sumF p (w = 1) 29 0 o := by unfold sumX; rw [if_neg w2]
    simp only [hsx]
    cases hres : sumF p (w = 1) 29 0 o with
    | none =>
      rw [hres] at t3
      subst t3
      exact ⟨m1, -6, hg _ (e_t rfl rfl), t2.mo (fun b j h => Or.inl h), rfl⟩
    | some row =>
      rw [hres] at t3
      obtain ⟨rfl, d1⟩ := t3
      obtain ⟨m', v1, v2, v3⟩ := h120 m1 row t2 d1
      exact ⟨m', 0, hg _ (e_f (by decide) v1), v2, rfl, v3, sumF_low (o := o) lp 29 0 o row rfl lo hres⟩
end CCOMB
