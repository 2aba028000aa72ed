/-! among which numbers the results lie; sums without terms -/
section INX
def InX (q : Bool) (X : Option Row) : Prop := ∀ row, X = some row → In q row
theorem acc_in {q : Bool} {row row' : Row} {h : Nat} {p : Fc} (hh : h < mny q) (hi : In q row) (e : acc row h p = some row') : In q row' := by
  unfold acc at e
  cases hf : fadd (row h).1 (row h).2 p.1 p.2 with
  | none => rw [hf] at e; cases e
  | some v =>
    rw [hf] at e
    cases e
    intro k hk hz
    by_cases w : k = h
    · rw [w]; exact hh
    · have hz : (if k = h then v else row k).1 ≠ 0 := hz
      rw [if_neg w] at hz
      exact hi k hk hz
theorem stA_in {q : Bool} {h : Nat} {qo : Option Fc} {X : Option Row} (hh : h < mny q) (hi : InX q X) : InX q (stA h qo X) := by
  intro row e
  cases X with
  | none => cases e
  | some r =>
    cases qo with
    | none => cases e
    | some p => exact acc_in hh (hi r rfl) e
theorem row0_in (q : Bool) : In q row0 := fun k _ h => absurd rfl h
theorem InX.r0 (q : Bool) : InX q (some row0) := fun row e => by cases e; exact row0_in q
theorem fld_inx {q : Bool} {g : Nat → Option Row → Option Row} : ∀ (d i : Nat) (X : Option Row), InX q X → (∀ j X, i ≤ j → j < i + d → InX q X → InX q (g j X)) → InX q (fld g d i X)
  | 0, _, _, h, _ => h
  | d + 1, i, X, h, hs => fld_inx d (i + 1) _ (hs i X (Nat.le_refl _) (by omega) h) (fun j X h1 h2 h3 => hs j X (by omega) (by omega) h3)
theorem stM_in {q : Bool} {f g size : Nat} {b : Fc} {X : Option Row} (h : InX q X) : InX q (stM q f g size b X) := by
  refine fld_inx _ _ _ h (fun j X _ hj hX => ?_)
  unfold mstep
  split
  · split
    · exact hX
    · exact stA_in (by omega) hX
  · exact hX
theorem stB_in {q : Bool} {f g size : Nat} {o p : Row} {X : Option Row} (h : InX q X) : InX q (stB q f g size o p X) := by
  unfold stB
  split
  · intro row e; cases e
  · exact stM_in h
theorem mulG_in {q : Bool} {sf : Nat → Nat → Nat} {o p : Row} {M : Nat} : InX q (mulG q sf o p M) := by
  refine fld_inx _ _ _ (InX.r0 q) (fun f X _ _ hX => ?_)
  refine fld_inx _ _ _ hX (fun g X _ _ hX => ?_)
  unfold gstep
  split
  · exact hX
  · exact stB_in hX
theorem liftG_in {q : Bool} {size : Nat} {o : Row} {M : Nat} : InX q (liftG q size o M) := by
  refine fld_inx _ _ _ (InX.r0 q) (fun f X _ _ hX => ?_)
  show InX q (if (o f).1 = 0 then X else stM q 0 f size (o f) X)
  split
  · exact hX
  · exact stM_in hX
theorem avg_in {o : Row} : InX false (avgX o) := by
  refine fld_inx _ _ _ (InX.r0 false) (fun r X _ hr hX => ?_)
  unfold astep
  split
  · exact hX
  · exact stA_in (bac r (by omega)).1 hX
theorem sumF_in {q : Bool} {p : Row} {less : Prop} [Decidable less] (ip : In q p) : ∀ (d i : Nat) (row row' : Row), i + d = 29 → In q row → sumF p less d i row = some row' → In q row'
  | 0, _, row, row', _, hl, e => by cases e; exact hl
  | d + 1, i, row, row', hi, hl, e => by
    rw [sumF] at e
    by_cases z : (p i).1 = 0
    · rw [if_pos z] at e
      exact sumF_in ip d (i + 1) row row' (by omega) hl e
    · rw [if_neg z] at e
      cases hs : sgn less (p i) with
      | none => rw [hs] at e; cases e
      | some v =>
        rw [hs] at e
        dsimp only at e
        cases ha : acc row i v with
        | none => rw [ha] at e; cases e
        | some row1 =>
          rw [ha] at e
          dsimp only at e
          exact sumF_in ip d (i + 1) row1 row' (by omega) (acc_in (ip i (by omega) z) hl ha) e
theorem mulG_29 {q : Bool} {sf : Nat → Nat → Nat} {o p : Row} (io : In q o) (ip : In q p) : mulG q sf o p 29 = mulG q sf o p (mny q) := by
  unfold mulG
  rw [fld_in io (g := fstep q sf o p 29) (fun j x z => by
    unfold fstep
    exact fld_id _ _ _ (fun i y _ _ => by unfold gstep; rw [if_pos (Or.inl z)]))]
  refine fld_congr _ _ _ (fun f X _ _ => ?_)
  exact fld_in ip (fun j x z => by unfold gstep; rw [if_pos (Or.inr z)]) X
/-- no terms -/
def Emp (o : Row) : Prop := ∀ j, j < 29 → (o j).1 = 0
theorem sumF_emp {p : Row} {less : Prop} [Decidable less] (h : Emp p) : ∀ (d i : Nat) (row : Row), i + d = 29 → sumF p less d i row = some row
  | 0, _, _, _ => rfl
  | d + 1, i, row, hi => by
    rw [sumF, if_pos (h i (by omega))]
    exact sumF_emp h d (i + 1) row (by omega)
theorem row0_emp : Emp row0 := fun _ _ => rfl
theorem mulG_emp {q : Bool} {sf : Nat → Nat → Nat} {o p : Row} (h : Emp o) : mulG q sf o p (mny q) = some row0 := by
  have ha := adr q
  refine fld_id _ _ _ (fun f X _ hf => ?_)
  exact fld_id _ _ _ (fun g Y _ _ => by unfold gstep; rw [if_pos (Or.inl (h f (by omega)))])
theorem liftG_emp {q : Bool} {size : Nat} {o : Row} (h : Emp o) : liftG q size o 29 = some row0 := fld_id _ _ _ (fun f X _ hf => by
  show (if (o f).1 = 0 then X else _) = X
  rw [if_pos (h f (by omega))])
theorem avg_emp {o : Row} (h : Emp o) : avgX o = some row0 := fld_id _ _ _ (fun f X _ hf => by
  show (if (o f).1 = 0 then X else _) = X
  rw [if_pos (h f (by omega))])
theorem val_emp {q : Bool} {nn : Nat} {r : Nat → Nat} {root : Option Nat} {o : Row} (h : Emp o) : valX q nn r root o 29 = some row0 := fld_id _ _ _ (fun f X _ hf => by
  show (if (o f).1 = 0 then X else _) = X
  rw [if_pos (h f (by omega))])
def nt (o : Row) : Nat := cnt (fun k => (o k).1 ≠ 0) 29
theorem nt_emp {o : Row} : nt o = 0 ↔ Emp o := by
  constructor
  · intro h j hj
    refine Classical.byContradiction (fun z => ?_)
    have := cnt_ltm (p := fun _ => False) (q := fun k => (o k).1 ≠ 0) (k0 := j) 29 (fun _ _ w => w.elim) hj z (fun w => w)
    unfold nt at h
    omega
  · intro h
    exact cnt_0 29 (fun k hk w => w (h k hk))
theorem nt_le (o : Row) : nt o ≤ 29 := cnt_le _ 29
theorem kdE_2 {row : Row} {kd : Nat} (h : kdE row kd = 2) : Emp row ∨ kd = 2 := by
  unfold kdE at h
  by_cases z : nt row = 0
  · exact Or.inl (nt_emp.mp z)
  · unfold nt at z; rw [if_neg z] at h; exact Or.inr h
theorem kdE_lt {row : Row} {kd : Nat} (h : kd < 3) : kdE row kd < 3 := by
  unfold kdE
  split <;> omega
theorem kdE_1 {row : Row} {kd : Nat} (h : kdE row kd ≠ 1) : kd ≠ 1 ∨ Emp row := by
  unfold kdE at h
  by_cases z : nt row = 0
  · exact Or.inr (nt_emp.mp z)
  · unfold nt at z; rw [if_neg z] at h; exact Or.inl h
theorem Emp.inq {o : Row} (h : Emp o) (q : Bool) : In q o := fun k hk z => absurd (h k hk) z
theorem In.tr (o : Row) : In true o := fun k hk _ => hk
/-- what Good has for a family's flag -/
theorem Good.inq {k : Nat} {o : Row} (h : Good k o) {q : Bool} (hq : k = 1 → q = true) : In q o := by
  cases q with
  | true => exact In.tr o
  | false => exact h.2.2.1 (fun w => absurd (hq w) (by decide))
/-- the sum of two is good -/
theorem sumX_good {q : Bool} {k1 k2 w : Nat} {o p row : Row} (g1 : Good k1 o) (g2 : Good k2 p) (un : k1 + k2 ≠ 1) (hq : q = true ↔ mn k1 k2 = 1) (e : sumX w q o p = some row) (hl : Lows row) : Good (kdE row (mn k1 k2)) row := by
  have hkm : mn k1 k2 < 3 := by have := g1.1; have := g2.1; unfold mn; split <;> omega
  have k1q : k1 = 1 → q = true := fun z => hq.mpr (by have := g2.1; unfold mn; split <;> omega)
  have k2q : k2 = 1 → q = true := fun z => hq.mpr (by have := g1.1; unfold mn; split <;> omega)
  have io := g1.inq k1q
  have ip := g2.inq k2q
  have hin : In q row := by
    unfold sumX at e
    by_cases z : w = 2
    · rw [if_pos z] at e; exact mulG_in row e
    · rw [if_neg z] at e; exact sumF_in ip 29 0 o row rfl io e
  refine ⟨kdE_lt hkm, hl, fun h => ?_, fun h => ?_⟩
  · rcases kdE_1 h with h | h
    · cases q with
      | true => exact absurd (hq.mp rfl) h
      | false => exact hin
    · exact h.inq false
  · rcases kdE_2 h with h | h
    · exact h
    · have h12 : k1 = 2 ∧ k2 = 2 := by
        have := g1.1
        have := g2.1
        unfold mn at h
        split at h <;> omega
      have eo : Emp o := g1.2.2.2 h12.1
      have ep : Emp p := g2.2.2.2 h12.2
      unfold sumX at e
      by_cases z : w = 2
      · rw [if_pos z, mulG_emp eo] at e
        cases e
        exact row0_emp
      · rw [if_neg z, sumF_emp ep 29 0 o rfl] at e
        cases e
        exact eo
theorem lift_good {q : Bool} {k size : Nat} {o row : Row} (g1 : Good k o) (hq : q = true ↔ k = 1) (e : liftG q size o 29 = some row) (hl : Lows row) : Good (kdE row k) row := by
  refine ⟨kdE_lt g1.1, hl, fun h => ?_, fun h => ?_⟩
  · rcases kdE_1 h with h | h
    · cases q with
      | true => exact absurd (hq.mp rfl) h
      | false => exact liftG_in row e
    · exact h.inq false
  · rcases kdE_2 h with h | h
    · exact h
    · rw [liftG_emp (g1.2.2.2 h)] at e
      cases e
      exact row0_emp
theorem avg_good {o row : Row} (e : avgX o = some row) (hl : Lows row) : Good (kdE row 0) row := by
  refine ⟨kdE_lt (by omega), hl, fun _ => avg_in row e, fun h => ?_⟩
  rcases kdE_2 h with h | h
  · exact h
  · cases h
end INX
section SHELF
variable {N : Nat} {m m' : vM} {s : vS}
theorem sumAt_of {a : Nat} (h : (isOc a 6 = true ∧ RRf a 1 = some (a + 1) ∧ RRf a 2 = some (a + 2)) ∧ (a + 1 < 354 ∧ SHf (a + 1) = (2, 29)) ∧ (a + 2 < 354 ∧ SHf (a + 2) = (2, 29))) : SumAt a := ⟨h.1.1, h.1.2.1, h.1.2.2, arrAt h.2.1, arrAt h.2.2⟩
theorem sumS {st : Nat} (h : st < 4) : SumAt (292 + 3 * st) := by
  have : ∀ st, st < 4 → (isOc (292 + 3 * st) 6 = true ∧ RRf (292 + 3 * st) 1 = some (292 + 3 * st + 1) ∧ RRf (292 + 3 * st) 2 = some (292 + 3 * st + 2)) ∧ (292 + 3 * st + 1 < 354 ∧ SHf (292 + 3 * st + 1) = (2, 29)) ∧ (292 + 3 * st + 2 < 354 ∧ SHf (292 + 3 * st + 2) = (2, 29)) := by decide +kernel
  exact sumAt_of (this st h)
theorem sumK {st : Nat} (h : st < 4) : SumAt (310 + 3 * st) := by
  have : ∀ st, st < 4 → (isOc (310 + 3 * st) 6 = true ∧ RRf (310 + 3 * st) 1 = some (310 + 3 * st + 1) ∧ RRf (310 + 3 * st) 2 = some (310 + 3 * st + 2)) ∧ (310 + 3 * st + 1 < 354 ∧ SHf (310 + 3 * st + 1) = (2, 29)) ∧ (310 + 3 * st + 2 < 354 ∧ SHf (310 + 3 * st + 2) = (2, 29)) := by decide +kernel
  exact sumAt_of (this st h)
theorem sum283 : SumAt 283 := ⟨by decide +kernel, rfl, rfl, fun _ => rfl, fun _ => rfl⟩
theorem shA (i : Int32) : isAc 291 5 i = inb i 4 := rfl
theorem shR : ∀ st, st < 4 → RRf 291 st = some (292 + 3 * st) := by decide +kernel
theorem skA (i : Int32) : isAc 309 5 i = inb i 4 := rfl
theorem skR : ∀ st, st < 4 → RRf 309 st = some (310 + 3 * st) := by decide +kernel
theorem c_ntR {a : Nat} {o : Row} (ha : SumAt a) (hN : 100 ≤ N) (h : RowC m a o) : F_X6_terms N a (S m) = some (nI (nt o), S m) := by
  rw [c_terms ha hN]
  unfold nt
  rw [cnt_c (p := fun k => rJ m (a + 1) k ≠ 0) (q := fun k => (o k).1 ≠ 0) 29 (fun k hk => by
    have e : rJ m (a + 1) k = (o k).1 := congrArg Prod.fst (h k hk)
    rw [e])]
theorem m_ntR {u : Nat} {o : Row} (hu : u < 16) (hN : 100 ≤ N) (h : RowM m u o) : F_X9_terms N 322 (nI u) (S m) = some (nI (nt o), S m) := by
  rw [m_terms hu hN]
  unfold nt
  rw [cnt_c (p := fun k => rJ m 332 (29 * u + k) ≠ 0) (q := fun k => (o k).1 ≠ 0) 29 (fun k hk => by
    have e : rJ m 332 (29 * u + k) = (o k).1 := congrArg Prod.fst (h k hk)
    rw [e])]
theorem StH.rowM {st k : Nat} {o : Row} (h : StH m 290 292 330 331 332 333 st k o) : RowM m st o := h.2.2.2.2.2
/-- a store gets a sum -/
theorem c_put {st a k : Nat} {o : Row} (hN : 100 ≤ N) (hs : st < 4) (ha : SumAt a) (hne : a + 1 ≠ 292 + 3 * st) (h : SumC m a k o) :
    ∃ m', F_X5_put N 289 (nI st) a (S m) = some (nI (nt o), S m') ∧ Fr (fun b j => (b = 290 ∧ j = st) ∨ (292 + 3 * st ≤ b ∧ b ≤ 292 + 3 * st + 2)) m m' ∧ rI m' 290 st = 1 ∧ SumC m' (292 + 3 * st) k o := by
  have h1 : SumC (wI m 290 st 1) a k o := by
    refine ⟨?_, fun j hj => h.2 j hj⟩
    have : a ≠ 290 := by
      intro e
      have := ha.1
      rw [e] at this
      exact absurd this (by decide +kernel)
    rw [rI_n _ _ (by omega)]
    exact h.1
  obtain ⟨m', g1, g2, g3, g4⟩ := c_copy (N := N) (m := wI m 290 st 1) (sumS hs) ha hne hN
  have hrow : RowC m' a o ∨ True := Or.inr trivial
  have f : Fr (fun b j => (b = 290 ∧ j = st) ∨ (292 + 3 * st ≤ b ∧ b ≤ 292 + 3 * st + 2)) m m' := fun b j hb => by
    rw [g2, if_neg (by omega), g4 b j (by omega), rI_n _ _ (by omega)]
    exact ⟨rfl, rfl⟩
  have hs' : SumC m' (292 + 3 * st) k o := by
    refine ⟨by rw [g2, if_pos ⟨rfl, rfl⟩]; exact h1.1, fun j hj => ?_⟩
    rw [← h1.2 j hj]
    show (rJ m' (292 + 3 * st + 1) j, rJ m' (292 + 3 * st + 2) j) = (rJ _ (a + 1) j, rJ _ (a + 2) j)
    rw [(g3 j hj).1, (g3 j hj).2]
  -- the source still holds what it held
  have hsrc : RowC m' a o := by
    intro j hj
    by_cases e1 : a = 292 + 3 * st
    · rw [e1]; exact hs'.2 j hj
    · rw [← h.2 j hj]
      show (rJ m' (a + 1) j, rJ m' (a + 2) j) = (rJ m (a + 1) j, rJ m (a + 2) j)
      have na : ¬ (a + 1 = 292 + 3 * st + 2) := by
        intro e
        have hx := ha.1
        rw [show a = 293 + 3 * st by omega] at hx
        have : ∀ st, st < 4 → ¬ isOc (293 + 3 * st) 6 = true := by decide +kernel
        exact this st hs hx
      have nb : ¬ (a + 2 = 292 + 3 * st + 1) := by omega
      rw [g4 (a + 1) j (by omega), g4 (a + 2) j (by omega)]
      rfl
  refine ⟨m', ?_, f, ?_, hs'⟩
  · unfold F_X5_put
    refine e_rcv fsO ?_
    refine e_ldR fsO fsR0 ?_
    refine e_asZ fsA0 rfl (by omega) (Or.inr rfl) ?_
    refine e_ldR fsO fsR1 ?_
    refine e_alR shA (by decide) rfl (by omega) (shR st hs) ?_
    refine e_bnd g1 ?_
    refine e_bnd (c_ntR ha hN hsrc) ?_
    rfl
  · rw [g2, if_neg (by omega), rI_s]
theorem c_drop {st : Nat} (hN : 100 ≤ N) (hs : st < 4) :
    ∃ m', F_X5_drop N 289 (nI st) (S m) = some ((), S m') ∧ Fr (fun b j => (b = 290 ∧ j = st) ∨ (292 + 3 * st ≤ b ∧ b ≤ 292 + 3 * st + 2)) m m' ∧ rI m' 290 st = 0 ∧ SumC m' (292 + 3 * st) 2 row0 := by
  obtain ⟨m', g1, g2, g3, g4⟩ := c_empty (N := N) (m := wI m 290 st 0) (sumS hs) hN
  refine ⟨m', ?_, fun b j hb => ?_, ?_, ?_, fun j hj => ?_⟩
  · unfold F_X5_drop
    refine e_rcv fsO ?_
    refine e_ldR fsO fsR0 ?_
    refine e_asZ fsA0 rfl (by omega) (Or.inl rfl) ?_
    refine e_ldR fsO fsR1 ?_
    refine e_alR shA (by decide) rfl (by omega) (shR st hs) ?_
    refine e_bnd g1 ?_
    rfl
  · rw [g2, if_neg (by omega), g4 b j (by omega), rI_n _ _ (by omega)]
    exact ⟨rfl, rfl⟩
  · rw [g2, if_neg (by omega), rI_s]
  · rw [g2, if_pos ⟨rfl, rfl⟩]
    rfl
  · show (rJ m' (292 + 3 * st + 1) j, rJ m' (292 + 3 * st + 2) j) = (0, 1)
    rw [(g3 j hj).1, (g3 j hj).2]
/-- one store anew -/
theorem Rel.store {st : Nat} (hR : Rel m) (hs : st < 4) (f : Fr (fun a j => ¬ prP a j ∨ ((a = 290 ∧ j = st) ∨ (292 + 3 * st ≤ a ∧ a ≤ 292 + 3 * st + 2) ∨ (a = 330 ∧ j = st) ∨ (a = 331 ∧ j = st) ∨ ((a = 332 ∨ a = 333) ∧ 29 * st ≤ j ∧ j < 29 * st + 29))) m m') (h : StR m' 290 292 330 331 332 333 st) : Rel m' := by
  obtain ⟨h1, ⟨nn, r, h2⟩, h3, ⟨z, t, h4⟩, h5⟩ := hR
  have e : ∀ a j, prP a j → ¬ ((a = 290 ∧ j = st) ∨ (292 + 3 * st ≤ a ∧ a ≤ 292 + 3 * st + 2) ∨ (a = 330 ∧ j = st) ∨ (a = 331 ∧ j = st) ∨ ((a = 332 ∨ a = 333) ∧ 29 * st ≤ j ∧ j < 29 * st + 29)) → rI m' a j = rI m a j ∧ rJ m' a j = rJ m a j := fun a j hp hn => f a j (fun w => w.elim (fun w => w hp) hn)
  refine ⟨h1.fr (fun a j ha => e a j (Or.inl ha) (by unfold tabP at ha; omega)), ⟨nn, r, h2.same (fun a j ha => (e a j (Or.inr (Or.inl (by unfold hanP; omega))) (by omega)).1)⟩, fun u hu => ?_, ⟨z, t, h4.same (fun a j ha => (e a j (Or.inr (Or.inr (Or.inr (Or.inl ha)))) (by unfold tapP at ha; omega)).1)⟩, h5.same (fun a j ha => e a j (Or.inr (Or.inr (Or.inr (Or.inr ha)))) (by unfold imgP at ha; omega))⟩
  by_cases w : u = st
  · rw [w]; exact h
  · exact (h3 u hu).same (fun a j ha => e a j (Or.inr (Or.inr (Or.inl (by unfold stoP; omega)))) (by omega))
end SHELF
