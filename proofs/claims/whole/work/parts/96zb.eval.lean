/-! what a text comes to -/
section EVAL
def Z0 (o : Row) : Prop := ∀ j, 0 < j → j < 29 → (o j).1 = 0
theorem fld_P {P : Option Row → Prop} {g : Nat → Option Row → Option Row} : ∀ (d i : Nat) (X : Option Row), P X → (∀ j X, i ≤ j → j < i + d → P X → P (g j X)) → P (fld g d i X)
  | 0, _, _, h, _ => h
  | d + 1, i, X, h, hs => fld_P d (i + 1) _ (hs i X (Nat.le_refl _) (by omega) h) (fun j X h1 h2 h3 => hs j X (by omega) (by omega) h3)
def LowX (X : Option Row) : Prop := ∀ row, X = some row → Lows row
def ZerX (X : Option Row) : Prop := ∀ row, X = some row → Z0 row
theorem stA_low {h : Nat} {qo : Option Fc} {X : Option Row} (hh : h < 29) (hq : ∀ p, qo = some p → 0 < p.2.toInt) (hX : LowX X) : LowX (stA h qo X) := by
  intro row e
  cases X with
  | none => cases e
  | some r =>
    cases qo with
    | none => cases e
    | some p => exact acc_low hh (hX r rfl) (hq p rfl) e
theorem acc_z {row row' : Row} {p : Fc} (hi : Z0 row) (e : acc row 0 p = some row') : Z0 row' := by
  unfold acc at e
  cases hf : fadd (row 0).1 (row 0).2 p.1 p.2 with
  | none => rw [hf] at e; cases e
  | some v =>
    rw [hf] at e
    cases e
    intro k hk hz
    show (if k = 0 then v else row k).1 = 0
    rw [if_neg (by omega)]
    exact hi k hk hz
theorem stA_z {qo : Option Fc} {X : Option Row} (hX : ZerX X) : ZerX (stA 0 qo X) := by
  intro row e
  cases X with
  | none => cases e
  | some r =>
    cases qo with
    | none => cases e
    | some p => exact acc_z (hX r rfl) e
theorem mulG_low {q : Bool} {o p : Row} (lo : Lows o) (lp : Lows p) : LowX (mulG q (fun f g => sz_ q f + sz_ q g - sh_ q) o p (mny q)) := by
  have ha := adr q
  refine fld_P _ _ _ (fun row e => by cases e; exact row0_low) (fun f X _ hf hX => ?_)
  refine fld_P _ _ _ hX (fun g X _ hg hX => ?_)
  unfold gstep
  split
  · exact hX
  · unfold stB
    split
    · intro row e; cases e
    · next b hb =>
      refine fld_P _ _ _ hX (fun h X _ hh hX => ?_)
      unfold mstep
      split
      · next hs =>
        split
        · exact hX
        · refine stA_low (by omega) (fun r hr => ?_) hX
          have hs : sz_ q h = sz_ q f + sz_ q g - sh_ q := hs
          have hj := jt_pos (q := q) (f := f) (g := g) (h := h) (by omega) (by omega) (by omega) (by omega)
          exact fmul_pos (fmul_pos (lo f (by omega)).1 (lp g (by omega)).1 hb) hj.1 hr
      · exact hX
theorem szz0 : ∀ h, h < 19 → (sz_ false h = 0 ↔ h = 0) := by decide +kernel
theorem mulG_z {o p : Row} (zo : Z0 o) (zp : Z0 p) : ZerX (mulG false (fun f g => sz_ false f + sz_ false g - sh_ false) o p (mny false)) := by
  refine fld_P _ _ _ (fun row e => by cases e; exact fun _ _ _ => rfl) (fun f X _ hf hX => ?_)
  have hf : f < 0 + 19 := hf
  refine fld_P _ _ _ hX (fun g X _ hg hX => ?_)
  have hg : g < 0 + 19 := hg
  unfold gstep
  split
  · exact hX
  · next hn =>
    have f0 : f = 0 := by
      rcases Nat.eq_zero_or_pos f with w | w
      · exact w
      · exact absurd (Or.inl (zo f w (by omega))) hn
    have g0 : g = 0 := by
      rcases Nat.eq_zero_or_pos g with w | w
      · exact w
      · exact absurd (Or.inr (zp g w (by omega))) hn
    subst f0
    subst g0
    unfold stB
    split
    · intro row e; cases e
    · refine fld_P _ _ _ hX (fun h X _ hh hX => ?_)
      have hh : h < 0 + 19 := hh
      unfold mstep
      split
      · next hs =>
        have h0 : h = 0 := (szz0 h (by omega)).mp hs
        subst h0
        split
        · exact hX
        · exact stA_z hX
      · exact hX
theorem sumF_z {p : Row} {less : Prop} [Decidable less] (zp : Z0 p) : ∀ (d i : Nat) (row row' : Row), i + d = 29 → Z0 row → sumF p less d i row = some row' → Z0 row'
  | 0, _, row, row', _, hl, e => by cases e; exact hl
  | d + 1, i, row, row', hi, hl, e => by
    rw [sumF] at e
    by_cases z : (p i).1 = 0
    · rw [if_pos z] at e
      exact sumF_z zp d (i + 1) row row' (by omega) hl e
    · rw [if_neg z] at e
      have hi0 : i = 0 := by
        rcases Nat.eq_zero_or_pos i with w | w
        · exact w
        · exact absurd (zp i w (by omega)) z
      cases hs : sgn less (p i) with
      | none => rw [hs] at e; cases e
      | some v =>
        rw [hs] at e
        dsimp only at e
        cases ha : acc row i v with
        | none => rw [ha] at e; cases e
        | some row1 =>
          rw [ha] at e
          dsimp only at e
          rw [hi0] at ha
          exact sumF_z zp d (i + 1) row1 row' (by omega) (acc_z hl ha) e
theorem avg_low {o : Row} (lo : Lows o) : LowX (avgX o) := by
  refine fld_P _ _ _ (fun row e => by cases e; exact row0_low) (fun r X _ hr hX => ?_)
  unfold astep
  split
  · exact hX
  · exact stA_low (by have := (bac r (by omega)).1; omega) (fun p hp => fmul_pos (lo r (by omega)).1 (rw_pos (by omega)) hp) hX
abbrev Vl : Type := Nat × Row
/-- what stands on the way -/
def Gd (x : Vl) : Prop := x.1 < 3 ∧ Lows x.2 ∧ (x.1 ≠ 1 → In false x.2) ∧ (x.1 = 2 → Z0 x.2)
theorem Gd.inq {x : Vl} (h : Gd x) {q : Bool} (hq : x.1 = 1 → q = true) : In q x.2 := by
  cases q with
  | true => exact In.tr x.2
  | false => exact h.2.2.1 (fun w => absurd (hq w) (by decide))
def qmn (x y : Vl) : Bool := decide (mn x.1 y.1 = 1)
theorem qmn_iff {x y : Vl} : qmn x y = true ↔ mn x.1 y.1 = 1 := decide_eq_true_iff
/-- two of them: the kind of fault, or what comes of them -/
def cmb (w : Nat) (x y : Vl) : Nat ⊕ Vl := if x.1 + y.1 = 1 then .inl 3 else if tooX w (qmn x y) x.2 y.2 = true then .inl 4 else match sumX w (qmn x y) x.2 y.2 with
  | none => .inl 5
  | some row => .inr (kdE row (mn x.1 y.1), row)
def avgV (x : Vl) : Nat ⊕ Vl := if x.1 = 0 then .inl 3 else if x.1 = 2 then .inr x else match avgX x.2 with
  | none => .inl 5
  | some row => .inr (kdE row 0, row)
theorem emp_z {o : Row} (h : Emp o) : Z0 o := fun j _ hj => h j hj
theorem cmb_in {x y : Vl} (g1 : Gd x) (g2 : Gd y) (un : x.1 + y.1 ≠ 1) : In (qmn x y) x.2 ∧ In (qmn x y) y.2 := by
  have := g1.1
  have := g2.1
  exact ⟨g1.inq (fun z => qmn_iff.mpr (by unfold mn; split <;> omega)), g2.inq (fun z => qmn_iff.mpr (by unfold mn; split <;> omega))⟩
theorem cmb_gd {w : Nat} {x y v : Vl} (g1 : Gd x) (g2 : Gd y) (e : cmb w x y = .inr v) : Gd v := by
  unfold cmb at e
  by_cases un : x.1 + y.1 = 1
  · rw [if_pos un] at e; cases e
  rw [if_neg un] at e
  obtain ⟨io, ip⟩ := cmb_in g1 g2 un
  by_cases tg : tooX w (qmn x y) x.2 y.2 = true
  · rw [if_pos tg] at e; cases e
  rw [if_neg tg] at e
  cases hs : sumX w (qmn x y) x.2 y.2 with
  | none => rw [hs] at e; cases e
  | some row =>
    rw [hs] at e
    cases e
    have hkm : mn x.1 y.1 < 3 := by have := g1.1; have := g2.1; unfold mn; split <;> omega
    have hlow : Lows row := by
      unfold sumX at hs
      by_cases z : w = 2
      · rw [if_pos z] at hs; exact mulG_low g1.2.1 g2.2.1 row hs
      · rw [if_neg z] at hs; exact sumF_low (o := x.2) g2.2.1 29 0 x.2 row rfl g1.2.1 hs
    have hin : In (qmn x y) row := by
      unfold sumX at hs
      by_cases z : w = 2
      · rw [if_pos z] at hs; exact mulG_in row hs
      · rw [if_neg z] at hs; exact sumF_in ip 29 0 x.2 row rfl io hs
    refine ⟨kdE_lt hkm, hlow, fun h => ?_, fun h => ?_⟩
    · rcases kdE_1 h with h | h
      · have hq : qmn x y = false := decide_eq_false h
        rw [hq] at hin
        exact hin
      · exact h.inq false
    · rcases kdE_2 h with h | h
      · exact emp_z h
      · have h12 : x.1 = 2 ∧ y.1 = 2 := by
          have := g1.1
          have := g2.1
          unfold mn at h
          split at h <;> omega
        have zo := g1.2.2.2 h12.1
        have zp := g2.2.2.2 h12.2
        have hq : qmn x y = false := decide_eq_false (by rw [h]; decide)
        unfold sumX at hs
        rw [hq] at hs
        by_cases z : w = 2
        · rw [if_pos z] at hs; exact mulG_z zo zp row hs
        · rw [if_neg z] at hs; exact sumF_z zp 29 0 x.2 row rfl zo hs
theorem avg_gd {x v : Vl} (g : Gd x) (e : avgV x = .inr v) : Gd v := by
  unfold avgV at e
  by_cases z0 : x.1 = 0
  · rw [if_pos z0] at e; cases e
  rw [if_neg z0] at e
  by_cases z2 : x.1 = 2
  · rw [if_pos z2] at e; cases e; exact g
  rw [if_neg z2] at e
  cases hs : avgX x.2 with
  | none => rw [hs] at e; cases e
  | some row =>
    rw [hs] at e
    cases e
    refine ⟨kdE_lt (by omega), avg_low g.2.1 row hs, fun _ => avg_in row hs, fun h => ?_⟩
    rcases kdE_2 h with h | h
    · exact emp_z h
    · cases h
/-- one number alone -/
def oneR (k : Nat) (p : Fc) : Row := fun j => if j = k then p else (0, 1)
def valV (x : Tok) : Vl := if x.1 = 48 then (2, oneR 0 (red x.2.2.1.toInt64 x.2.2.2.toInt64)) else (if x.1 = 60 then 1 else 0, oneR x.2.2.1.toNatClampNeg (1, 1))
theorem oneR_low {k : Nat} {p : Fc} (hp : Low p) : Lows (oneR k p) := fun j _ => by
  unfold oneR
  split
  · exact hp
  · exact Low_0
theorem low11 : Low (1, 1) := by
  refine ⟨by decide, ?_⟩
  decide +kernel
abbrev LV : Type := Lev × Vl × Vl
/-- a value comes to a product -/
def cmV (w : Vl) (e : LV) : (Nat × Nat) ⊕ LV := match e.1.2.2 with
  | none => .inr (e.1, e.2.1, w)
  | some q => match cmb 2 e.2.2 w with
    | .inl f => .inl (f, q)
    | .inr v => .inr ((e.1.1, e.1.2.1, none), e.2.1, v)
/-- a product ends -/
def epV (t : Nat → Nat) (e : LV) : (Nat × Nat) ⊕ Vl := match e.1.2.1 with
  | none => .inr e.2.2
  | some q => match cmb (if t q = 45 then 1 else 0) e.2.1 e.2.2 with
    | .inl f => .inl (f, q)
    | .inr v => .inr v
def brV (t : Nat → Nat) (g : Lev) (w : Vl) : (Nat × Nat) ⊕ Vl := match g.1 with
  | none => .inr w
  | some o => if t o = 123 then (match avgV w with
    | .inl f => .inl (f, o)
    | .inr v => .inr v) else .inr w
def bnS {α β : Type} (x : (Nat × Nat) ⊕ α) (f : α → (Nat × Nat) ⊕ β) : (Nat × Nat) ⊕ β := match x with
  | .inl e => .inl e
  | .inr v => f v
def V0 : Vl := (2, row0)
def evt (t : Nat → Nat) (x : Tok) : List LV → (Nat × Nat) ⊕ List LV
  | [] => .inr []
  | e :: r => if x.1 = 48 ∨ x.1 = 91 ∨ x.1 = 60 then bnS (cmV (valV x) e) (fun e' => .inr (e' :: r)) else if x.1 = 42 then .inr (((e.1.1, e.1.2.1, some x.2.1), e.2.1, e.2.2) :: r) else if x.1 = 43 ∨ x.1 = 45 then bnS (epV t e) (fun w => .inr (((e.1.1, some x.2.1, e.1.2.2), w, e.2.2) :: r)) else if x.1 = 41 ∨ x.1 = 125 then (match r with
    | [] => .inr []
    | e2 :: r' => bnS (epV t e) (fun w => bnS (brV t e.1 w) (fun w' => bnS (cmV w' e2) (fun e' => .inr (e' :: r'))))) else .inr (((some x.2.1, none, none), V0, V0) :: e :: r)
def evr (t : Nat → Nat) : List Tok → List LV → (Nat × Nat) ⊕ Vl
  | [], E => match E with
    | [] => .inr V0
    | e :: _ => epV t e
  | x :: T, E => bnS (evt t x E) (fun E' => evr t T E')
def GdE (E : List LV) : Prop := ∀ e, e ∈ E → Gd e.2.1 ∧ Gd e.2.2
theorem V0_gd : Gd V0 := ⟨by decide, row0_low, fun _ => row0_in false, fun _ _ _ _ => rfl⟩
theorem valV_gd {x : Tok} (h : (x.1 = 91 ∧ ∃ k, k < 19 ∧ x.2.2.1 = nI k) ∨ (x.1 = 60 ∧ ∃ k, k < 29 ∧ x.2.2.1 = nI k) ∨ (x.1 = 48 ∧ ∃ u v, u < 1000 ∧ 0 < v ∧ v < 1000 ∧ x.2.2 = (nI u, nI v))) : Gd (valV x) := by
  unfold valV
  rcases h with ⟨h, k, hk, e⟩ | ⟨h, k, hk, e⟩ | ⟨h, u, v, hu, hv0, hv, e⟩
  · rw [if_neg (by omega), if_neg (by omega)]
    have hc : x.2.2.1.toNatClampNeg = k := by rw [e]; exact nI_clamp (by omega)
    rw [hc]
    refine ⟨show 0 < 3 by decide, oneR_low low11, fun _ j hj hz => ?_, fun h => absurd (show 0 = 2 from h) (by decide)⟩
    have hz : (if j = k then ((1 : Int64), (1 : Int64)) else (0, 1)).1 ≠ 0 := hz
    by_cases y : j = k
    · show j < 19
      omega
    · rw [if_neg y] at hz
      exact absurd rfl hz
  · rw [if_neg (by omega), if_pos (by omega)]
    exact ⟨show 1 < 3 by decide, oneR_low low11, fun h => absurd rfl h, fun h => absurd (show 1 = 2 from h) (by decide)⟩
  · rw [if_pos h, e, nI_l' (by omega), nI_l' (by omega)]
    refine ⟨show 2 < 3 by decide, oneR_low (red_low (lN_pos hv0 (by omega))), fun _ j hj hz => ?_, fun _ j hj _ => ?_⟩
    · have hz : (if j = 0 then red (lN u) (lN v) else (0, 1)).1 ≠ 0 := hz
      by_cases y : j = 0
      · show j < 19
        omega
      · rw [if_neg y] at hz
        exact absurd rfl hz
    · show (if j = 0 then red (lN u) (lN v) else (0, 1)).1 = 0
      rw [if_neg (by omega)]
theorem cmV_gd {w : Vl} {e e' : LV} (g : Gd w) (h : Gd e.2.1 ∧ Gd e.2.2) (k : cmV w e = .inr e') : Gd e'.2.1 ∧ Gd e'.2.2 := by
  unfold cmV at k
  cases hg : e.1.2.2 with
  | none => rw [hg] at k; cases k; exact ⟨h.1, g⟩
  | some q =>
    rw [hg] at k
    dsimp only at k
    cases hc : cmb 2 e.2.2 w with
    | inl f => rw [hc] at k; cases k
    | inr v => rw [hc] at k; cases k; exact ⟨h.1, cmb_gd h.2 g hc⟩
theorem epV_gd {t : Nat → Nat} {e : LV} {v : Vl} (h : Gd e.2.1 ∧ Gd e.2.2) (k : epV t e = .inr v) : Gd v := by
  unfold epV at k
  cases hg : e.1.2.1 with
  | none => rw [hg] at k; cases k; exact h.2
  | some q =>
    rw [hg] at k
    dsimp only at k
    cases hc : cmb (if t q = 45 then 1 else 0) e.2.1 e.2.2 with
    | inl f => rw [hc] at k; cases k
    | inr v => rw [hc] at k; cases k; exact cmb_gd h.1 h.2 hc
theorem brV_gd {t : Nat → Nat} {g : Lev} {w v : Vl} (h : Gd w) (k : brV t g w = .inr v) : Gd v := by
  unfold brV at k
  cases hg : g.1 with
  | none => rw [hg] at k; cases k; exact h
  | some o =>
    rw [hg] at k
    dsimp only at k
    by_cases y : t o = 123
    · rw [if_pos y] at k
      cases hc : avgV w with
      | inl f => rw [hc] at k; cases k
      | inr v => rw [hc] at k; cases k; exact avg_gd h hc
    · rw [if_neg y] at k
      cases k
      exact h
end EVAL
