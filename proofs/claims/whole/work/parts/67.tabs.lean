/-! the tables after the constructors, as pure functions (false: flags, true: rooted ones) -/
section TABS
def sh_ (q : Bool) : Nat := if q = true then 1 else 0
def mny (q : Bool) : Nat := if q = true then 29 else 19
def szL (q : Bool) : List Nat := if q = true then [1, 2, 2, 3, 3, 3, 3, 3, 3, 4, 4, 4, 4, 4, 4, 4, 4, 4, 4, 4, 4, 4, 4, 4, 4, 4, 4, 4, 4] else [0, 1, 2, 2, 3, 3, 3, 3, 4, 4, 4, 4, 4, 4, 4, 4, 4, 4, 4]
def cdL (q : Bool) : List Nat := if q = true then [0, 0, 1, 0, 1, 3, 4, 5, 7, 0, 1, 3, 4, 5, 7, 11, 12, 13, 15, 20, 21, 22, 23, 30, 31, 52, 53, 55, 63] else [0, 0, 0, 1, 0, 1, 3, 7, 0, 1, 3, 7, 11, 12, 13, 15, 30, 31, 63]
def nuL (q : Bool) : List (List Nat) := if q = true then [[], [0], [1, 2], [3, 4, 4, 5, 6, 7, 7, 8], [9, 10, 10, 11, 12, 13, 13, 14, 10, 11, 11, 15, 16, 17, 17, 18, 12, 13, 16, 17, 19, 20, 21, 22, 13, 14, 17, 18, 21, 22, 23, 24, 12, 16, 13, 17, 19, 21, 20, 22, 13, 17, 14, 18, 21, 23, 22, 24, 19, 21, 21, 23, 25, 26, 26, 27, 20, 22, 22, 24, 26, 27, 27, 28]] else [[0], [1], [2, 3], [4, 5, 5, 6, 5, 6, 6, 7], [8, 9, 9, 10, 9, 10, 10, 11, 9, 10, 10, 12, 13, 14, 14, 15, 9, 10, 13, 14, 10, 12, 14, 15, 10, 11, 14, 15, 14, 15, 16, 17, 9, 13, 10, 14, 10, 14, 12, 15, 10, 14, 11, 15, 14, 16, 15, 17, 10, 14, 14, 16, 11, 15, 15, 17, 12, 15, 15, 17, 15, 17, 17, 18]]
def fsL (q : Bool) : List Nat := if q = true then [0, 0, 1, 3, 9, 29] else [0, 1, 2, 4, 8, 19]
def reL : List Nat := [27, 30, 39, 45, 54, 57, 75, 78, 99, 108, 114, 120, 135, 141, 147, 156, 177, 180, 198, 201, 210, 216, 225, 228]
def baL : List Nat := [1, 2, 3, 4, 5, 6, 5, 6, 7, 8, 9, 10, 9, 10, 11, 12, 13, 14, 15, 10, 12, 14, 15, 16, 17, 11, 15, 17, 18]
def wyL : List Nat := [1, 2, 2, 3, 2, 1, 1, 2, 3, 4, 2, 1, 2, 2, 3, 1, 4, 2, 1, 1, 3, 2, 2, 4, 2, 1, 1, 2, 4]
def sz_ (q : Bool) (k : Nat) : Nat := (szL q).getD k 0
def cd_ (q : Bool) (k : Nat) : Nat := (cdL q).getD k 0
def nu_ (q : Bool) (size code : Nat) : Nat := ((nuL q).getD size []).getD code 0
def fs_ (q : Bool) (size : Nat) : Nat := (fsL q).getD size 0
def ba_ (r : Nat) : Nat := baL.getD r 0
def wy_ (r : Nat) : Nat := wyL.getD r 0
/-- the place of the line between two -/
def bx (i j : Nat) : Nat := if i < j then j * (j - 1) / 2 + i else i * (i - 1) / 2 + j
def cds (size : Nat) : Nat := 2 ^ (size * (size - 1) / 2)
/-- fold: d steps from i on -/
def fld {α : Type} (g : Nat → α → α) : Nat → Nat → α → α
  | 0, _, x => x
  | d + 1, i, x => fld g d (i + 1) (g i x)
def rowOf (size code i : Nat) : Nat := fld (fun j x => if i ≠ j ∧ bt code (bx i j) = 1 then x ||| 2 ^ j else x) size 0 0
/-- the points that are chosen: how many, and which -/
def chs (set : Nat) (root : Option Nat) (n : Nat) : Nat × (Nat → Nat) :=
  fld (fun i c => if root = some i ∨ bt set i = 0 then c else (c.1 + 1, fun j => if j = c.1 then i else c.2 j)) n 0 (match root with
    | some r => (1, fun _ => r)
    | none => (0, fun _ => 0))
/-- the code of what lies on the chosen ones -/
def cdi (r : Nat → Nat) (ch : Nat → Nat) (j c : Nat) : Nat := fld (fun i c => if bt (r (ch j)) (ch i) = 1 then c ||| 2 ^ bx i j else c) j 0 c
def cdo (r : Nat → Nat) (ch : Nat → Nat) (k : Nat) : Nat := fld (fun j c => cdi r ch j c) (k - 1) 1 0
def nOn (q : Bool) (n : Nat) (r : Nat → Nat) (set : Nat) (root : Option Nat) : Nat := nu_ q (pop set) (cdo r (chs set root n).2 (pop set))
/-- whether a set counts: of a family, with a root, if there is one -/
def rootIn (set : Nat) (root : Option Nat) : Bool := match root with
  | some r => bt set r == 1
  | none => true
def rowT (q : Bool) (k i : Nat) : Nat := rowOf (sz_ q k) (cd_ q k) i
def ro_ (q : Bool) : Option Nat := if q = true then some 0 else none
def onv (q : Bool) (k set : Nat) : Int32 := if sh_ q ≤ pop set ∧ (q = false ∨ bt set 0 = 1) then nI (nOn q (sz_ q k) (rowT q k) set (ro_ q)) else -1
def fo (q : Bool) : Nat := if q = true then 92 else 1
def aFs (q : Bool) : Nat := if q = true then 93 else 2
def aNn (q : Bool) : Nat := if q = true then 94 else 3
def aNu (q : Bool) : Nat := if q = true then 95 else 4
def aRe (q : Bool) : Nat := if q = true then 100 else 9
def aSz (q : Bool) : Nat := if q = true then 101 else 10
def aCd (q : Bool) : Nat := if q = true then 102 else 11
def aNs (q : Bool) : Nat := if q = true then 103 else 12
def aOo (q : Bool) : Nat := if q = true then 104 else 13
def aOn (q : Bool) : Nat := if q = true then 105 else 14
def aTa (q : Bool) : Nat := if q = true then 134 else 33
def aCo (q : Bool) : Nat := if q = true then 135 else 34
def aNt (q : Bool) : Nat := if q = true then 136 else 35
def aBy (q : Bool) : Nat := if q = true then 326 else 325
theorem gO {q : Bool} : isOc (fo q) 1 = true := by cases q <;> decide +kernel
theorem gR3 {q : Bool} : RRf (fo q) 3 = some (aSz q) := by cases q <;> rfl
theorem gR4 {q : Bool} : RRf (fo q) 4 = some (aCd q) := by cases q <;> rfl
theorem gR5 {q : Bool} : RRf (fo q) 5 = some (aNs q) := by cases q <;> rfl
theorem gR6 {q : Bool} : RRf (fo q) 6 = some (aFs q) := by cases q <;> rfl
theorem gR7 {q : Bool} : RRf (fo q) 7 = some (aNn q) := by cases q <;> rfl
theorem gR8 {q : Bool} : RRf (fo q) 8 = some (aOo q) := by cases q <;> rfl
theorem gR9 {q : Bool} : RRf (fo q) 9 = some (aRe q) := by cases q <;> rfl
theorem gR10 {q : Bool} : RRf (fo q) 10 = some (aTa q) := by cases q <;> rfl
theorem gR11 {q : Bool} : RRf (fo q) 11 = some (aCo q) := by cases q <;> rfl
theorem gA3 {q : Bool} (i : Int32) : isAc (aSz q) 1 i = inb i (mny q) := by cases q <;> rfl
theorem gA4 {q : Bool} (i : Int32) : isAc (aCd q) 1 i = inb i (mny q) := by cases q <;> rfl
theorem gA6 {q : Bool} (i : Int32) : isAc (aFs q) 1 i = inb i (6) := by cases q <;> rfl
theorem gA9 {q : Bool} (i : Int32) : isAc (aRe q) 1 i = inb i (24) := by cases q <;> rfl
theorem gA10 {q : Bool} (i : Int32) : isAc (aTa q) 1 i = inb i (mny q) := by cases q <;> rfl
theorem gA11 {q : Bool} (i : Int32) : isAc (aCo q) 1 i = inb i (mny q) := by cases q <;> rfl
theorem gNs {q : Bool} (i : Int32) : isAc (aNs q) 4 i = inb i (mny q) := by cases q <;> rfl
theorem gNn {q : Bool} (i : Int32) : isAc (aNn q) 6 i = inb i 5 := by cases q <;> rfl
theorem gOo {q : Bool} (i : Int32) : isAc (aOo q) 6 i = inb i (mny q) := by cases q <;> rfl
theorem gNsR : ∀ q k, k < mny q → RRf (aNs q) k = some (aNt q + 3 * k) := by decide +kernel
theorem gNnR : ∀ q k, k < 5 → RRf (aNn q) k = some (aNu q + k) := by decide +kernel
theorem gOoR : ∀ q k, k < mny q → RRf (aOo q) k = some (aOn q + k) := by decide +kernel
theorem gNu {q : Bool} {k : Nat} (h : k < 5) : ∀ i, isAc (aNu q + k) 1 i = inb i 64 := by
  have h : aNu q + k < 354 ∧ SHf (aNu q + k) = (1, 64) := (show ∀ q k, k < 5 → aNu q + k < 354 ∧ SHf (aNu q + k) = (1, 64) by decide +kernel) q k h
  exact arrAt h
theorem gOn {q : Bool} {k : Nat} (h : k < mny q) : ∀ i, isAc (aOn q + k) 1 i = inb i 16 := by
  have h : aOn q + k < 354 ∧ SHf (aOn q + k) = (1, 16) := (show ∀ q k, k < mny q → aOn q + k < 354 ∧ SHf (aOn q + k) = (1, 16) by decide +kernel) q k h
  exact arrAt h
theorem gBy {q : Bool} (i : Int32) : isAc (aBy q) 1 i = inb i 320 := by cases q <;> rfl
/-- an address of a net: its rows, its chosen ones behind it -/
def NetAt (a : Nat) : Prop := (isOc a 3 = true ∧ RRf a 1 = some (a + 1) ∧ RRf a 2 = some (a + 2)) ∧ (a + 1 < 354 ∧ SHf (a + 1) = (1, 8)) ∧ (a + 2 < 354 ∧ SHf (a + 2) = (1, 8))
theorem NetAt.o {a : Nat} (h : NetAt a) : isOc a 3 = true := h.1.1
theorem NetAt.r1 {a : Nat} (h : NetAt a) : RRf a 1 = some (a + 1) := h.1.2.1
theorem NetAt.r2 {a : Nat} (h : NetAt a) : RRf a 2 = some (a + 2) := h.1.2.2
theorem NetAt.a1 {a : Nat} (h : NetAt a) : ∀ i, isAc (a + 1) 1 i = inb i 8 := arrAt h.2.1
theorem NetAt.a2 {a : Nat} (h : NetAt a) : ∀ i, isAc (a + 2) 1 i = inb i 8 := arrAt h.2.2
theorem netF {q : Bool} {k : Nat} (h : k < mny q) : NetAt (aNt q + 3 * k) := by
  have : ∀ q k, k < mny q → (isOc (aNt q + 3 * k) 3 = true ∧ RRf (aNt q + 3 * k) 1 = some (aNt q + 3 * k + 1) ∧ RRf (aNt q + 3 * k) 2 = some (aNt q + 3 * k + 2)) ∧ (aNt q + 3 * k + 1 < 354 ∧ SHf (aNt q + 3 * k + 1) = (1, 8)) ∧ (aNt q + 3 * k + 2 < 354 ∧ SHf (aNt q + 3 * k + 2) = (1, 8)) := by decide +kernel
  exact this q k h
theorem net286 : NetAt 286 := by
  show (_ ∧ _ ∧ _) ∧ (_ ∧ _) ∧ (_ ∧ _)
  decide +kernel
theorem net304 : NetAt 304 := by
  show (_ ∧ _ ∧ _) ∧ (_ ∧ _) ∧ (_ ∧ _)
  decide +kernel
def NetIs (m : vM) (a n : Nat) (r : Nat → Nat) : Prop := rI m a 0 = nI n ∧ n ≤ 8 ∧ ∀ i, i < n → rI m (a + 1) i = nI (r i) ∧ r i < 2 ^ n
def LookIs (m : vM) (n : Nat) (r : Nat → Nat) : Prop := rI m 322 7 = nI n ∧ n ≤ 8 ∧ ∀ i, i < n → rI m 329 i = nI (r i) ∧ r i < 2 ^ n
def Sym (n : Nat) (r : Nat → Nat) : Prop := ∀ i j, i < n → j < n → bt (r i) j = bt (r j) i
/-- the tables -/
def Tab (m : vM) : Prop :=
  (∀ q, rI m (fo q) 0 = nI (sh_ q) ∧ rI m (fo q) 1 = nI (sh_ q) ∧ rI m (fo q) 2 = nI (mny q)) ∧
  (∀ q k, k < mny q → rI m (aSz q) k = nI (sz_ q k) ∧ rI m (aCd q) k = nI (cd_ q k) ∧ NetIs m (aNt q + 3 * k) (sz_ q k) (rowT q k) ∧ rI m 323 (19 * sh_ q + k) = nI (sz_ q k) ∧ rI m 324 (19 * sh_ q + k) = nI (cd_ q k)) ∧
  (∀ q size code, size < 5 → sh_ q ≤ size → code < cds size → rI m (aNu q + size) code = nI (nu_ q size code) ∧ rI m (aBy q) (64 * size + code) = nI (nu_ q size code)) ∧
  (∀ q size, size < 6 → rI m (aFs q) size = nI (fs_ q size)) ∧
  (∀ q k set, k < mny q → set < 2 ^ sz_ q k → rI m (aOn q + k) set = onv q k set) ∧
  (∀ q j, j < 24 → rI m (aRe q) j = nI (reL.getD j 0)) ∧
  (∀ r, r < 29 → rI m 224 r = nI (ba_ r) ∧ rI m 225 r = nI (wy_ r)) ∧
  (rI m 231 0 = 0 ∧ ∀ k, k < 29 → rowC m 231 k = (if k = 0 then 1 else 0, 1))
/-- where the tables lie -/
def tabP (a j : Nat) : Prop := (a = 1 ∧ j < 3) ∨ (a = 92 ∧ j < 3) ∨ (2 ≤ a ∧ a < 33) ∨ (35 ≤ a ∧ a < 92 ∧ (a - 35) % 3 ≠ 2) ∨ (93 ≤ a ∧ a < 134) ∨ (136 ≤ a ∧ a < 223 ∧ (a - 136) % 3 ≠ 2) ∨ (224 ≤ a ∧ a < 226) ∨ (231 ≤ a ∧ a < 234) ∨ (323 ≤ a ∧ a < 327)
theorem szc : ∀ q k, k < mny q → sz_ q k ≤ 4 ∧ sh_ q ≤ sz_ q k ∧ cd_ q k < cds (sz_ q k) ∧ cd_ q k < 64 ∧ nu_ q (sz_ q k) (cd_ q k) = k := by decide +kernel
theorem nuc : ∀ q size code, size < 5 → sh_ q ≤ size → code < cds size → nu_ q size code < mny q ∧ sz_ q (nu_ q size code) = size := by
  have : ∀ q size, size < 5 → sh_ q ≤ size → ∀ code, code < cds size → nu_ q size code < mny q ∧ sz_ q (nu_ q size code) = size := by decide +kernel
  intro q size code h1 h2 h3
  exact this q size h1 h2 code h3
theorem fsc : ∀ q size, size < 5 → fs_ q size ≤ fs_ q (size + 1) ∧ fs_ q (size + 1) ≤ mny q ∧ ∀ k, k < mny q → ((fs_ q size ≤ k ∧ k < fs_ q (size + 1)) ↔ sz_ q k = size) := by decide +kernel
theorem Tab.fr {m m' : vM} (h : Tab m) (hI : ∀ a j, tabP a j → rI m' a j = rI m a j ∧ rJ m' a j = rJ m a j) : Tab m' := by
  obtain ⟨h1, h2, h3, h4, h5, h6, h7, h8, h9⟩ := h
  refine ⟨fun q => ?_, fun q k hk => ?_, fun q size code a1 a2 a3 => ?_, fun q size a1 => ?_, fun q k set a1 a2 => ?_, fun q j a1 => ?_, fun r a1 => ?_, ?_, fun k a1 => ?_⟩
  · have := h1 q
    have e : tabP (fo q) 0 ∧ tabP (fo q) 1 ∧ tabP (fo q) 2 := by cases q <;> (unfold tabP fo; simp)
    rw [(hI _ _ e.1).1, (hI _ _ e.2.1).1, (hI _ _ e.2.2).1]
    exact this
  · obtain ⟨g1, g2, ⟨g3, g4, g5⟩, g6, g7⟩ := h2 q k hk
    have e : ∀ j, tabP (aSz q) j ∧ tabP (aCd q) j ∧ tabP (aNt q + 3 * k) j ∧ tabP (aNt q + 3 * k + 1) j ∧ tabP 323 j ∧ tabP 324 j := by
      intro j
      cases q
      · unfold tabP aSz aCd aNt; unfold mny at hk; simp at hk ⊢; omega
      · unfold tabP aSz aCd aNt; unfold mny at hk; simp at hk ⊢; omega
    refine ⟨by rw [(hI _ _ (e _).1).1]; exact g1, by rw [(hI _ _ (e _).2.1).1]; exact g2, ⟨by rw [(hI _ _ (e _).2.2.1).1]; exact g3, g4, fun i hi => by rw [(hI _ _ (e _).2.2.2.1).1]; exact g5 i hi⟩, by rw [(hI _ _ (e _).2.2.2.2.1).1]; exact g6, by rw [(hI _ _ (e _).2.2.2.2.2).1]; exact g7⟩
  · have e : ∀ j, tabP (aNu q + size) j ∧ tabP (aBy q) j := by
      intro j
      cases q <;> (unfold tabP aNu aBy; simp; omega)
    rw [(hI _ _ (e _).1).1, (hI _ _ (e _).2).1]
    exact h3 q size code a1 a2 a3
  · have e : ∀ j, tabP (aFs q) j := by intro j; cases q <;> (unfold tabP aFs; simp)
    rw [(hI _ _ (e _)).1]
    exact h4 q size a1
  · have e : ∀ j, tabP (aOn q + k) j := by
      intro j
      cases q
      · unfold tabP aOn; unfold mny at a1; simp at a1 ⊢; omega
      · unfold tabP aOn; unfold mny at a1; simp at a1 ⊢; omega
    rw [(hI _ _ (e _)).1]
    exact h5 q k set a1 a2
  · have e : ∀ j, tabP (aRe q) j := by intro j; cases q <;> (unfold tabP aRe; simp)
    rw [(hI _ _ (e _)).1]
    exact h6 q j a1
  · have e : ∀ j, tabP 224 j ∧ tabP 225 j := by intro j; unfold tabP; simp
    rw [(hI _ _ (e _).1).1, (hI _ _ (e _).2).1]
    exact h7 r a1
  · rw [(hI 231 0 (by unfold tabP; simp)).1]
    exact h8
  · have e : ∀ j, tabP 232 j ∧ tabP 233 j := by intro j; unfold tabP; simp
    show (rJ m' 232 k, rJ m' 233 k) = _
    rw [(hI _ _ (e _).1).2, (hI _ _ (e _).2).2]
    exact h9 k a1
theorem NetAt.tab {a j : Nat} (h : NetAt a) : ¬ tabP (a + 2) j := by
  have e : ∀ a, a < 354 → isOc a 3 = true → (a = 286 ∨ a = 304 ∨ (35 ≤ a ∧ a < 92 ∧ (a - 35) % 3 = 0) ∨ (136 ≤ a ∧ a < 223 ∧ (a - 136) % 3 = 0)) := by decide +kernel
  have := e a (by have := h.2.2.1; omega) h.o
  unfold tabP
  omega
end TABS
