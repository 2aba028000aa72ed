/-! the state after the constructors: 354 cells of a fixed shape; what changes are ints and longs -/
abbrev vM : Type := (Nat → Nat → Int32) × (Nat → Nat → Int64)
def shL : List (Nat × Nat) := [(0, 8), (0, 1), (1, 6), (6, 5), (1, 64), (1, 64), (1, 64), (1, 64), (1, 64), (1, 24), (1, 19), (1, 19), (4, 19), (6, 19), (1, 16), (1, 16), (1, 16), (1, 16), (1, 16), (1, 16), (1, 16), (1, 16), (1, 16), (1, 16), (1, 16), (1, 16), (1, 16), (1, 16), (1, 16), (1, 16), (1, 16), (1, 16), (1, 16), (1, 19), (1, 19), (0, 3), (1, 8), (1, 8), (0, 3), (1, 8), (1, 8), (0, 3), (1, 8), (1, 8), (0, 3), (1, 8), (1, 8), (0, 3), (1, 8), (1, 8), (0, 3), (1, 8), (1, 8), (0, 3), (1, 8), (1, 8), (0, 3), (1, 8), (1, 8), (0, 3), (1, 8), (1, 8), (0, 3), (1, 8), (1, 8), (0, 3), (1, 8), (1, 8), (0, 3), (1, 8), (1, 8), (0, 3), (1, 8), (1, 8), (0, 3), (1, 8), (1, 8), (0, 3), (1, 8), (1, 8), (0, 3), (1, 8), (1, 8), (0, 3), (1, 8), (1, 8), (0, 3), (1, 8), (1, 8), (0, 3), (1, 8), (1, 8), (0, 1), (1, 6), (6, 5), (1, 64), (1, 64), (1, 64), (1, 64), (1, 64), (1, 24), (1, 29), (1, 29), (4, 29), (6, 29), (1, 16), (1, 16), (1, 16), (1, 16), (1, 16), (1, 16), (1, 16), (1, 16), (1, 16), (1, 16), (1, 16), (1, 16), (1, 16), (1, 16), (1, 16), (1, 16), (1, 16), (1, 16), (1, 16), (1, 16), (1, 16), (1, 16), (1, 16), (1, 16), (1, 16), (1, 16), (1, 16), (1, 16), (1, 16), (1, 29), (1, 29), (0, 3), (1, 8), (1, 8), (0, 3), (1, 8), (1, 8), (0, 3), (1, 8), (1, 8), (0, 3), (1, 8), (1, 8), (0, 3), (1, 8), (1, 8), (0, 3), (1, 8), (1, 8), (0, 3), (1, 8), (1, 8), (0, 3), (1, 8), (1, 8), (0, 3), (1, 8), (1, 8), (0, 3), (1, 8), (1, 8), (0, 3), (1, 8), (1, 8), (0, 3), (1, 8), (1, 8), (0, 3), (1, 8), (1, 8), (0, 3), (1, 8), (1, 8), (0, 3), (1, 8), (1, 8), (0, 3), (1, 8), (1, 8), (0, 3), (1, 8), (1, 8), (0, 3), (1, 8), (1, 8), (0, 3), (1, 8), (1, 8), (0, 3), (1, 8), (1, 8), (0, 3), (1, 8), (1, 8), (0, 3), (1, 8), (1, 8), (0, 3), (1, 8), (1, 8), (0, 3), (1, 8), (1, 8), (0, 3), (1, 8), (1, 8), (0, 3), (1, 8), (1, 8), (0, 3), (1, 8), (1, 8), (0, 3), (1, 8), (1, 8), (0, 3), (1, 8), (1, 8), (0, 0), (1, 29), (1, 29), (0, 6), (2, 29), (2, 29), (0, 2), (0, 2), (0, 6), (2, 29), (2, 29), (0, 7), (1, 60), (1, 60), (1, 60), (1, 60), (1, 60), (1, 4), (1, 4), (1, 4), (0, 4), (5, 12), (0, 2), (0, 6), (2, 29), (2, 29), (0, 6), (2, 29), (2, 29), (0, 6), (2, 29), (2, 29), (0, 6), (2, 29), (2, 29), (0, 6), (2, 29), (2, 29), (0, 6), (2, 29), (2, 29), (0, 6), (2, 29), (2, 29), (0, 6), (2, 29), (2, 29), (0, 6), (2, 29), (2, 29), (0, 6), (2, 29), (2, 29), (0, 6), (2, 29), (2, 29), (0, 6), (2, 29), (2, 29), (0, 2), (0, 6), (2, 29), (2, 29), (0, 3), (1, 8), (1, 8), (0, 5), (3, 4), (5, 4), (0, 6), (2, 29), (2, 29), (0, 6), (2, 29), (2, 29), (0, 6), (2, 29), (2, 29), (0, 6), (2, 29), (2, 29), (0, 3), (1, 8), (1, 8), (0, 5), (3, 4), (5, 4), (0, 6), (2, 29), (2, 29), (0, 6), (2, 29), (2, 29), (0, 6), (2, 29), (2, 29), (0, 6), (2, 29), (2, 29), (0, 9), (1, 48), (1, 48), (1, 320), (1, 320), (1, 4), (1, 8), (1, 8), (3, 4), (1, 16), (2, 464), (2, 464), (1, 60), (1, 8), (3, 4), (1, 4), (2, 116), (2, 116), (1, 8), (1, 16), (1, 19), (1, 11), (1, 60), (1, 60), (1, 60), (1, 60), (1, 3), (3, 4), (3, 4), (1, 4), (1, 4), (1, 4)]
def rrL : List (List (Option Nat)) := [[some 1, some 92, some 223, some 234, some 243, some 282, some 283, some 286, some 289, some 304, some 307], [none, none, none, some 10, some 11, some 12, some 2, some 3, some 13, some 9, some 33, some 34], [], [some 4, some 5, some 6, some 7, some 8], [], [], [], [], [], [], [], [], [some 35, some 38, some 41, some 44, some 47, some 50, some 53, some 56, some 59, some 62, some 65, some 68, some 71, some 74, some 77, some 80, some 83, some 86, some 89], [some 14, some 15, some 16, some 17, some 18, some 19, some 20, some 21, some 22, some 23, some 24, some 25, some 26, some 27, some 28, some 29, some 30, some 31, some 32], [], [], [], [], [], [], [], [], [], [], [], [], [], [], [], [], [], [], [], [], [], [none, some 36, some 37], [], [], [none, some 39, some 40], [], [], [none, some 42, some 43], [], [], [none, some 45, some 46], [], [], [none, some 48, some 49], [], [], [none, some 51, some 52], [], [], [none, some 54, some 55], [], [], [none, some 57, some 58], [], [], [none, some 60, some 61], [], [], [none, some 63, some 64], [], [], [none, some 66, some 67], [], [], [none, some 69, some 70], [], [], [none, some 72, some 73], [], [], [none, some 75, some 76], [], [], [none, some 78, some 79], [], [], [none, some 81, some 82], [], [], [none, some 84, some 85], [], [], [none, some 87, some 88], [], [], [none, some 90, some 91], [], [], [none, none, none, some 101, some 102, some 103, some 93, some 94, some 104, some 100, some 134, some 135], [], [some 95, some 96, some 97, some 98, some 99], [], [], [], [], [], [], [], [], [some 136, some 139, some 142, some 145, some 148, some 151, some 154, some 157, some 160, some 163, some 166, some 169, some 172, some 175, some 178, some 181, some 184, some 187, some 190, some 193, some 196, some 199, some 202, some 205, some 208, some 211, some 214, some 217, some 220], [some 105, some 106, some 107, some 108, some 109, some 110, some 111, some 112, some 113, some 114, some 115, some 116, some 117, some 118, some 119, some 120, some 121, some 122, some 123, some 124, some 125, some 126, some 127, some 128, some 129, some 130, some 131, some 132, some 133], [], [], [], [], [], [], [], [], [], [], [], [], [], [], [], [], [], [], [], [], [], [], [], [], [], [], [], [], [], [], [], [none, some 137, some 138], [], [], [none, some 140, some 141], [], [], [none, some 143, some 144], [], [], [none, some 146, some 147], [], [], [none, some 149, some 150], [], [], [none, some 152, some 153], [], [], [none, some 155, some 156], [], [], [none, some 158, some 159], [], [], [none, some 161, some 162], [], [], [none, some 164, some 165], [], [], [none, some 167, some 168], [], [], [none, some 170, some 171], [], [], [none, some 173, some 174], [], [], [none, some 176, some 177], [], [], [none, some 179, some 180], [], [], [none, some 182, some 183], [], [], [none, some 185, some 186], [], [], [none, some 188, some 189], [], [], [none, some 191, some 192], [], [], [none, some 194, some 195], [], [], [none, some 197, some 198], [], [], [none, some 200, some 201], [], [], [none, some 203, some 204], [], [], [none, some 206, some 207], [], [], [none, some 209, some 210], [], [], [none, some 212, some 213], [], [], [none, some 215, some 216], [], [], [none, some 218, some 219], [], [], [none, some 221, some 222], [], [], [some 1, some 92, some 224, some 225, some 226, some 229, some 230, some 231], [], [], [none, some 227, some 228], [], [], [], [], [none, some 232, some 233], [], [], [some 1, some 92, some 235, none, none, some 236, some 237, some 238, some 239, none, none, some 240, some 241, some 242], [], [], [], [], [], [], [], [], [some 223, some 244, none, some 245], [some 246, some 249, some 252, some 255, some 258, some 261, some 264, some 267, some 270, some 273, some 276, some 279], [], [none, some 247, some 248], [], [], [none, some 250, some 251], [], [], [none, some 253, some 254], [], [], [none, some 256, some 257], [], [], [none, some 259, some 260], [], [], [none, some 262, some 263], [], [], [none, some 265, some 266], [], [], [none, some 268, some 269], [], [], [none, some 271, some 272], [], [], [none, some 274, some 275], [], [], [none, some 277, some 278], [], [], [none, some 280, some 281], [], [], [], [none, some 284, some 285], [], [], [none, some 287, some 288], [], [], [some 290, some 291], [], [some 292, some 295, some 298, some 301], [none, some 293, some 294], [], [], [none, some 296, some 297], [], [], [none, some 299, some 300], [], [], [none, some 302, some 303], [], [], [none, some 305, some 306], [], [], [some 308, some 309], [], [some 310, some 313, some 316, some 319], [none, some 311, some 312], [], [], [none, some 314, some 315], [], [], [none, some 317, some 318], [], [], [none, some 320, some 321], [], [], [some 323, some 324, some 325, some 326, some 327, none, some 328, none, some 329, some 330, some 331, some 332, some 333, none, some 334, none, none, some 335, some 336, some 337, some 338, some 339, some 340, none, none, none, some 341, some 342, some 343, none, none, some 344, some 345, some 346, some 347, none, some 348, none, some 349, some 350, some 351, some 352, some 353], [], [], [], [], [], [], [], [], [], [], [], [], [], [], [], [], [], [], [], [], [], [], [], [], [], [], [], [], [], [], []]
def SHf (a : Nat) : Nat × Nat := shL.getD a (0, 0)
def RRf (a k : Nat) : Option Nat := (rrL.getD a []).getD k none
def S (m : vM) : vS := ((354, 6966), SHf, m.1, m.2, RRf)
def rI (m : vM) (a k : Nat) : Int32 := m.1 a k
def rJ (m : vM) (a k : Nat) : Int64 := m.2 a k
def wI (m : vM) (a k : Nat) (v : Int32) : vM := (up2 m.1 a k v, m.2)
def wJ (m : vM) (a k : Nat) (v : Int64) : vM := (m.1, up2 m.2 a k v)
theorem rI_wI (m : vM) (a k : Nat) (v : Int32) (a' k' : Nat) : rI (wI m a k v) a' k' = if a' = a ∧ k' = k then v else rI m a' k' := rfl
theorem rJ_wJ (m : vM) (a k : Nat) (v : Int64) (a' k' : Nat) : rJ (wJ m a k v) a' k' = if a' = a ∧ k' = k then v else rJ m a' k' := rfl
theorem rI_wJ (m : vM) (a k : Nat) (v : Int64) (a' k' : Nat) : rI (wJ m a k v) a' k' = rI m a' k' := rfl
theorem rJ_wI (m : vM) (a k : Nat) (v : Int32) (a' k' : Nat) : rJ (wI m a k v) a' k' = rJ m a' k' := rfl
def inb (i : Int32) (n : Nat) : Bool := decide (¬ (i < 0 ∨ n ≤ i.toNatClampNeg))
def isOc (a ci : Nat) : Bool := decide (a < 354 ∧ SHf a = (0, ci) ∧ ci < 10)
def isAc (a kd : Nat) (i : Int32) : Bool := if decide (a < 354) && ((SHf a).1 == kd) then inb i (SHf a).2 else false
theorem isO_S (m : vM) (a ci : Nat) : isO (S m) a ci = isOc a ci := rfl
theorem isA_S (m : vM) (a kd : Nat) (i : Int32) : isA (S m) a kd i = isAc a kd i := by
  show decide (a < 354 ∧ (SHf a).1 = kd ∧ ¬ (i < 0 ∨ (SHf a).2 ≤ i.toNatClampNeg)) = _
  unfold isAc inb
  by_cases h1 : a < 354 <;> by_cases h2 : (SHf a).1 = kd <;> simp [h1, h2]
theorem gI_S (m : vM) (a k : Nat) : gI (S m) a k = rI m a k := rfl
theorem gJ_S (m : vM) (a k : Nat) : gJ (S m) a k = rJ m a k := rfl
theorem gR_S (m : vM) (a k : Nat) : gR (S m) a k = RRf a k := rfl
theorem setI_S (m : vM) (a k : Nat) (v : Int32) : setI (S m) a k v = S (wI m a k v) := rfl
theorem setJ_S (m : vM) (a k : Nat) (v : Int64) : setJ (S m) a k v = S (wJ m a k v) := rfl
theorem orN_s {ρ : Type} (r : Nat) (f : Nat → Option ρ) : orN (some r) f = f r := rfl
theorem bnd_s {ρ α : Type} (r : α) (s : vS) (f : α → vS → Option ρ) : bnd (some (r, s)) f = f r s := rfl
theorem lit (n : Nat) : (OfNat.ofNat n : Int32) = nI n := rfl
theorem inb_nI {k n : Nat} (h : k < n) (hn : n < 2 ^ 31) : inb (nI k) n = true := decide_eq_true (nI_in h hn)
theorem inb_out {x : Int32} {n : Nat} (hn : n < 2 ^ 31) (h : inb x n = true) : ∃ k, k < n ∧ x = nI k := by
  unfold inb at h
  have h := of_decide_eq_true h
  exact vp_in_of h hn
/-- a truth as the machine has it -/
def b2 (c : Prop) [Decidable c] : Int32 := if c then 1 else 0
theorem b2_if {ρ : Type} (c : Prop) [Decidable c] (A B : Option ρ) : (if b2 c = (0 : Int32) then A else B) = if c then B else A := by
  unfold b2
  by_cases h : c
  · rw [if_pos h, if_pos h, if_neg (by decide)]
  · rw [if_neg h, if_neg h, if_pos rfl]
theorem rtZ_b2 (c : Prop) [Decidable c] (s : vS) : rtZ (b2 c) s = some (b2 c, s) := by
  unfold b2 rtZ
  by_cases h : c
  · rw [if_pos h]; rfl
  · rw [if_neg h]; rfl
theorem rtZ_0 (s : vS) : rtZ 0 s = some (0, s) := rfl
theorem rtZ_1 (s : vS) : rtZ 1 s = some (1, s) := rfl
theorem b2_t {c : Prop} [Decidable c] (h : c) : b2 c = 1 := if_pos h
theorem b2_f {c : Prop} [Decidable c] (h : ¬ c) : b2 c = 0 := if_neg h
theorem nzI_l {ρ : Type} {y : Int32} (h : ¬ y = 0) (o : Option ρ) : nzI y o = o := if_pos h
theorem nzJ_l {ρ : Type} {y : Int64} (h : ¬ y = 0) (o : Option ρ) : nzJ y o = o := if_pos h
theorem fmO : isOc 322 9 = true := by decide +kernel
theorem fmR0 : RRf 322 0 = some 323 := rfl
theorem fmA0 (i : Int32) : isAc 323 1 i = inb i 48 := rfl
theorem fmR1 : RRf 322 1 = some 324 := rfl
theorem fmA1 (i : Int32) : isAc 324 1 i = inb i 48 := rfl
theorem fmR2 : RRf 322 2 = some 325 := rfl
theorem fmA2 (i : Int32) : isAc 325 1 i = inb i 320 := rfl
theorem fmR3 : RRf 322 3 = some 326 := rfl
theorem fmA3 (i : Int32) : isAc 326 1 i = inb i 320 := rfl
theorem fmR4 : RRf 322 4 = some 327 := rfl
theorem fmA4 (i : Int32) : isAc 327 1 i = inb i 4 := rfl
theorem fmR6 : RRf 322 6 = some 328 := rfl
theorem fmA6 (i : Int32) : isAc 328 1 i = inb i 8 := rfl
theorem fmR8 : RRf 322 8 = some 329 := rfl
theorem fmA8 (i : Int32) : isAc 329 1 i = inb i 8 := rfl
theorem fmR9 : RRf 322 9 = some 330 := rfl
theorem fmA9 (i : Int32) : isAc 330 3 i = inb i 4 := rfl
theorem fmR10 : RRf 322 10 = some 331 := rfl
theorem fmA10 (i : Int32) : isAc 331 1 i = inb i 16 := rfl
theorem fmR11 : RRf 322 11 = some 332 := rfl
theorem fmA11 (i : Int32) : isAc 332 2 i = inb i 464 := rfl
theorem fmR12 : RRf 322 12 = some 333 := rfl
theorem fmA12 (i : Int32) : isAc 333 2 i = inb i 464 := rfl
theorem fmR14 : RRf 322 14 = some 334 := rfl
theorem fmA14 (i : Int32) : isAc 334 1 i = inb i 60 := rfl
theorem fmR17 : RRf 322 17 = some 335 := rfl
theorem fmA17 (i : Int32) : isAc 335 1 i = inb i 8 := rfl
theorem fmR18 : RRf 322 18 = some 336 := rfl
theorem fmA18 (i : Int32) : isAc 336 3 i = inb i 4 := rfl
theorem fmR19 : RRf 322 19 = some 337 := rfl
theorem fmA19 (i : Int32) : isAc 337 1 i = inb i 4 := rfl
theorem fmR20 : RRf 322 20 = some 338 := rfl
theorem fmA20 (i : Int32) : isAc 338 2 i = inb i 116 := rfl
theorem fmR21 : RRf 322 21 = some 339 := rfl
theorem fmA21 (i : Int32) : isAc 339 2 i = inb i 116 := rfl
theorem fmR22 : RRf 322 22 = some 340 := rfl
theorem fmA22 (i : Int32) : isAc 340 1 i = inb i 8 := rfl
theorem fmR26 : RRf 322 26 = some 341 := rfl
theorem fmA26 (i : Int32) : isAc 341 1 i = inb i 16 := rfl
theorem fmR27 : RRf 322 27 = some 342 := rfl
theorem fmA27 (i : Int32) : isAc 342 1 i = inb i 19 := rfl
theorem fmR28 : RRf 322 28 = some 343 := rfl
theorem fmA28 (i : Int32) : isAc 343 1 i = inb i 11 := rfl
theorem fmR31 : RRf 322 31 = some 344 := rfl
theorem fmA31 (i : Int32) : isAc 344 1 i = inb i 60 := rfl
theorem fmR32 : RRf 322 32 = some 345 := rfl
theorem fmA32 (i : Int32) : isAc 345 1 i = inb i 60 := rfl
theorem fmR33 : RRf 322 33 = some 346 := rfl
theorem fmA33 (i : Int32) : isAc 346 1 i = inb i 60 := rfl
theorem fmR34 : RRf 322 34 = some 347 := rfl
theorem fmA34 (i : Int32) : isAc 347 1 i = inb i 60 := rfl
theorem fmR36 : RRf 322 36 = some 348 := rfl
theorem fmA36 (i : Int32) : isAc 348 1 i = inb i 3 := rfl
theorem fmR38 : RRf 322 38 = some 349 := rfl
theorem fmA38 (i : Int32) : isAc 349 3 i = inb i 4 := rfl
theorem fmR39 : RRf 322 39 = some 350 := rfl
theorem fmA39 (i : Int32) : isAc 350 3 i = inb i 4 := rfl
theorem fmR40 : RRf 322 40 = some 351 := rfl
theorem fmA40 (i : Int32) : isAc 351 1 i = inb i 4 := rfl
theorem fmR41 : RRf 322 41 = some 352 := rfl
theorem fmA41 (i : Int32) : isAc 352 1 i = inb i 4 := rfl
theorem fmR42 : RRf 322 42 = some 353 := rfl
theorem fmA42 (i : Int32) : isAc 353 1 i = inb i 4 := rfl
theorem fxO : isOc 0 8 = true := by decide +kernel
theorem fxR0 : RRf 0 0 = some 1 := rfl
theorem fxR1 : RRf 0 1 = some 92 := rfl
theorem fxR2 : RRf 0 2 = some 223 := rfl
theorem fxR3 : RRf 0 3 = some 234 := rfl
theorem fxR4 : RRf 0 4 = some 243 := rfl
theorem fxR5 : RRf 0 5 = some 282 := rfl
theorem fxR6 : RRf 0 6 = some 283 := rfl
theorem fxR7 : RRf 0 7 = some 286 := rfl
theorem fxR8 : RRf 0 8 = some 289 := rfl
theorem fxR9 : RRf 0 9 = some 304 := rfl
theorem fxR10 : RRf 0 10 = some 307 := rfl
theorem ffO : isOc 1 1 = true := by decide +kernel
theorem ffR3 : RRf 1 3 = some 10 := rfl
theorem ffA3 (i : Int32) : isAc 10 1 i = inb i 19 := rfl
theorem ffR4 : RRf 1 4 = some 11 := rfl
theorem ffA4 (i : Int32) : isAc 11 1 i = inb i 19 := rfl
theorem ffR5 : RRf 1 5 = some 12 := rfl
theorem ffR6 : RRf 1 6 = some 2 := rfl
theorem ffA6 (i : Int32) : isAc 2 1 i = inb i 6 := rfl
theorem ffR7 : RRf 1 7 = some 3 := rfl
theorem ffR8 : RRf 1 8 = some 13 := rfl
theorem ffR9 : RRf 1 9 = some 9 := rfl
theorem ffA9 (i : Int32) : isAc 9 1 i = inb i 24 := rfl
theorem ffR10 : RRf 1 10 = some 33 := rfl
theorem ffA10 (i : Int32) : isAc 33 1 i = inb i 19 := rfl
theorem ffR11 : RRf 1 11 = some 34 := rfl
theorem ffA11 (i : Int32) : isAc 34 1 i = inb i 19 := rfl
theorem frO : isOc 92 1 = true := by decide +kernel
theorem frR3 : RRf 92 3 = some 101 := rfl
theorem frA3 (i : Int32) : isAc 101 1 i = inb i 29 := rfl
theorem frR4 : RRf 92 4 = some 102 := rfl
theorem frA4 (i : Int32) : isAc 102 1 i = inb i 29 := rfl
theorem frR5 : RRf 92 5 = some 103 := rfl
theorem frR6 : RRf 92 6 = some 93 := rfl
theorem frA6 (i : Int32) : isAc 93 1 i = inb i 6 := rfl
theorem frR7 : RRf 92 7 = some 94 := rfl
theorem frR8 : RRf 92 8 = some 104 := rfl
theorem frR9 : RRf 92 9 = some 100 := rfl
theorem frA9 (i : Int32) : isAc 100 1 i = inb i 24 := rfl
theorem frR10 : RRf 92 10 = some 134 := rfl
theorem frA10 (i : Int32) : isAc 134 1 i = inb i 29 := rfl
theorem frR11 : RRf 92 11 = some 135 := rfl
theorem frA11 (i : Int32) : isAc 135 1 i = inb i 29 := rfl
theorem faO : isOc 223 0 = true := by decide +kernel
theorem faR0 : RRf 223 0 = some 1 := rfl
theorem faR1 : RRf 223 1 = some 92 := rfl
theorem faR2 : RRf 223 2 = some 224 := rfl
theorem faA2 (i : Int32) : isAc 224 1 i = inb i 29 := rfl
theorem faR3 : RRf 223 3 = some 225 := rfl
theorem faA3 (i : Int32) : isAc 225 1 i = inb i 29 := rfl
theorem faR4 : RRf 223 4 = some 226 := rfl
theorem faR5 : RRf 223 5 = some 229 := rfl
theorem faR6 : RRf 223 6 = some 230 := rfl
theorem faR7 : RRf 223 7 = some 231 := rfl
theorem ftO : isOc 234 7 = true := by decide +kernel
theorem ftR0 : RRf 234 0 = some 1 := rfl
theorem ftR1 : RRf 234 1 = some 92 := rfl
theorem ftR2 : RRf 234 2 = some 235 := rfl
theorem ftA2 (i : Int32) : isAc 235 1 i = inb i 60 := rfl
theorem ftR5 : RRf 234 5 = some 236 := rfl
theorem ftA5 (i : Int32) : isAc 236 1 i = inb i 60 := rfl
theorem ftR6 : RRf 234 6 = some 237 := rfl
theorem ftA6 (i : Int32) : isAc 237 1 i = inb i 60 := rfl
theorem ftR7 : RRf 234 7 = some 238 := rfl
theorem ftA7 (i : Int32) : isAc 238 1 i = inb i 60 := rfl
theorem ftR8 : RRf 234 8 = some 239 := rfl
theorem ftA8 (i : Int32) : isAc 239 1 i = inb i 60 := rfl
theorem ftR11 : RRf 234 11 = some 240 := rfl
theorem ftA11 (i : Int32) : isAc 240 1 i = inb i 4 := rfl
theorem ftR12 : RRf 234 12 = some 241 := rfl
theorem ftA12 (i : Int32) : isAc 241 1 i = inb i 4 := rfl
theorem ftR13 : RRf 234 13 = some 242 := rfl
theorem ftA13 (i : Int32) : isAc 242 1 i = inb i 4 := rfl
theorem fkO : isOc 243 4 = true := by decide +kernel
theorem fkR0 : RRf 243 0 = some 223 := rfl
theorem fkR1 : RRf 243 1 = some 244 := rfl
theorem fkR3 : RRf 243 3 = some 245 := rfl
theorem fsO : isOc 289 5 = true := by decide +kernel
theorem fsR0 : RRf 289 0 = some 290 := rfl
theorem fsA0 (i : Int32) : isAc 290 3 i = inb i 4 := rfl
theorem fsR1 : RRf 289 1 = some 291 := rfl
theorem fzO : isOc 307 5 = true := by decide +kernel
theorem fzR0 : RRf 307 0 = some 308 := rfl
theorem fzA0 (i : Int32) : isAc 308 3 i = inb i 4 := rfl
theorem fzR1 : RRf 307 1 = some 309 := rfl
theorem fhO : isOc 286 3 = true := by decide +kernel
theorem fhR1 : RRf 286 1 = some 287 := rfl
theorem fhA1 (i : Int32) : isAc 287 1 i = inb i 8 := rfl
theorem fhR2 : RRf 286 2 = some 288 := rfl
theorem fhA2 (i : Int32) : isAc 288 1 i = inb i 8 := rfl
theorem fqO : isOc 304 3 = true := by decide +kernel
theorem fqR1 : RRf 304 1 = some 305 := rfl
theorem fqA1 (i : Int32) : isAc 305 1 i = inb i 8 := rfl
theorem fqR2 : RRf 304 2 = some 306 := rfl
theorem fqA2 (i : Int32) : isAc 306 1 i = inb i 8 := rfl
