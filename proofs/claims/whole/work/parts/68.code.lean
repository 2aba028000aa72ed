/-! what lies on a set: both sides by one function -/
section CODE
variable {N : Nat} {m : vM} {s : vS}
theorem fld_inv {α : Type} {g : Nat → α → α} (P : Nat → α → Prop) : ∀ (d i : Nat) (x : α), P i x → (∀ j x, i ≤ j → j < i + d → P j x → P (j + 1) (g j x)) → P (i + d) (fld g d i x)
  | 0, _, _, h, _ => h
  | d + 1, i, x, h, hs => by
    have := fld_inv P d (i + 1) (g i x) (hs i x (Nat.le_refl _) (by omega) h) (fun j x h1 h2 => hs j x (by omega) (by omega))
    rw [show i + (d + 1) = i + 1 + d by omega]
    exact this
theorem fld_congr {α : Type} {g h : Nat → α → α} : ∀ (d i : Nat) (x : α), (∀ j x, i ≤ j → j < i + d → g j x = h j x) → fld g d i x = fld h d i x
  | 0, _, _, _ => rfl
  | d + 1, i, x, e => by
    rw [fld, fld, e i x (Nat.le_refl _) (by omega)]
    exact fld_congr d (i + 1) _ (fun j x h1 h2 => e j x (by omega) (by omega))
def rt : Option Nat → Int32
  | none => -1
  | some r => nI r
theorem rt_eq {root : Option Nat} (hr : ∀ r, root = some r → r < 8) {i : Nat} (hi : i < 8) : (nI i = rt root) ↔ root = some i := by
  cases root with
  | none =>
    have : ∀ i, i < 8 → ¬ nI i = -1 := by decide +kernel
    exact ⟨fun h => absurd h (this i hi), fun h => by cases h⟩
  | some r =>
    have := hr r rfl
    constructor
    · intro h
      rw [(nI_eq (by omega) (by omega)).mp h]
    · intro h
      cases h
      rfl
theorem c_has {a : Nat} (ha : isOc a 3 = true) (x : Int32) : F_X3_has N a x (S m) = some (b2 ((0 : Int32) ≤ x ∧ x < rI m a 0), S m) := by
  unfold F_X3_has
  refine e_rcv ha ?_
  by_cases h1 : x < 0
  · refine e_t h1 ?_
    rw [b2_f (fun h => absurd h.1 (Int32.not_le.mpr h1))]
    rfl
  · refine e_f h1 ?_
    refine e_ldI ha ?_
    by_cases h2 : rI m a 0 ≤ x
    · refine e_t h2 ?_
      rw [b2_f (fun h => absurd h.2 (Int32.not_lt.mpr h2))]
      rfl
    · refine e_f h2 ?_
      rw [b2_t ⟨Int32.not_lt.mp h1, Int32.not_le.mp h2⟩]
      rfl
theorem c_bitOf {i j : Nat} (hi : i < 8) (hj : j < 8) : F_X1_bitOf N (nI i) (nI j) s = some (nI (2 ^ bx i j), s) := by
  have h : ∀ i, i < 8 → ∀ j, j < 8 → (F_X1_bitOf 0 (nI i) (nI j) ((0, 0), fun _ => (0, 0), fun _ _ => 0, fun _ _ => 0, fun _ _ => none)).map (·.1) = some (nI (2 ^ bx i j)) := by decide +kernel
  have g : ∀ (x y : Int32) (s' : vS), F_X1_bitOf N x y s = ((F_X1_bitOf 0 x y s').map (·.1)).map (fun r => (r, s)) := by
    intro x y s'
    unfold F_X1_bitOf J_X1_bitOf_10 J_X1_bitOf_21
    repeat' split
    all_goals rfl
  rw [g _ _ _, h i hi j hj]
  rfl
theorem m_bit {i j : Nat} (hi : i < 8) (hj : j < 8) : F_X9_bit N (nI i) (nI j) s = some (nI (bx i j), s) := by
  have h : ∀ i, i < 8 → ∀ j, j < 8 → (F_X9_bit 0 (nI i) (nI j) ((0, 0), fun _ => (0, 0), fun _ _ => 0, fun _ _ => 0, fun _ _ => none)).map (·.1) = some (nI (bx i j)) := by decide +kernel
  have g : ∀ (x y : Int32) (s' : vS), F_X9_bit N x y s = ((F_X9_bit 0 x y s').map (·.1)).map (fun r => (r, s)) := by
    intro x y s'
    unfold F_X9_bit
    repeat' split
    all_goals rfl
  rw [g _ _ _, h i hi j hj]
  rfl
abbrev cstep (set : Nat) (root : Option Nat) : Nat → Nat × (Nat → Nat) → Nat × (Nat → Nat) := fun i c => if root = some i ∨ bt set i = 0 then c else (c.1 + 1, fun j => if j = c.1 then i else c.2 j)
theorem cstep_le {set : Nat} {root : Option Nat} : ∀ (d i : Nat) (c : Nat × (Nat → Nat)), c.1 ≤ (fld (cstep set root) d i c).1
  | 0, _, _ => Nat.le_refl _
  | d + 1, i, c => by
    have := cstep_le (set := set) (root := root) d (i + 1) (cstep set root i c)
    rw [fld]
    refine Nat.le_trans ?_ this
    unfold cstep
    split
    · exact Nat.le_refl _
    · exact Nat.le_succ _
theorem bx6 : ∀ j, j < 4 → ∀ i, i < j → bx i j < j * (j - 1) / 2 + j ∧ bx i j < 6 := by decide +kernel
theorem c_ch_l {a nn set : Nat} {r : Nat → Nat} {root : Option Nat} (ha : NetAt a) (hr : ∀ r, root = some r → r < 8) (hset : set < 256) : ∀ (d i n : Nat) (c : Nat × (Nat → Nat)) (m : vM), i + d = nn → d < n → NetIs m a nn r → (fld (cstep set root) d i c).1 ≤ 4 → (∀ j, j < c.1 → rI m (a + 2) j = nI (c.2 j) ∧ c.2 j < nn) →
    ∃ m', H_X3_codeOn_23 N n a (nI set) (rt root) (nI c.1) (nI i) (S m) = H_X3_codeOn_76 N N a (nI (fld (cstep set root) d i c).1) 0 1 (S m') ∧ Fr (fun b _ => b = a + 2) m m' ∧ ∀ j, j < (fld (cstep set root) d i c).1 → rI m' (a + 2) j = nI ((fld (cstep set root) d i c).2 j) ∧ (fld (cstep set root) d i c).2 j < nn
  | _, _, 0, _, _, _, h, _, _, _ => by omega
  | 0, i, n + 1, c, m, hi, _, hn, _, hc => by
    refine ⟨m, ?_, Fr.rf, hc⟩
    obtain ⟨h1, h2, h3⟩ := hn
    unfold H_X3_codeOn_23
    refine e_ldI ha.o ?_
    rw [h1]
    exact e_t (by rw [show i = nn by omega]; exact Int32.le_refl _) rfl
  | d + 1, i, n + 1, c, m, hi, hd, hn, hf, hc => by
    obtain ⟨h1, h2, h3⟩ := id hn
    have hi8 : i < 8 := by omega
    rw [fld] at hf
    have hle := cstep_le (set := set) (root := root) d (i + 1) (cstep set root i c)
    have hstep : ∀ R : vM → Option (Int32 × vS), (∃ m', H_X3_codeOn_23 N n a (nI set) (rt root) (nI (cstep set root i c).1) (nI (i + 1)) (S (if root = some i ∨ bt set i = 0 then m else wI m (a + 2) c.1 (nI i))) = R m' ∧ Fr (fun b _ => b = a + 2) (if root = some i ∨ bt set i = 0 then m else wI m (a + 2) c.1 (nI i)) m' ∧ ∀ j, j < (fld (cstep set root) d (i + 1) (cstep set root i c)).1 → rI m' (a + 2) j = nI ((fld (cstep set root) d (i + 1) (cstep set root i c)).2 j) ∧ (fld (cstep set root) d (i + 1) (cstep set root i c)).2 j < nn) →
        ∃ m', H_X3_codeOn_23 N (n + 1) a (nI set) (rt root) (nI c.1) (nI i) (S m) = R m' ∧ Fr (fun b _ => b = a + 2) m m' ∧ ∀ j, j < (fld (cstep set root) d (i + 1) (cstep set root i c)).1 → rI m' (a + 2) j = nI ((fld (cstep set root) d (i + 1) (cstep set root i c)).2 j) ∧ (fld (cstep set root) d (i + 1) (cstep set root i c)).2 j < nn := by
      rintro R ⟨m', g1, g2, g3⟩
      refine ⟨m', ?_, ?_, g3⟩
      · unfold H_X3_codeOn_23
        refine e_ldI ha.o ?_
        rw [h1]
        refine e_f (by rw [nI_leI (by omega) (by omega)]; omega) ?_
        by_cases z1 : root = some i
        · refine e_t ((rt_eq hr hi8).mpr z1) ?_
          rw [if_pos (Or.inl z1)] at g1
          unfold cstep at g1
          rw [if_pos (Or.inl z1)] at g1
          unfold J_X3_codeOn_64
          refine e_nm ?_
          rw [addR]
          exact g1
        · refine e_f (fun h => z1 ((rt_eq hr hi8).mp h)) ?_
          rw [shr_and (by omega) (by omega)]
          by_cases z2 : bt set i = 0
          · refine e_t (by rw [z2]; rfl) ?_
            rw [if_pos (Or.inr z2)] at g1
            unfold cstep at g1
            rw [if_pos (Or.inr z2)] at g1
            unfold J_X3_codeOn_64
            refine e_nm ?_
            rw [addR]
            exact g1
          · have z : ¬ (root = some i ∨ bt set i = 0) := fun h => h.elim z1 z2
            have hb := bt_lt set i
            refine e_f (by rw [show bt set i = 1 by omega]; decide) ?_
            unfold cstep at hle
            rw [if_neg z] at g1 hle
            unfold cstep at g1 hf
            rw [if_neg z] at g1 hf
            have hc4 : c.1 + 1 ≤ 4 := Nat.le_trans hle hf
            refine e_f (by simp (disch := omega) only [leL, leR, ltL, ltR, eqR, mulL, addR, clL, inL, nI_add, pk_mul, inb_nI, nI_clamp, nI_leI, nI_ltI, nI_eq, nI_1]; omega) ?_
            refine e_ldR ha.o ha.r2 ?_
            refine e_asI ha.a2 rfl (by omega) ?_
            refine e_nm ?_
            unfold J_X3_codeOn_64
            refine e_nm ?_
            rw [addR, addR]
            exact g1
      · by_cases z : root = some i ∨ bt set i = 0
        · rw [if_pos z] at g2; exact g2
        · rw [if_neg z] at g2
          exact g2.pI rfl
    rw [fld]
    refine hstep _ (c_ch_l (r := r) ha hr hset d (i + 1) n (cstep set root i c) _ (by omega) (by omega) ?_ hf ?_)
    · by_cases z : root = some i ∨ bt set i = 0
      · rw [if_pos z]; exact hn
      · rw [if_neg z]
        exact ⟨by rw [rI_n _ _ (by omega)]; exact h1, h2, fun j hj => by rw [rI_n _ _ (by omega)]; exact h3 j hj⟩
    · by_cases z : root = some i ∨ bt set i = 0
      · unfold cstep
        rw [if_pos z, if_pos z]; exact hc
      · unfold cstep
        rw [if_neg z, if_neg z]
        intro j hj
        show rI (wI m (a + 2) c.1 (nI i)) (a + 2) j = nI (if j = c.1 then i else c.2 j) ∧ (if j = c.1 then i else c.2 j) < nn
        by_cases e : j = c.1
        · rw [if_pos e, e, rI_s]; exact ⟨rfl, by omega⟩
        · rw [if_neg e, rI_n _ _ (by omega)]
          exact hc j (by have : j < c.1 + 1 := hj; omega)
abbrev istep (r ch : Nat → Nat) (j : Nat) : Nat → Nat → Nat := fun i c => if bt (r (ch j)) (ch i) = 1 then c ||| 2 ^ bx i j else c
theorem istep_lt {r ch : Nat → Nat} {i j c : Nat} (hj : j < 4) (hi : i < j) (hc : c < 64) : istep r ch j i c < 64 := by
  unfold istep
  split
  · have h := (bx6 j hj i hi).2
    have h2 : (2 : Nat) ^ bx i j < 2 ^ 6 := Nat.pow_lt_pow_right (by decide) h
    exact Nat.or_lt_two_pow (n := 6) hc h2
  · exact hc
theorem cdi_lt {r ch : Nat → Nat} {j c : Nat} (hj : j < 4) (hc : c < 64) : cdi r ch j c < 64 := by
  have := fld_inv (g := istep r ch j) (fun _ c => c < 64) j 0 c hc (fun i x _ h2 h3 => istep_lt hj (by omega) h3)
  exact this
theorem c_cdi_l {a nn j k : Nat} {r ch : Nat → Nat} {K : Nat → Int32 → Int32 → Int32 → vS → Option (Int32 × vS)} (ha : NetAt a) (hj : j < k) (hk : k ≤ 4) (hn : NetIs m a nn r) (hch : ∀ j, j < k → rI m (a + 2) j = nI (ch j) ∧ ch j < nn) : ∀ (d i n c : Nat), i + d = j → d < n → c < 64 →
    H_X3_codeOn_85 N K n a (nI k) (nI c) (nI j) (nI i) (S m) = K a (nI k) (nI (fld (istep r ch j) d i c)) (nI (j + 1)) (S m)
  | _, _, 0, _, _, h, _ => by omega
  | 0, i, n + 1, c, hi, _, _ => by
    unfold H_X3_codeOn_85
    refine e_t (by rw [show i = j by omega]; exact Int32.le_refl _) ?_
    refine e_nm ?_
    rw [addR]
    rfl
  | d + 1, i, n + 1, c, hi, hd, hc => by
    obtain ⟨h1, h2, h3⟩ := hn
    have hj1 := hch j hj
    have hi1 := hch i (by omega)
    have hr1 := h3 (ch j) hj1.2
    have h256 : r (ch j) < 2 ^ 8 := Nat.lt_of_lt_of_le hr1.2 (Nat.pow_le_pow_right (by decide) h2)
    have ih := c_cdi_l (K := K) ha hj hk ⟨h1, h2, h3⟩ hch d (i + 1) n (istep r ch j i c) (by omega) (by omega) (istep_lt (by omega) (by omega) hc)
    have hb := bx6 j (by omega) i (by omega)
    unfold H_X3_codeOn_85
    refine e_f (by simp (disch := omega) only [leL, leR, ltL, ltR, eqR, mulL, addR, clL, inL, nI_add, pk_mul, inb_nI, nI_clamp, nI_leI, nI_ltI, nI_eq, nI_1]; omega) ?_
    refine e_ldR ha.o ha.r1 ?_
    refine e_ldR ha.o ha.r2 ?_
    refine e_alI ha.a2 rfl (by omega) ?_
    rw [hj1.1]
    refine e_alI ha.a1 rfl (by omega) ?_
    rw [hr1.1]
    refine e_ldR ha.o ha.r2 ?_
    refine e_alI ha.a2 rfl (by omega) ?_
    rw [hi1.1, shr_and (by omega) (by omega)]
    have hbt := bt_lt (r (ch j)) (ch i)
    rw [fld]
    by_cases z : bt (r (ch j)) (ch i) = 1
    · refine e_f (by rw [z]; decide) ?_
      refine e_bnd (c_bitOf (by omega) (by omega)) ?_
      have h2 : (2 : Nat) ^ bx i j < 2 ^ 6 := Nat.pow_lt_pow_right (by decide) hb.2
      refine e_nm ?_
      rw [nI_or (by omega) (by omega)]
      unfold J_X3_codeOn_129
      refine e_nm ?_
      rw [addR]
      unfold istep at ih
      rw [if_pos z] at ih
      unfold istep
      rw [if_pos z]
      exact ih
    · refine e_t (by rw [show bt (r (ch j)) (ch i) = 0 by omega]; rfl) ?_
      unfold J_X3_codeOn_129
      refine e_nm ?_
      rw [addR]
      unfold istep at ih
      rw [if_neg z] at ih
      unfold istep
      rw [if_neg z]
      exact ih
theorem c_cdo_l {a nn k : Nat} {r ch : Nat → Nat} (ha : NetAt a) (hk : k ≤ 4) (hn : NetIs m a nn r) (hch : ∀ j, j < k → rI m (a + 2) j = nI (ch j) ∧ ch j < nn) (hN : 100 ≤ N) : ∀ (d j n c : Nat), d = k - j → j < 5 → d < n → c < 64 →
    H_X3_codeOn_76 N n a (nI k) (nI c) (nI j) (S m) = some (nI (fld (fun j c => cdi r ch j c) d j c), S m)
  | _, _, 0, _, _, _, h, _ => by omega
  | 0, j, n + 1, c, hd, hj, _, _ => by
    unfold H_X3_codeOn_76
    exact e_t (by simp (disch := omega) only [leL, leR, ltL, ltR, eqR, mulL, addR, clL, inL, nI_add, pk_mul, inb_nI, nI_clamp, nI_leI, nI_ltI, nI_eq, nI_1]; omega) rfl
  | d + 1, j, n + 1, c, hd, hj, hn', hc => by
    have ih := c_cdo_l ha hk hn hch hN d (j + 1) n (cdi r ch j c) (by omega) (by omega) (by omega) (cdi_lt (by omega) hc)
    unfold H_X3_codeOn_76
    refine e_f (by simp (disch := omega) only [leL, leR, ltL, ltR, eqR, mulL, addR, clL, inL, nI_add, pk_mul, inb_nI, nI_clamp, nI_leI, nI_ltI, nI_eq, nI_1]; omega) ?_
    refine (c_cdi_l ha (by omega) hk hn hch j 0 N c (by omega) (by omega) hc).trans ?_
    exact ih
theorem c_codeOn {a nn set : Nat} {r : Nat → Nat} {root : Option Nat} (hN : 100 ≤ N) (ha : NetAt a) (hn : NetIs m a nn r) (hset : set < 2 ^ nn) (hr : ∀ x, root = some x → x < nn) (hk : (chs set root nn).1 ≤ 4) :
    ∃ m', F_X3_codeOn N a (nI set) (rt root) (S m) = some (nI (cdo r (chs set root nn).2 (chs set root nn).1), S m') ∧ Fr (fun b _ => b = a + 2) m m' := by
  obtain ⟨h1, h2, h3⟩ := id hn
  have h8 : (2 : Nat) ^ nn ≤ 2 ^ 8 := Nat.pow_le_pow_right (by decide) h2
  have hr8 : ∀ x, root = some x → x < 8 := fun x hx => by have := hr x hx; omega
  have go : ∀ (m1 : vM) (c0 : Nat × (Nat → Nat)), Fr (fun b _ => b = a + 2) m m1 → chs set root nn = fld (cstep set root) nn 0 c0 → (∀ j, j < c0.1 → rI m1 (a + 2) j = nI (c0.2 j) ∧ c0.2 j < nn) →
      ∃ m', J_X3_codeOn_20 N a (nI set) (rt root) (nI c0.1) (S m1) = some (nI (cdo r (chs set root nn).2 (chs set root nn).1), S m') ∧ Fr (fun b _ => b = a + 2) m m' := by
    intro m1 c0 hf he hc
    have hn1 : NetIs m1 a nn r := ⟨by rw [hf.i (by omega)]; exact h1, h2, fun i hi => by rw [hf.i (by omega)]; exact h3 i hi⟩
    rw [he] at hk ⊢
    obtain ⟨m', g1, g2, g3⟩ := c_ch_l (N := N) ha hr8 (show set < 256 by omega) nn 0 N c0 m1 (by omega) (by omega) hn1 hk hc
    refine ⟨m', ?_, hf.tr g2⟩
    have hn2 : NetIs m' a nn r := ⟨by rw [g2.i (by omega)]; exact hn1.1, h2, fun i hi => by rw [g2.i (by omega)]; exact hn1.2.2 i hi⟩
    unfold J_X3_codeOn_20
    refine Eq.trans g1 ?_
    exact c_cdo_l ha hk hn2 g3 hN _ 1 N 0 rfl (by omega) (by omega) (by omega)
  unfold F_X3_codeOn
  cases root with
  | none =>
    obtain ⟨m', g1, g2⟩ := go m (0, fun _ => 0) Fr.rf rfl (fun j hj => absurd hj (Nat.not_lt_zero _))
    refine ⟨m', ?_, g2⟩
    refine e_rcv ha.o ?_
    refine e_bnd (c_has ha.o _) ?_
    refine e_t (b2_f (fun h => absurd h.1 (by show ¬ ((0 : Int32) ≤ -1); decide))) ?_
    exact g1
  | some x =>
    have hx := hr x rfl
    obtain ⟨m', g1, g2⟩ := go (wI m (a + 2) 0 (nI x)) (1, fun _ => x) (Fr.sI Fr.rf rfl) rfl (fun j hj => by
      obtain rfl : j = 0 := by have : j < 1 := hj; omega
      rw [rI_s]
      exact ⟨rfl, hx⟩)
    refine ⟨m', ?_, g2⟩
    refine e_rcv ha.o ?_
    refine e_bnd (c_has ha.o _) ?_
    refine e_f (by
      rw [b2_t]
      · decide
      · rw [h1]
        exact ⟨nI_pos' (by omega), nI_lt hx (by omega)⟩) ?_
    refine e_ldR ha.o ha.r2 ?_
    refine e_asI ha.a2 (j := 0) rfl (by omega) ?_
    refine e_nm ?_
    exact g1
theorem chs_pop {set nn : Nat} {root : Option Nat} (h2 : nn ≤ 8) (hset : set < 2 ^ nn) (hr : ∀ x, root = some x → x < nn) (hi : rootIn set root = true) : (chs set root nn).1 = pop set := by
  cases root with
  | none =>
    have : ∀ n, n < 9 → ∀ set, set < 2 ^ n → (chs set none n).1 = pop set := by decide +kernel
    exact this nn (by omega) set hset
  | some x =>
    have : ∀ n, n < 9 → ∀ set, set < 2 ^ n → ∀ x, x < n → bt set x = 1 → (chs set (some x) n).1 = pop set := by decide +kernel
    exact this nn (by omega) set hset x (hr x rfl) (by unfold rootIn at hi; exact eq_of_beq hi)
theorem cdo_lt {r ch : Nat → Nat} : ∀ k, k < 5 → cdo r ch k < cds k := by
  intro k hk
  have key : ∀ j, j < 4 → ∀ c, c < 2 ^ (j * (j - 1) / 2) → cdi r ch j c < 2 ^ ((j + 1) * j / 2) := by
    intro j hj c hc
    have e : ∀ j, j < 4 → j * (j - 1) / 2 ≤ (j + 1) * j / 2 ∧ (j + 1) * j / 2 = j * (j - 1) / 2 + j := by decide
    have h := e j hj
    refine fld_inv (g := istep r ch j) (fun _ c => c < 2 ^ ((j + 1) * j / 2)) j 0 c (Nat.lt_of_lt_of_le hc (Nat.pow_le_pow_right (by decide) h.1)) (fun i x _ h2 h3 => ?_)
    show istep r ch j i x < 2 ^ ((j + 1) * j / 2)
    unfold istep
    split
    · exact Nat.or_lt_two_pow h3 (Nat.pow_lt_pow_right (by decide) (by rw [h.2]; exact (bx6 j hj i (by omega)).1))
    · exact h3
  unfold cdo cds
  rcases Nat.eq_zero_or_pos k with rfl | h0
  · exact Nat.one_pos
  · have := fld_inv (g := fun j c => cdi r ch j c) (fun j c => c < 2 ^ (j * (j - 1) / 2)) (k - 1) 1 0 (by decide) (fun j x h1 h2 h3 => key j (by omega) x h3)
    rw [show 1 + (k - 1) = k by omega] at this
    exact this
theorem c_hasSize {q : Bool} (hT : Tab m) (x : Int32) : F_X1_hasSize N (fo q) x (S m) = some (b2 (nI (sh_ q) ≤ x ∧ x ≤ 4), S m) := by
  unfold F_X1_hasSize
  refine e_rcv gO ?_
  refine e_ldI gO ?_
  rw [(hT.1 q).2.1]
  by_cases h1 : x < nI (sh_ q)
  · refine e_t h1 ?_
    rw [b2_f (fun h => absurd h.1 (Int32.not_le.mpr h1))]
    rfl
  · refine e_f h1 ?_
    by_cases h2 : (4 : Int32) < x
    · refine e_t h2 ?_
      rw [b2_f (fun h => absurd h.2 (Int32.not_le.mpr h2))]
      rfl
    · refine e_f h2 ?_
      rw [b2_t ⟨Int32.not_lt.mp h1, Int32.not_lt.mp h2⟩]
      rfl
theorem sh_lt (q : Bool) : sh_ q < 2 := by cases q <;> decide
theorem c_numberOn {q : Bool} {a nn set : Nat} {r : Nat → Nat} {root : Option Nat} (hN : 100 ≤ N) (hT : Tab m) (ha : NetAt a) (hn : NetIs m a nn r) (hset : set < 2 ^ nn) (hq : q = root.isSome) (hr : ∀ x, root = some x → x < nn) :
    ∃ m', F_X1_numberOn N (fo q) a (nI set) (rt root) (S m) = some (if sh_ q ≤ pop set ∧ pop set ≤ 4 ∧ rootIn set root = true then nI (nOn q nn r set root) else -1, S m') ∧ Fr (fun b _ => b = a + 2) m m' := by
  obtain ⟨h1, h2, h3⟩ := id hn
  have h8 : (2 : Nat) ^ nn ≤ 2 ^ 8 := Nat.pow_le_pow_right (by decide) h2
  have hp := pop_le set
  have hs := sh_lt q
  by_cases hz : sh_ q ≤ pop set ∧ pop set ≤ 4
  · have hsz : b2 (nI (sh_ q) ≤ nI (pop set) ∧ nI (pop set) ≤ 4) = 1 := b2_t ⟨(nI_leI (by omega) (by omega)).mpr hz.1, (leR (by decide) (by omega)).mpr hz.2⟩
    have main : rootIn set root = true → ∃ m', J_X1_numberOn_40 N (fo q) a (nI set) (rt root) (nI (pop set)) (S m) = some (nI (nOn q nn r set root), S m') ∧ Fr (fun b _ => b = a + 2) m m' := by
      intro hi
      have hc := chs_pop h2 hset hr hi
      obtain ⟨m', g1, g2⟩ := c_codeOn (N := N) hN ha hn hset hr (by rw [hc]; exact hz.2)
      rw [hc] at g1
      refine ⟨m', ?_, g2⟩
      have hlt := cdo_lt (r := r) (ch := (chs set root nn).2) (pop set) (by omega)
      have hT' : Tab m' := hT.fr (fun b j hb => g2 b j (by
        intro (e : b = a + 2)
        rw [e] at hb
        exact ha.tab hb))
      have h64 : cds (pop set) ≤ 64 := (show ∀ k, k < 5 → cds k ≤ 64 by decide) _ (by omega)
      unfold J_X1_numberOn_40
      refine e_ldR gO gR7 ?_
      refine e_alR gNn (by decide) rfl (by omega) (gNnR q _ (by omega)) ?_
      refine e_bnd g1 ?_
      refine e_alI (gNu (by omega)) rfl (by omega) ?_
      rw [((hT'.2.2.1) q (pop set) _ (by omega) hz.1 hlt).1]
      rfl
    cases root with
    | none =>
      obtain ⟨m', g1, g2⟩ := main rfl
      refine ⟨m', ?_, g2⟩
      unfold F_X1_numberOn
      refine e_rcv gO ?_
      refine e_bnd (c_bits (by omega)) ?_
      refine e_bnd (c_hasSize hT _) ?_
      refine e_f (by rw [hsz]; decide) ?_
      refine e_ldI gO ?_
      refine e_t (by rw [(hT.1 q).1, hq]; rfl) ?_
      rw [if_pos ⟨hz.1, hz.2, rfl⟩]
      exact g1
    | some x =>
      have hx := hr x rfl
      have hgo : ∀ R, (if nI (bt set x) = 0 then J_X1_numberOn_38 N (S m) else J_X1_numberOn_40 N (fo q) a (nI set) (rt (some x)) (nI (pop set)) (S m)) = R → F_X1_numberOn N (fo q) a (nI set) (rt (some x)) (S m) = R := by
        intro R hR
        unfold F_X1_numberOn
        refine e_rcv gO ?_
        refine e_bnd (c_bits (by omega)) ?_
        refine e_bnd (c_hasSize hT _) ?_
        refine e_f (by rw [hsz]; decide) ?_
        refine e_ldI gO ?_
        refine e_f (by rw [(hT.1 q).1, hq]; show ¬ nI 1 = 0; decide) ?_
        refine e_bnd (c_has ha.o _) ?_
        refine e_f (by
          rw [b2_t]
          · decide
          · rw [h1]
            exact ⟨nI_pos' (by omega), nI_lt hx (by omega)⟩) ?_
        show (if ((nI set >>> (nI x &&& 31)) &&& 1) = 0 then _ else _) = R
        rw [shr_and (by omega) (by omega)]
        exact hR
      have hb := bt_lt set x
      by_cases z : bt set x = 1
      · have hi : rootIn set (some x) = true := by show (bt set x == 1) = true; rw [z]; rfl
        obtain ⟨m', g1, g2⟩ := main hi
        refine ⟨m', hgo _ ?_, g2⟩
        rw [if_neg (by rw [z]; decide), if_pos ⟨hz.1, hz.2, hi⟩]
        exact g1
      · have hi : ¬ rootIn set (some x) = true := fun h => z (eq_of_beq h)
        refine ⟨m, hgo _ ?_, Fr.rf⟩
        rw [if_pos (by rw [show bt set x = 0 by omega]; rfl), if_neg (fun h => hi h.2.2)]
        rfl
  · refine ⟨m, ?_, Fr.rf⟩
    rw [if_neg (fun h => hz ⟨h.1, h.2.1⟩)]
    unfold F_X1_numberOn
    refine e_rcv gO ?_
    refine e_bnd (c_bits (by omega)) ?_
    refine e_bnd (c_hasSize hT _) ?_
    refine e_t (b2_f (fun h => hz ⟨(nI_leI (by omega) (by omega)).mp h.1, (leR (by decide) (by omega)).mp h.2⟩)) ?_
    rfl
end CODE
