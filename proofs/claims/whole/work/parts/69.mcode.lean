/-! the model's way to the same code -/
section MCODE
variable {N : Nat} {m : vM} {s : vS}
theorem rt_neg {root : Option Nat} (hr : ∀ r, root = some r → r < 8) : (rt root < 0) ↔ root = none := by
  cases root with
  | none => exact ⟨fun _ => rfl, fun _ => by show (-1 : Int32) < 0; decide⟩
  | some r =>
    have := hr r rfl
    exact ⟨fun h => absurd h (nI_pos (by omega)), fun h => by cases h⟩
theorem m_ch_l {nn set : Nat} {r : Nat → Nat} {root : Option Nat} (hr : ∀ r, root = some r → r < 8) (hset : set < 256) : ∀ (d i n : Nat) (c : Nat × (Nat → Nat)) (m : vM), i + d = nn → d < n → LookIs m nn r → (fld (cstep set root) d i c).1 ≤ 4 → (∀ j, j < c.1 → rI m 340 j = nI (c.2 j) ∧ c.2 j < nn) →
    ∃ m', H_X9_codeOn_18 N n 322 (nI set) (rt root) (nI c.1) (nI i) (S m) = H_X9_codeOn_66 N N 322 (nI (fld (cstep set root) d i c).1) 0 1 (S m') ∧ Fr (fun b _ => b = 340) m m' ∧ ∀ j, j < (fld (cstep set root) d i c).1 → rI m' 340 j = nI ((fld (cstep set root) d i c).2 j) ∧ (fld (cstep set root) d i c).2 j < nn
  | _, _, 0, _, _, _, h, _, _, _ => by omega
  | 0, i, n + 1, c, m, hi, _, hn, _, hc => by
    refine ⟨m, ?_, Fr.rf, hc⟩
    obtain ⟨h1, h2, h3⟩ := hn
    unfold H_X9_codeOn_18
    refine e_ldI fmO ?_
    rw [h1]
    exact e_t (by rw [show i = nn by omega]; exact Int32.le_refl _) rfl
  | d + 1, i, n + 1, c, m, hi, hd, hn, hf, hc => by
    obtain ⟨h1, h2, h3⟩ := id hn
    have hi8 : i < 8 := by omega
    rw [fld] at hf
    have hle := cstep_le (set := set) (root := root) d (i + 1) (cstep set root i c)
    have hstep : ∀ R : vM → Option (Int32 × vS), (∃ m', H_X9_codeOn_18 N n 322 (nI set) (rt root) (nI (cstep set root i c).1) (nI (i + 1)) (S (if root = some i ∨ bt set i = 0 then m else wI m 340 c.1 (nI i))) = R m' ∧ Fr (fun b _ => b = 340) (if root = some i ∨ bt set i = 0 then m else wI m 340 c.1 (nI i)) m' ∧ ∀ j, j < (fld (cstep set root) d (i + 1) (cstep set root i c)).1 → rI m' 340 j = nI ((fld (cstep set root) d (i + 1) (cstep set root i c)).2 j) ∧ (fld (cstep set root) d (i + 1) (cstep set root i c)).2 j < nn) →
        ∃ m', H_X9_codeOn_18 N (n + 1) 322 (nI set) (rt root) (nI c.1) (nI i) (S m) = R m' ∧ Fr (fun b _ => b = 340) m m' ∧ ∀ j, j < (fld (cstep set root) d (i + 1) (cstep set root i c)).1 → rI m' 340 j = nI ((fld (cstep set root) d (i + 1) (cstep set root i c)).2 j) ∧ (fld (cstep set root) d (i + 1) (cstep set root i c)).2 j < nn := by
      rintro R ⟨m', g1, g2, g3⟩
      refine ⟨m', ?_, ?_, g3⟩
      · unfold H_X9_codeOn_18
        refine e_ldI fmO ?_
        rw [h1]
        refine e_f (by rw [nI_leI (by omega) (by omega)]; omega) ?_
        by_cases z1 : root = some i
        · refine e_t ((rt_eq hr hi8).mpr z1) ?_
          rw [if_pos (Or.inl z1)] at g1
          unfold cstep at g1
          rw [if_pos (Or.inl z1)] at g1
          unfold J_X9_codeOn_54
          refine e_nm ?_
          rw [addR]
          exact g1
        · refine e_f (fun h => z1 ((rt_eq hr hi8).mp h)) ?_
          rw [shr_and (by omega) (by omega)]
          by_cases z2 : bt set i = 0
          · refine e_f (by rw [z2]; decide) ?_
            rw [if_pos (Or.inr z2)] at g1
            unfold cstep at g1
            rw [if_pos (Or.inr z2)] at g1
            unfold J_X9_codeOn_54
            refine e_nm ?_
            rw [addR]
            exact g1
          · have z : ¬ (root = some i ∨ bt set i = 0) := fun h => h.elim z1 z2
            have hb := bt_lt set i
            refine e_t (by rw [show bt set i = 1 by omega]; rfl) ?_
            unfold cstep at hle
            rw [if_neg z] at g1 hle
            unfold cstep at g1 hf
            rw [if_neg z] at g1 hf
            have hc4 : c.1 + 1 ≤ 4 := Nat.le_trans hle hf
            refine e_ldR fmO fmR22 ?_
            refine e_asI fmA22 rfl (by omega) ?_
            refine e_nm ?_
            unfold J_X9_codeOn_54
            refine e_nm ?_
            rw [addR, addR]
            exact g1
      · by_cases z : root = some i ∨ bt set i = 0
        · rw [if_pos z] at g2; exact g2
        · rw [if_neg z] at g2
          exact g2.pI rfl
    rw [fld]
    refine hstep _ (m_ch_l (r := r) hr hset d (i + 1) n (cstep set root i c) _ (by omega) (by omega) ?_ hf ?_)
    · by_cases z : root = some i ∨ bt set i = 0
      · rw [if_pos z]; exact hn
      · rw [if_neg z]
        exact ⟨by rw [rI_n _ _ (by omega)]; exact h1, h2, fun j hj => by rw [rI_n _ _ (by omega)]; exact h3 j hj⟩
    · by_cases z : root = some i ∨ bt set i = 0
      · unfold cstep
        rw [if_pos z, if_pos z]; exact hc
      · unfold cstep
        rw [if_neg z, if_neg z]
        intro j hj
        show rI (wI m 340 c.1 (nI i)) 340 j = nI (if j = c.1 then i else c.2 j) ∧ (if j = c.1 then i else c.2 j) < nn
        by_cases e : j = c.1
        · rw [if_pos e, e, rI_s]; exact ⟨rfl, by omega⟩
        · rw [if_neg e, rI_n _ _ (by omega)]
          exact hc j (by have : j < c.1 + 1 := hj; omega)
theorem m_cdi_l {nn j k : Nat} {r ch : Nat → Nat} {K : Nat → Int32 → Int32 → Int32 → vS → Option (Int32 × vS)} (hj : j < k) (hk : k ≤ 4) (hn : LookIs m nn r) (hy : Sym nn r) (hch : ∀ j, j < k → rI m 340 j = nI (ch j) ∧ ch j < nn) : ∀ (d i n c : Nat), i + d = j → d < n → c < 64 →
    H_X9_codeOn_75 N K n 322 (nI k) (nI c) (nI j) (nI i) (S m) = K 322 (nI k) (nI (fld (istep r ch j) d i c)) (nI (j + 1)) (S m)
  | _, _, 0, _, _, h, _ => by omega
  | 0, i, n + 1, c, hi, _, _ => by
    unfold H_X9_codeOn_75
    refine e_t (by rw [show i = j by omega]; exact Int32.le_refl _) ?_
    refine e_nm ?_
    rw [addR]
    rfl
  | d + 1, i, n + 1, c, hi, hd, hc => by
    obtain ⟨h1, h2, h3⟩ := hn
    have hj1 := hch j hj
    have hi1 := hch i (by omega)
    have hr1 := h3 (ch i) hi1.2
    have h256 : r (ch i) < 2 ^ 8 := Nat.lt_of_lt_of_le hr1.2 (Nat.pow_le_pow_right (by decide) h2)
    have ih := m_cdi_l (K := K) hj hk ⟨h1, h2, h3⟩ hy hch d (i + 1) n (istep r ch j i c) (by omega) (by omega) (istep_lt (by omega) (by omega) hc)
    have hb := bx6 j (by omega) i (by omega)
    unfold H_X9_codeOn_75
    refine e_f (by simp (disch := omega) only [leL, leR, ltL, ltR, eqR, mulL, addR, clL, inL, nI_add, pk_mul, inb_nI, nI_clamp, nI_leI, nI_ltI, nI_eq, nI_1]; omega) ?_
    refine e_ldR fmO fmR8 ?_
    refine e_ldR fmO fmR22 ?_
    refine e_alI fmA22 rfl (by omega) ?_
    rw [hi1.1]
    refine e_alI fmA8 rfl (by omega) ?_
    rw [hr1.1]
    refine e_ldR fmO fmR22 ?_
    refine e_alI fmA22 rfl (by omega) ?_
    rw [hj1.1, shr_and (by omega) (by omega), hy (ch i) (ch j) hi1.2 hj1.2]
    have hbt := bt_lt (r (ch j)) (ch i)
    rw [fld]
    by_cases z : bt (r (ch j)) (ch i) = 1
    · refine e_t (by rw [z]; rfl) ?_
      refine e_bnd (m_bit (by omega) (by omega)) ?_
      have h2 : (2 : Nat) ^ bx i j < 2 ^ 6 := Nat.pow_lt_pow_right (by decide) hb.2
      rw [shl1 _ (by omega)]
      unfold J_X9_codeOn_123
      refine e_nm ?_
      rw [nI_or (by omega) (by omega)]
      refine e_nm ?_
      rw [addR]
      unfold istep at ih
      rw [if_pos z] at ih
      unfold istep
      rw [if_pos z]
      exact ih
    · refine e_f (by rw [show bt (r (ch j)) (ch i) = 0 by omega]; decide) ?_
      unfold J_X9_codeOn_123
      refine e_nm ?_
      rw [show nI c ||| (0 : Int32) = nI c from Int32.or_zero]
      refine e_nm ?_
      rw [addR]
      unfold istep at ih
      rw [if_neg z] at ih
      unfold istep
      rw [if_neg z]
      exact ih
theorem m_cdo_l {nn k : Nat} {r ch : Nat → Nat} (hk : k ≤ 4) (hn : LookIs m nn r) (hy : Sym nn r) (hch : ∀ j, j < k → rI m 340 j = nI (ch j) ∧ ch j < nn) (hN : 100 ≤ N) : ∀ (d j n c : Nat), d = k - j → j < 5 → d < n → c < 64 →
    H_X9_codeOn_66 N n 322 (nI k) (nI c) (nI j) (S m) = some (nI (fld (fun j c => cdi r ch j c) d j c), S m)
  | _, _, 0, _, _, _, h, _ => by omega
  | 0, j, n + 1, c, hd, hj, _, _ => by
    unfold H_X9_codeOn_66
    exact e_t (by simp (disch := omega) only [leL, leR, ltL, ltR, eqR, mulL, addR, clL, inL, nI_add, pk_mul, inb_nI, nI_clamp, nI_leI, nI_ltI, nI_eq, nI_1]; omega) rfl
  | d + 1, j, n + 1, c, hd, hj, hn', hc => by
    have ih := m_cdo_l hk hn hy hch hN d (j + 1) n (cdi r ch j c) (by omega) (by omega) (by omega) (cdi_lt (by omega) hc)
    unfold H_X9_codeOn_66
    refine e_f (by simp (disch := omega) only [leL, leR, ltL, ltR, eqR, mulL, addR, clL, inL, nI_add, pk_mul, inb_nI, nI_clamp, nI_leI, nI_ltI, nI_eq, nI_1]; omega) ?_
    refine (m_cdi_l (by omega) hk hn hy hch j 0 N c (by omega) (by omega) hc).trans ?_
    exact ih
theorem m_codeOn {nn set : Nat} {r : Nat → Nat} {root : Option Nat} (hN : 100 ≤ N) (hn : LookIs m nn r) (hy : Sym nn r) (hset : set < 2 ^ nn) (hr : ∀ x, root = some x → x < nn) (hk : (chs set root nn).1 ≤ 4) :
    ∃ m', F_X9_codeOn N 322 (nI set) (rt root) (S m) = some (nI (cdo r (chs set root nn).2 (chs set root nn).1), S m') ∧ Fr (fun b _ => b = 340) m m' := by
  obtain ⟨h1, h2, h3⟩ := id hn
  have h8 : (2 : Nat) ^ nn ≤ 2 ^ 8 := Nat.pow_le_pow_right (by decide) h2
  have hr8 : ∀ x, root = some x → x < 8 := fun x hx => by have := hr x hx; omega
  have go : ∀ (m1 : vM) (c0 : Nat × (Nat → Nat)), Fr (fun b _ => b = 340) m m1 → chs set root nn = fld (cstep set root) nn 0 c0 → (∀ j, j < c0.1 → rI m1 340 j = nI (c0.2 j) ∧ c0.2 j < nn) →
      ∃ m', J_X9_codeOn_15 N 322 (nI set) (rt root) (nI c0.1) (S m1) = some (nI (cdo r (chs set root nn).2 (chs set root nn).1), S m') ∧ Fr (fun b _ => b = 340) m m' := by
    intro m1 c0 hf he hc
    have hn1 : LookIs m1 nn r := ⟨by rw [hf.i (by omega)]; exact h1, h2, fun i hi => by rw [hf.i (by omega)]; exact h3 i hi⟩
    rw [he] at hk ⊢
    obtain ⟨m', g1, g2, g3⟩ := m_ch_l (N := N) hr8 (show set < 256 by omega) nn 0 N c0 m1 (by omega) (by omega) hn1 hk hc
    refine ⟨m', ?_, hf.tr g2⟩
    have hn2 : LookIs m' nn r := ⟨by rw [g2.i (by omega)]; exact hn1.1, h2, fun i hi => by rw [g2.i (by omega)]; exact hn1.2.2 i hi⟩
    unfold J_X9_codeOn_15
    refine Eq.trans g1 ?_
    exact m_cdo_l hk hn2 hy g3 hN _ 1 N 0 rfl (by omega) (by omega) (by omega)
  unfold F_X9_codeOn
  cases root with
  | none =>
    obtain ⟨m', g1, g2⟩ := go m (0, fun _ => 0) Fr.rf rfl (fun j hj => absurd hj (Nat.not_lt_zero _))
    refine ⟨m', ?_, g2⟩
    refine e_rcv fmO ?_
    refine e_t (by show (-1 : Int32) < 0; decide) ?_
    exact g1
  | some x =>
    have hx := hr x rfl
    obtain ⟨m', g1, g2⟩ := go (wI m 340 0 (nI x)) (1, fun _ => x) (Fr.sI Fr.rf rfl) rfl (fun j hj => by
      obtain rfl : j = 0 := by have : j < 1 := hj; omega
      rw [rI_s]
      exact ⟨rfl, hx⟩)
    refine ⟨m', ?_, g2⟩
    refine e_rcv fmO ?_
    refine e_f (nI_pos (by omega)) ?_
    refine e_ldR fmO fmR22 ?_
    refine e_asI fmA22 (j := 0) rfl (by omega) ?_
    exact g1
theorem cds_64 : ∀ k, k < 5 → cds k ≤ 64 := by decide
theorem m_numberOn {q : Bool} {nn set : Nat} {r : Nat → Nat} {root : Option Nat} (hN : 100 ≤ N) (hT : Tab m) (hn : LookIs m nn r) (hy : Sym nn r) (hset : set < 2 ^ nn) (hq : q = root.isSome) (hr : ∀ x, root = some x → x < nn) (hp : sh_ q ≤ pop set ∧ pop set ≤ 4 ∧ rootIn set root = true) :
    ∃ m', F_X9_numberOn N 322 (nI set) (rt root) (S m) = some (nI (nOn q nn r set root), S m') ∧ Fr (fun b _ => b = 340) m m' := by
  obtain ⟨h1, h2, h3⟩ := id hn
  have h8 : (2 : Nat) ^ nn ≤ 2 ^ 8 := Nat.pow_le_pow_right (by decide) h2
  have hr8 : ∀ x, root = some x → x < 8 := fun x hx => by have := hr x hx; omega
  have hc := chs_pop h2 hset hr hp.2.2
  obtain ⟨m', g1, g2⟩ := m_codeOn (N := N) hN hn hy hset hr (by rw [hc]; exact hp.2.1)
  rw [hc] at g1
  have hlt := cdo_lt (r := r) (ch := (chs set root nn).2) (pop set) (by omega)
  have h64 := cds_64 (pop set) (by omega)
  have hT' : Tab m' := hT.fr (fun b j hb => g2 b j (by
    intro (e : b = 340)
    rw [e] at hb
    unfold tabP at hb
    omega))
  have ht := ((hT'.2.2.1) q (pop set) _ (by omega) hp.1 hlt).2
  refine ⟨m', ?_, g2⟩
  unfold F_X9_numberOn
  refine e_rcv fmO ?_
  refine e_bnd (m_ones (by omega) hN) ?_
  refine e_bnd g1 ?_
  refine e_nm ?_
  rw [mulL, nI_add]
  cases root with
  | none =>
    refine e_t (by show (-1 : Int32) < 0; decide) ?_
    refine e_ldR fmO fmR2 ?_
    refine e_alI fmA2 rfl (by omega) ?_
    rw [hq] at ht
    unfold J_X9_numberOn_34
    rw [show rI m' 325 (64 * pop set + cdo r (chs set none nn).2 (pop set)) = _ from ht, hq]
    rfl
  | some x =>
    refine e_f (fun h => absurd ((rt_neg hr8).mp h) (by simp)) ?_
    refine e_ldR fmO fmR3 ?_
    refine e_alI fmA3 rfl (by omega) ?_
    rw [hq] at ht
    unfold J_X9_numberOn_34
    rw [show rI m' 326 (64 * pop set + cdo r (chs set (some x) nn).2 (pop set)) = _ from ht, hq]
    rfl
end MCODE
