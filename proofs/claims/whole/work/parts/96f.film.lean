section UROWS
theorem u_H_X8_film_64 {N : Nat} {n : Nat} {a0 : Nat} {l1 : Int32} {l2 : Int32} {l3 : Int32} {s : vS} : H_X8_film_64 N (n + 1) a0 l1 l2 l3 s = (ldR s a0 8 0 (fun r12 => ldI s r12 1 12 (fun v13 => if v13 ≤ l3 then (ldR s a0 8 8 (fun r14 => ldR s a0 8 6 (fun r15 => bnd (F_X5_put N r14 l1 r15 s) (fun v16 s => some (v16, s))))) else (ldR s a0 8 0 (fun r17 => ldR s r17 1 11 (fun r18 => alI s r18 l3 (fun v19 => ldR s a0 8 5 (fun r20 => ldR s a0 8 0 (fun r21 => ldR s r21 1 10 (fun r22 => alI s r22 v19 (fun v23 => ldR s a0 8 0 (fun r24 => ldR s a0 8 7 (fun r25 => ldI s r25 3 0 (fun v26 => bnd (F_X1_setsIn N r24 v26 l2 s) (fun v27 s => bnd (F_X2_become N r20 (v23).toInt64 (v27).toInt64 s) (fun v28 s => ldR s a0 8 6 (fun r29 => ldR s a0 8 5 (fun r30 => bnd (F_X6_take N r29 v19 r30 s) (fun v31 s => nm (l3 + (1 : Int32)) (fun l3_32 => H_X8_film_64 N n a0 l1 l2 l3_32 s)))))))))))))))))))) := rfl
theorem u_J_X8_film_18 {N : Nat} {s : vS} : J_X8_film_18 N s = (some ((-1 : Int32), s)) := rfl
theorem u_F_X8_film {N : Nat} {a0 : Nat} {l1 : Int32} {l2 : Int32} {s : vS} : F_X8_film N a0 l1 l2 s = (rcv s a0 8 (bnd (F_X8_isStore N l1 s) (fun v1 s => if v1 = (0 : Int32) then (J_X8_film_18 N  s) else (ldR s a0 8 0 (fun r2 => bnd (F_X1_hasSize N r2 l2 s) (fun v3 s => if v3 = (0 : Int32) then (J_X8_film_18 N  s) else (ldR s a0 8 7 (fun r4 => ldI s r4 3 0 (fun v5 => if l2 ≤ v5 then (ldR s a0 8 0 (fun r6 => ldR s a0 8 7 (fun r7 => bnd (F_X1_tally N r6 r7 (-1 : Int32) l2 s) (fun v8 s => ldR s a0 8 6 (fun r9 => bnd (F_X6_empty N r9 s) (fun v10 s => ldR s a0 8 6 (fun r11 => stI s r11 6 0 (1 : Int32) (fun s => H_X8_film_64 N N a0 l1 l2 (0 : Int32) s)))))))) else (some ((-3 : Int32), s))))))))))) := rfl
theorem u_H_X9_film_57 {N : Nat} {n : Nat} {a0 : Nat} {l1 : Int32} {l2 : Int32} {l3 : Int32} {l4 : Int32} {s : vS} : H_X9_film_57 N (n + 1) a0 l1 l2 l3 l4 s = (if l3 ≤ l4 then (some (l3, s)) else (ldR s a0 9 28 (fun r8 => alI s r8 l4 (fun v9 => bnd (F_X9_insideOf N a0 v9 l2 (-1 : Int32) s) (fun v10 s => ldR s a0 9 11 (fun r11 => ldR s a0 9 28 (fun r12 => alI s r12 l4 (fun v13 => ldJ s a0 9 23 (fun v14 => asJ s r11 (((29 : Int32) * l1) + v13) v14 (fun s => ldR s a0 9 12 (fun r15 => ldR s a0 9 28 (fun r16 => alI s r16 l4 (fun v17 => ldJ s a0 9 24 (fun v18 => asJ s r15 (((29 : Int32) * l1) + v17) v18 (fun s => nm (l4 + (1 : Int32)) (fun l4_19 => H_X9_film_57 N n a0 l1 l2 l3 l4_19 s)))))))))))))))) := rfl
theorem u_J_X9_film_16 {N : Nat} {s : vS} : J_X9_film_16 N s = (some ((-1 : Int32), s)) := rfl
theorem u_F_X9_film {N : Nat} {a0 : Nat} {l1 : Int32} {l2 : Int32} {s : vS} : F_X9_film N a0 l1 l2 s = (rcv s a0 9 (bnd (F_X9_isStore N l1 s) (fun v1 s => if v1 = (0 : Int32) then (J_X9_film_16 N  s) else (bnd (F_X9_in N l2 (0 : Int32) (4 : Int32) s) (fun v2 s => if v2 = (0 : Int32) then (J_X9_film_16 N  s) else (ldI s a0 9 5 (fun v3 => if l2 ≤ v3 then (bnd (F_X9_empty N a0 l1 s) (fun v4 s => ldR s a0 9 10 (fun r5 => asI s r5 l1 (0 : Int32) (fun s => ldR s a0 9 9 (fun r6 => asZ s r6 l1 (1 : Int32) (fun s => bnd (F_X9_foundAll N a0 l2 s) (fun v7 s => H_X9_film_57 N N a0 l1 l2 v7 (0 : Int32) s))))))) else (some ((-3 : Int32), s))))))))) := rfl
end UROWS
section FILM
variable {N : Nat} {m m' : vM} {s : vS}
def rowF (nn : Nat) (r : Nat → Nat) (size : Nat) (t : Nat → Nat) (i : Nat) : Row := fun k => if seenB t k i = true then shr_ false nn r none size k else (0, 1)
section PURF
variable {nn size : Nat} {r t : Nat → Nat}
theorem rowF_s (i k : Nat) : rowF nn r size t (i + 1) k = if k = t i then shr_ false nn r none size k else rowF nn r size t i k := by
  unfold rowF
  by_cases z : k = t i
  · rw [if_pos z, if_pos (by rw [seenB, Bool.or_eq_true]; exact Or.inr (by rw [z]; exact beq_self_eq_true _))]
  · rw [if_neg z]
    have e : seenB t k (i + 1) = seenB t k i := by
      rw [seenB]
      have : (t i == k) = false := by
        rw [beq_eq_false_iff_ne]
        exact fun w => z w.symm
      rw [this, Bool.or_false]
    rw [e]
theorem shr_low (hs : size < 5) (hsn : size ≤ nn) (hn : nn ≤ 8) (k : Nat) : Low (shr_ false nn r none size k) := by
  have hal := alls_wyc (q := false) (root := none) hn (Nat.zero_le size) (show size ≤ 4 by omega) hsn rfl (fun x hx => (by cases hx))
  have h8 : (2 : Nat) ^ nn ≤ 2 ^ 8 := Nat.pow_le_pow_right (by decide) hn
  have hle := cnt_le (fun set => pop set = size ∧ rootIn set none = true) (2 ^ nn)
  exact red_low (lN_pos hal.2 (Nat.lt_of_le_of_lt hle (by omega)))
theorem shr_n0 (hs : size < 5) (hsn : size ≤ nn) (hn : nn ≤ 8) {k : Nat} (h : tl (fN false nn r none size) k (2 ^ nn) ≠ 0) : (shr_ false nn r none size k).1 ≠ 0 := by
  have hal := alls_wyc (q := false) (root := none) hn (Nat.zero_le size) (show size ≤ 4 by omega) hsn rfl (fun x hx => (by cases hx))
  have h8 : (2 : Nat) ^ nn ≤ 2 ^ 8 := Nat.pow_le_pow_right (by decide) hn
  have hle := cnt_le (fun set => pop set = size ∧ rootIn set none = true) (2 ^ nn)
  have htl := tl_le (fN false nn r none size) k (2 ^ nn)
  have hb := lN_pos hal.2 (Nat.lt_of_le_of_lt hle (by omega))
  have ha := lN_pos (k := tl (fN false nn r none size) k (2 ^ nn)) (by omega) (by omega)
  exact pos64 (div_pos ha (fg_pos hb) (fg_le_l hb ha))
end PURF
section FLM
variable {nn size : Nat} {r : Nat → Nat}
theorem good_film (hs : size < 5) (hsn : size ≤ nn) (hn : nn ≤ 8) : Good 0 (rowF nn r size (fcm (fN false nn r none size) (2 ^ nn)).2 (fcm (fN false nn r none size) (2 ^ nn)).1) := by
  refine ⟨by omega, fun k hk => ?_, fun _ k hk hz => ?_, fun h => absurd h (by decide)⟩
  · unfold rowF
    split
    · exact shr_low hs hsn hn k
    · exact Low_0
  · unfold rowF at hz
    by_cases z : seenB (fcm (fN false nn r none size) (2 ^ nn)).2 k (fcm (fN false nn r none size) (2 ^ nn)).1 = true
    · obtain ⟨j, h1, h2⟩ := (seenB_iff _ _ _).mp z
      rw [← h2]
      exact (fcm_al (q := false) (root := none) (Nat.zero_le size) (by omega) _ j h1).1
    · rw [if_neg z] at hz
      exact absurd rfl hz
theorem nt_film (hs : size < 5) (hsn : size ≤ nn) (hn : nn ≤ 8) : nt (rowF nn r size (fcm (fN false nn r none size) (2 ^ nn)).2 (fcm (fN false nn r none size) (2 ^ nn)).1) = (fcm (fN false nn r none size) (2 ^ nn)).1 := by
  have key : ∀ k, (rowF nn r size (fcm (fN false nn r none size) (2 ^ nn)).2 (fcm (fN false nn r none size) (2 ^ nn)).1 k).1 ≠ 0 ↔ tl (fN false nn r none size) k (2 ^ nn) ≠ 0 := fun k => by
    have hm := (seenB_iff (fcm (fN false nn r none size) (2 ^ nn)).2 k (fcm (fN false nn r none size) (2 ^ nn)).1).trans (fcm_mem _ k _)
    unfold rowF
    by_cases z : seenB (fcm (fN false nn r none size) (2 ^ nn)).2 k (fcm (fN false nn r none size) (2 ^ nn)).1 = true
    · rw [if_pos z]
      exact ⟨fun _ => hm.mp z, fun h => shr_n0 hs hsn hn h⟩
    · rw [if_neg z]
      exact ⟨fun h => absurd rfl h, fun h => absurd (hm.mpr h) z⟩
  unfold nt
  rw [cnt_c (q := fun k => tl (fN false nn r none size) k (2 ^ nn) ≠ 0) 29 (fun k _ => key k)]
  rw [cnt_ext (a := 19) 29 (by omega) (fun k h1 h2 w => by
    obtain ⟨j, a1, a2⟩ := (fcm_mem (fN false nn r none size) k (2 ^ nn)).mpr w
    have := (fcm_al (q := false) (root := none) (Nat.zero_le size) (by omega) _ j a1).1
    have : (fcm (fN false nn r none size) (2 ^ nn)).2 j < 19 := this
    omega)]
  exact (fcm_cnt (fun e k h => (fN_lt (q := false) (Nat.zero_le size) (by omega) h).1) (2 ^ nn)).symm
def flP (b j : Nat) : Prop := 282 ≤ b ∧ b ≤ 285
theorem c_film_l {st : Nat} (hN : 1000 ≤ N) (hs : size < 5) (hsn : size ≤ nn) : ∀ (d i n : Nat) (m : vM), i + d = (fcm (fN false nn r none size) (2 ^ nn)).1 → d < n → Tab m → NetIs m 286 nn r → TaS false (fN false nn r none size) (2 ^ nn) m → RowC m 283 (rowF nn r size (fcm (fN false nn r none size) (2 ^ nn)).2 i) →
    ∃ m', H_X8_film_64 N n 0 (nI st) (nI size) (nI i) (S m) = bnd (F_X5_put N 289 (nI st) 283 (S m')) (fun v s => some (v, s)) ∧ Fr flP m m' ∧ (∀ j, rI m' 283 j = rI m 283 j) ∧ RowC m' 283 (rowF nn r size (fcm (fN false nn r none size) (2 ^ nn)).2 (fcm (fN false nn r none size) (2 ^ nn)).1)
  | _, _, 0, _, _, h, _, _, _, _ => by omega
  | 0, i, n + 1, m, hi, _, hT, hn, ht, hr => by
    have hle : (fcm (fN false nn r none size) (2 ^ nn)).1 ≤ 11 := fcm_le (nn := nn) (r := r) (q := false) (root := none) (Nat.zero_le size) (show size ≤ 4 by omega) (2 ^ nn)
    have hi : i = (fcm (fN false nn r none size) (2 ^ nn)).1 := by omega
    refine ⟨m, ?_, Fr.rf, fun _ => rfl, hi ▸ hr⟩
    refine Eq.trans u_H_X8_film_64 ?_
    refine e_ldR fxO fxR0 ?_
    refine e_ldIV ffO ht.2.1 ?_
    refine e_t (by rw [nI_leI (by omega) (by omega)]; omega) ?_
    refine e_ldR fxO fxR8 ?_
    refine e_ldR fxO fxR6 ?_
    rfl
  | d + 1, i, n + 1, m, hi, hd, hT, hn, ht, hr => by
    have hle : (fcm (fN false nn r none size) (2 ^ nn)).1 ≤ 11 := fcm_le (nn := nn) (r := r) (q := false) (root := none) (Nat.zero_le size) (show size ≤ 4 by omega) (2 ^ nn)
    have hal := alls_wyc (q := false) (root := none) hn.2.1 (Nat.zero_le size) (show size ≤ 4 by omega) hsn rfl (fun x hx => (by cases hx))
    have h8 : (2 : Nat) ^ nn ≤ 2 ^ 8 := Nat.pow_le_pow_right (by decide) hn.2.1
    have n8 := hn.2.1
    have hc := cnt_le (fun set => pop set = size ∧ rootIn set none = true) (2 ^ nn)
    have hal9 : alls nn none size < 2 ^ 31 := Nat.lt_of_le_of_lt hc (by omega)
    have htl := tl_le (fN false nn r none size) ((fcm (fN false nn r none size) (2 ^ nn)).2 i) (2 ^ nn)
    have hk : (fcm (fN false nn r none size) (2 ^ nn)).2 i < 19 := (fcm_al (q := false) (root := none) (Nat.zero_le size) (by omega) _ i (by omega)).1
    generalize hkk : (fcm (fN false nn r none size) (2 ^ nn)).2 i = k at htl hk
    have f1 : Fr flP m (wJ (wJ (wF m 282 (shr_ false nn r none size k)) 284 k (shr_ false nn r none size k).1) 285 k (shr_ false nn r none size k).2) := ((Fr_wF.mo (P := fun b _ => b = 282) (Q := flP) (fun b j (w : b = 282) => by unfold flP; omega)).sJ (by unfold flP; omega)).sJ (by unfold flP; omega)
    obtain ⟨m', g1, g2, g4, g3⟩ := c_film_l (st := st) hN hs hsn d (i + 1) n _ (by omega) (by omega) (hT.fr (fun b j hb => f1 b j (by unfold tabP at hb; unfold flP; omega))) ⟨by rw [f1.i (by unfold flP; omega)]; exact hn.1, hn.2.1, fun i hi => by rw [f1.i (by unfold flP; omega)]; exact hn.2.2 i hi⟩ ⟨fun k hk => by rw [f1.i (by show ¬ (282 ≤ 33 ∧ _); omega)]; exact ht.1 k hk, by rw [f1.i (by show ¬ (282 ≤ 1 ∧ _); omega)]; exact ht.2.1, fun j hj => by rw [f1.i (by show ¬ (282 ≤ 34 ∧ _); omega)]; exact ht.2.2 j hj⟩ (fun j hj => by
      rw [rowF_s, hkk]
      show (rJ _ 284 j, rJ _ 285 j) = _
      by_cases z : j = k
      · rw [if_pos z, z, rJ_s, rJ_n _ _ (by omega), rJ_s]
      · rw [if_neg z, rJ_n _ _ (by omega), rJ_n _ _ (by omega), rJ_n _ _ (by omega), rJ_n _ _ (by omega), Fr_wF.j (by omega), Fr_wF.j (by omega)]
        exact hr j hj)
    refine ⟨m', ?_, f1.tr g2, fun j => by rw [g4 j]; rfl, g3⟩
    refine Eq.trans u_H_X8_film_64 ?_
    refine e_ldR fxO fxR0 ?_
    refine e_ldIV ffO ht.2.1 ?_
    refine e_f (by rw [nI_leI (by omega) (by omega)]; omega) ?_
    refine e_ldR fxO fxR0 ?_
    refine e_ldR ffO ffR11 ?_
    refine e_alIV ffA11 rfl (by omega) (show rI m 34 i = nI k by rw [← hkk]; exact ht.2.2 i (by omega)) ?_
    refine e_ldR fxO fxR5 ?_
    refine e_ldR fxO fxR0 ?_
    refine e_ldR ffO ffR10 ?_
    refine e_alIV ffA10 rfl (by omega) (show rI m 33 k = _ from ht.1 k hk) ?_
    refine e_ldR fxO fxR0 ?_
    refine e_ldR fxO fxR7 ?_
    refine e_ldIV net286.o hn.1 ?_
    refine e_bnd (c_setsIn (q := false) hT (by omega) hn.2.1 hsn (Nat.zero_le size)) ?_
    rw [nI_l (by omega), nI_l (by rw [← hal.1]; exact hal9), ← hal.1]
    refine e_bnd (c_become frac282 (by omega) (lN_pos hal.2 hal9)) ?_
    refine e_ldR fxO fxR6 ?_
    refine e_ldR fxO fxR5 ?_
    refine e_bnd (r := ()) (s' := S (wJ (wJ (wF m 282 (shr_ false nn r none size k)) 284 k (shr_ false nn r none size k).1) 285 k (shr_ false nn r none size k).2)) ?_ ?_
    · unfold F_X6_take
      refine e_rcv sum283.1 ?_
      refine e_f (nI_pos (by omega)) ?_
      refine e_f (by rw [leL (by decide) (by omega)]; show ¬ 29 ≤ k; omega) ?_
      refine e_ldR sum283.1 sum283.2.1 ?_
      refine e_ldJV frac282 wF0 ?_
      refine e_asJ sum283.2.2.2.1 rfl (by omega) ?_
      refine e_ldR sum283.1 sum283.2.2.1 ?_
      refine e_ldJV frac282 (show _ = (shr_ false nn r none size k).2 by rw [rJ_n _ _ (by omega)]; exact wF1) ?_
      refine e_asJ sum283.2.2.2.2 rfl (by omega) ?_
      rfl
    · refine e_nm ?_
      rw [addR]
      exact g1
def fmP (st b j : Nat) : Prop := b = 340 ∨ (b = 322 ∧ (j = 23 ∨ j = 24)) ∨ ((b = 332 ∨ b = 333) ∧ 29 * st ≤ j ∧ j < 29 * st + 29)
theorem m_film_l {st c : Nat} {t : Nat → Nat} (hN : 1000 ≤ N) (hst : st < 4) (hs : size < 5) (hsn : size ≤ nn) (hy : Sym nn r) (hc : c ≤ 11) (ht : ∀ j, j < c → t j < 19) : ∀ (d i n : Nat) (m : vM), i + d = c → d < n → Tab m → LookIs m nn r → (∀ j, j < c → rI m 343 j = nI (t j)) → RowM m st (rowF nn r size t i) →
    ∃ m', H_X9_film_57 N n 322 (nI st) (nI size) (nI c) (nI i) (S m) = some (nI c, S m') ∧ Fr (fmP st) m m' ∧ RowM m' st (rowF nn r size t c)
  | _, _, 0, _, _, h, _, _, _, _ => by omega
  | 0, i, n + 1, m, hi, _, hT, hn, h, hr => by
    obtain rfl : i = c := by omega
    refine ⟨m, ?_, Fr.rf, hr⟩
    refine Eq.trans u_H_X9_film_57 ?_
    exact e_t (by rw [nI_leI (by omega) (by omega)]; omega) rfl
  | d + 1, i, n + 1, m, hi, hd, hT, hn, h, hr => by
    have hk := ht i (by omega)
    obtain ⟨m1, g1, g2⟩ := m_insideOf (N := N) (m := m) (q := false) (k := t i) (size := size) (root := none) hN hT hn hy rfl (fun x hx => (by cases hx)) (Nat.zero_le _) (by omega) hsn hk
    have f0 : Fr (fmP st) m (wA m1 (shr_ false nn r none size (t i))) := (g2.mo (fun _ _ w => Or.inl w)).tr ((Fr.rf.sJ (P := fmP st) (Or.inr (Or.inl ⟨rfl, Or.inl rfl⟩))).sJ (Or.inr (Or.inl ⟨rfl, Or.inr rfl⟩)))
    have f1 : Fr (fmP st) m (wJ (wJ (wA m1 (shr_ false nn r none size (t i))) 332 (29 * st + t i) (shr_ false nn r none size (t i)).1) 333 (29 * st + t i) (shr_ false nn r none size (t i)).2) := (f0.sJ (by unfold fmP; omega)).sJ (by unfold fmP; omega)
    have h343 : rI m1 343 i = nI (t i) := by rw [g2.i (by omega)]; exact h i (by omega)
    obtain ⟨m', j1, j2, j3⟩ := m_film_l hN hst hs hsn hy hc ht d (i + 1) n _ (by omega) (by omega) (hT.fr (fun b j hb => f1 b j (by unfold tabP at hb; unfold fmP; omega))) ⟨by rw [f1.i (by unfold fmP; omega)]; exact hn.1, hn.2.1, fun i hi => by rw [f1.i (by unfold fmP; omega)]; exact hn.2.2 i hi⟩ (fun j hj => by rw [f1.i (by unfold fmP; omega)]; exact h j hj) (fun k hk => by
      rw [rowF_s]
      show (rJ _ 332 (29 * st + k), rJ _ 333 (29 * st + k)) = _
      by_cases z : k = t i
      · rw [if_pos z, z, rJ_s, rJ_n _ _ (by omega), rJ_s]
      · rw [if_neg z, rJ_n _ _ (by omega), rJ_n _ _ (by omega), rJ_n _ _ (by omega), rJ_n _ _ (by omega)]
        have e1 : ∀ b, b = 332 ∨ b = 333 → rJ (wA m1 (shr_ false nn r none size (t i))) b (29 * st + k) = rJ m b (29 * st + k) := fun b hb => by
          unfold wA
          rw [rJ_n _ _ (by omega), rJ_n _ _ (by omega), g2.j (by omega)]
        rw [e1 332 (Or.inl rfl), e1 333 (Or.inr rfl)]
        exact hr k hk)
    refine ⟨m', ?_, f1.tr j2, j3⟩
    refine Eq.trans u_H_X9_film_57 ?_
    refine e_f (by rw [nI_leI (by omega) (by omega)]; omega) ?_
    refine e_ldR fmO fmR28 ?_
    refine e_alIV fmA28 rfl (by omega) (h i (by omega)) ?_
    refine e_bnd g1 ?_
    refine e_ldR fmO fmR11 ?_
    refine e_ldR fmO fmR28 ?_
    refine e_alIV fmA28 rfl (by omega) h343 ?_
    refine e_ldJV fmO wA_1 ?_
    refine e_asJ fmA11 (j := 29 * st + t i) (by rw [mulL, nI_add]) (by omega) ?_
    refine e_ldR fmO fmR12 ?_
    refine e_ldR fmO fmR28 ?_
    refine e_alIV fmA28 rfl (by omega) h343 ?_
    refine e_ldJV fmO (show _ = (shr_ false nn r none size (t i)).2 by rw [rJ_n _ _ (by omega)]; exact wA_2) ?_
    refine e_asJ fmA12 (j := 29 * st + t i) (by rw [mulL, nI_add]) (by omega) ?_
    refine e_nm ?_
    rw [addR]
    exact j1
end FLM
theorem call_film (hN : 1000 ≤ N) (hR : Rel m) (x y : Int32) : SameI (F_X8_film N 0 x y) (F_X9_film N 322 x y) m := by
  obtain ⟨hT, ⟨nn, r, hh⟩, -⟩ := id hR
  have hN8 := hh.1
  rcases rng x (n := 4) (by decide) with ⟨st, hst, rfl⟩ | hx
  · rcases rng y (n := 5) (by decide) with ⟨size, hs, rfl⟩ | hy
    · by_cases hsn : size ≤ nn
      · obtain ⟨m1, g1, hR1, hh1, t1, f1⟩ := tally_rel hN hR hh hs
        have hle : (fcm (fN false nn r none size) (2 ^ nn)).1 ≤ 11 := fcm_le (nn := nn) (r := r) (q := false) (root := none) (Nat.zero_le size) (show size ≤ 4 by omega) (2 ^ nn)
        obtain ⟨m2, c1, c2, c3, c4⟩ := c_empty (N := N) (m := m1) sum283 (by omega)
        have f2 : Fr flP m1 (wI m2 283 0 1) := fun b j hb => by
          have hb : ¬ (282 ≤ b ∧ b ≤ 285) := hb
          rw [rI_n _ _ (by omega), c2, if_neg (by omega)]
          exact ⟨rfl, c4 b j (by omega)⟩
        have hn2 : NetIs (wI m2 283 0 1) 286 nn r := ⟨by rw [f2.i (by unfold flP; omega)]; exact hh1.net.1, hN8, fun i hi => by rw [f2.i (by unfold flP; omega)]; exact hh1.net.2.2 i hi⟩
        obtain ⟨m4, d1, d2, d3, d4⟩ := c_film_l (N := N) (st := st) hN hs hsn (fcm (fN false nn r none size) (2 ^ nn)).1 0 N (wI m2 283 0 1) (by omega) (by omega) (hR1.1.fr (fun b j hb => f2 b j (by unfold tabP at hb; unfold flP; omega))) hn2 ⟨fun k hk => by rw [f2.i (by show ¬ (282 ≤ 33 ∧ _); omega)]; exact t1.1 k hk, by rw [f2.i (by show ¬ (282 ≤ 1 ∧ _); omega)]; exact t1.2.1, fun j hj => by rw [f2.i (by show ¬ (282 ≤ 34 ∧ _); omega)]; exact t1.2.2 j hj⟩ (fun k hk => by
          show (rJ m2 284 k, rJ m2 285 k) = (0, 1)
          rw [(c3 k hk).1, (c3 k hk).2])
        have sc : SumC m4 283 0 (rowF nn r size (fcm (fN false nn r none size) (2 ^ nn)).2 (fcm (fN false nn r none size) (2 ^ nn)).1) := ⟨by rw [d3 0, rI_s]; rfl, d4⟩
        obtain ⟨m5, p1, p2, p3, p4⟩ := c_put (N := N) (m := m4) (by omega) hst sum283 (by omega) sc
        rw [nt_film hs hsn hN8] at p1
        have fC : Fr (fun a j => flP a j ∨ ((a = 290 ∧ j = st) ∨ (292 + 3 * st ≤ a ∧ a ≤ 292 + 3 * st + 2))) m1 m5 := ((f2.mo (fun _ _ w => Or.inl w)).tr (d2.mo (fun _ _ w => Or.inl w))).tr (p2.mo (fun _ _ w => Or.inr w))
        -- the model
        obtain ⟨m6, e1, e2, e3, e4⟩ := m_empty (N := N) (m := m5) (r := st) (by omega) (by omega)
        have f7 : Fr (fun a j => ((a = 330 ∧ j = st) ∨ (a = 331 ∧ j = st) ∨ ((a = 332 ∨ a = 333) ∧ 29 * st ≤ j ∧ j < 29 * st + 29))) m5 (wI (wI m6 331 st 0) 330 st 1) := fun b j hb => by
          rw [rI_n _ _ (by omega), rI_n _ _ (by omega), e2, if_neg (by omega)]
          exact ⟨rfl, e4 b j (by omega)⟩
        have f17 : Fr (fun a j => flP a j ∨ ((a = 290 ∧ j = st) ∨ (292 + 3 * st ≤ a ∧ a ≤ 292 + 3 * st + 2) ∨ (a = 330 ∧ j = st) ∨ (a = 331 ∧ j = st) ∨ ((a = 332 ∨ a = 333) ∧ 29 * st ≤ j ∧ j < 29 * st + 29))) m1 (wI (wI m6 331 st 0) 330 st 1) := (fC.mo (fun a j w => w.elim Or.inl (fun w => Or.inr (by omega)))).tr (f7.mo (fun a j w => Or.inr (by omega)))
        have hT7 : Tab (wI (wI m6 331 st 0) 330 st 1) := hR1.1.fr (fun b j hb => f17 b j (by unfold tabP at hb; unfold flP; omega))
        have hM7 : HandM (wI (wI m6 331 st 0) 330 st 1) nn r := ⟨by rw [f17.i (by unfold flP; omega)]; exact hh1.mod.1, hN8, fun i hi => by rw [f17.i (by unfold flP; omega)]; exact hh1.mod.2.2 i hi⟩
        obtain ⟨m8, j1, j2, j4, j3⟩ := m_foundAll (N := N) (size := size) hN hT7 hM7 hh.2.1 (by omega)
        obtain ⟨m9, k1, k2, k3⟩ := m_film_l (N := N) (st := st) (t := (fcm (fN false nn r none size) (2 ^ nn)).2) hN hst hs hsn hh.2.1 hle (fun j hj => (fcm_al (q := false) (root := none) (Nat.zero_le size) (by omega) _ j hj).1) (fcm (fN false nn r none size) (2 ^ nn)).1 0 N m8 (by omega) (by omega) (hT7.fr (fun b j hb => j2 b j (by unfold tabP at hb; unfold alP lkP; omega))) j4 j3 (fun k hk => by
          show (rJ m8 332 (29 * st + k), rJ m8 333 (29 * st + k)) = (0, 1)
          rw [j2.j (by unfold alP lkP; omega), j2.j (by unfold alP lkP; omega)]
          show (rJ m6 332 (29 * st + k), rJ m6 333 (29 * st + k)) = (0, 1)
          rw [(e3 k hk).1, (e3 k hk).2])
        have f89 : Fr (fun a j => alP a j ∨ fmP st a j) (wI (wI m6 331 st 0) 330 st 1) m9 := (j2.mo (fun _ _ w => Or.inl w)).tr (k2.mo (fun _ _ w => Or.inr w))
        refine ⟨nI (fcm (fN false nn r none size) (2 ^ nn)).1, m5, m9, ?_, ?_, hR1.store hst ((f17.mo (fun a j w => w.elim (fun w => Or.inl (fun hp => by unfold flP at w; unfold prP tabP hanP stoP tapP imgP at hp; omega)) Or.inr)).tr (f89.mo (fun a j w => w.elim (fun w => Or.inl (fun hp => al_pr hp w)) (fun w => by
          unfold fmP at w
          by_cases z : (a = 332 ∨ a = 333) ∧ 29 * st ≤ j ∧ j < 29 * st + 29
          · exact Or.inr (by omega)
          · exact Or.inl (fun hp => by unfold prP tabP hanP stoP tapP imgP at hp; omega))))) (Or.inr ⟨0, rowF nn r size (fcm (fN false nn r none size) (2 ^ nn)).2 (fcm (fN false nn r none size) (2 ^ nn)).1, ?_, ?_, good_film hs hsn hN8, ?_, ?_, k3⟩)⟩
        · unfold F_X8_film
          refine e_rcv fxO ?_
          refine g_y (c_isStore _) (inr hst (by decide)) ?_
          refine e_ldR fxO fxR0 ?_
          refine g_y (c_sizeR hT _) (inr hs (by decide)) ?_
          refine e_ldR fxO fxR7 ?_
          refine e_ldIV net286.o hh.net.1 ?_
          refine e_t ((nI_leI (by omega) (by omega)).mpr hsn) ?_
          refine e_ldR fxO fxR0 ?_
          refine e_ldR fxO fxR7 ?_
          refine e_bnd g1 ?_
          refine e_ldR fxO fxR6 ?_
          refine e_bnd c1 ?_
          refine e_ldR fxO fxR6 ?_
          refine e_stI sum283.1 ?_
          refine Eq.trans d1 ?_
          exact e_bnd p1 rfl
        · unfold F_X9_film
          refine e_rcv fmO ?_
          refine g_y (m_isStoreR _) (inr hst (by decide)) ?_
          refine g_y (m_inR (n := 4) _ (by decide)) (inr hs (by decide)) ?_
          refine e_ldIV fmO (show rI m5 322 5 = nI nn by rw [fC.i (by unfold flP; omega)]; exact hh1.mod.1) ?_
          refine e_t ((nI_leI (by omega) (by omega)).mpr hsn) ?_
          refine e_bnd e1 ?_
          refine e_ldR fmO fmR10 ?_
          refine e_asI fmA10 rfl (by omega) ?_
          refine e_ldR fmO fmR9 ?_
          refine e_asZ fmA9 rfl (by omega) (Or.inr rfl) ?_
          refine e_bnd j1 ?_
          exact k1
        · rw [f89.i (by unfold alP lkP fmP; omega), f7.i (by omega)]
          exact p3
        · rw [f89.i (by unfold alP lkP fmP; omega), rI_s]
        · exact p4.same (fun b j hb => by
            rw [f89.i (by unfold alP lkP fmP; omega), f89.j (by unfold alP lkP fmP; omega), f7.i (by omega), f7.j (by omega)]
            exact ⟨rfl, rfl⟩)
        · rw [f89.i (by unfold alP lkP fmP; omega), rI_n _ _ (by omega), rI_s]
          rfl
      · refine SameI.ro (-3) hR ?_ ?_
        · unfold F_X8_film
          refine e_rcv fxO ?_
          refine g_y (c_isStore _) (inr hst (by decide)) ?_
          refine e_ldR fxO fxR0 ?_
          refine g_y (c_sizeR hT _) (inr hs (by decide)) ?_
          refine e_ldR fxO fxR7 ?_
          refine e_ldIV net286.o hh.net.1 ?_
          exact e_f (fun w => hsn ((nI_leI (by omega) (by omega)).mp w)) rfl
        · unfold F_X9_film
          refine e_rcv fmO ?_
          refine g_y (m_isStoreR _) (inr hst (by decide)) ?_
          refine g_y (m_inR (n := 4) _ (by decide)) (inr hs (by decide)) ?_
          refine e_ldIV fmO hh.mod.1 ?_
          exact e_f (fun w => hsn ((nI_leI (by omega) (by omega)).mp w)) rfl
    · refine SameI.ro (-1) hR ?_ ?_
      · unfold F_X8_film
        refine e_rcv fxO ?_
        refine g_y (c_isStore _) (inr hst (by decide)) ?_
        refine e_ldR fxO fxR0 ?_
        exact g_n (c_sizeR hT _) hy rfl
      · unfold F_X9_film
        refine e_rcv fmO ?_
        refine g_y (m_isStoreR _) (inr hst (by decide)) ?_
        exact g_n (m_inR (n := 4) _ (by decide)) hy rfl
  · refine SameI.ro (-1) hR ?_ ?_
    · unfold F_X8_film
      refine e_rcv fxO ?_
      exact g_n (c_isStore _) hx rfl
    · unfold F_X9_film
      refine e_rcv fmO ?_
      exact g_n (m_isStoreR _) hx rfl
end FILM
