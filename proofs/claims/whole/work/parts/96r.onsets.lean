section UROWS
theorem u_J_X1_init_192 {N : Nat} {k111 : Nat → Int32 → Int32 → Int32 → vS → Option (Unit × vS)} {k153 : Nat → Int32 → Int32 → Int32 → Int32 → vS → Option (Unit × vS)} {a0 : Nat} {l1 : Int32} {l2 : Int32} {l3 : Int32} {l4 : Int32} {k0 : Nat} {k1 : Int32} {k2 : Nat} {k3 : Nat} {k4 : Int32} {k5 : Int32} {s : vS} : J_X1_init_192 N k111 k153 a0 l1 l2 l3 l4 k0 k1 k2 k3 k4 k5 s = (bnd (F_X1_numberOn N k2 k3 k4 k5 s) (fun v28 s => asI s k0 k1 v28 (fun s => nm (l4 + (1 : Int32)) (fun l4_29 => k153 a0 l1 l2 l3 l4_29 s)))) := rfl
theorem u_H_X1_init_153 {N : Nat} {k111 : Nat → Int32 → Int32 → Int32 → vS → Option (Unit × vS)} {n : Nat} {a0 : Nat} {l1 : Int32} {l2 : Int32} {l3 : Int32} {l4 : Int32} {s : vS} : H_X1_init_153 N k111 (n + 1) a0 l1 l2 l3 l4 s = (ldR s a0 1 3 (fun r21 => alI s r21 l3 (fun v22 => if ((1 : Int32) <<< (v22 &&& 31)) ≤ l4 then (nm (l3 + (1 : Int32)) (fun l3_23 => k111 a0 l1 l2 l3_23 s)) else (ldR s a0 1 8 (fun r24 => alR s r24 6 l3 (fun r25 => ldR s a0 1 5 (fun r26 => alR s r26 4 l3 (fun r27 => if l1 = (0 : Int32) then (J_X1_init_192 N k111 (H_X1_init_153 N k111 n) a0 l1 l2 l3 l4 r25 l4 a0 r27 l4 (-1 : Int32) s) else (J_X1_init_192 N k111 (H_X1_init_153 N k111 n) a0 l1 l2 l3 l4 r25 l4 a0 r27 l4 (0 : Int32) s))))))))) := rfl
theorem u_H_X1_init_111 {N : Nat} {n : Nat} {a0 : Nat} {l1 : Int32} {l2 : Int32} {l3 : Int32} {s : vS} : H_X1_init_111 N (n + 1) a0 l1 l2 l3 s = (if l2 ≤ l3 then (some ((), s)) else (ldR s a0 1 5 (fun r11 => nwO s 3 (fun q12 s => bnd (F_X3_init N q12 s) (fun v13 s => asR s r11 4 3 l3 q12 (fun s => ldR s a0 1 5 (fun r14 => alR s r14 4 l3 (fun r15 => ldR s a0 1 3 (fun r16 => alI s r16 l3 (fun v17 => ldR s a0 1 4 (fun r18 => alI s r18 l3 (fun v19 => bnd (F_X3_unfold N r15 v17 v19 s) (fun v20 s => H_X1_init_153 N (H_X1_init_111 N n) N a0 l1 l2 l3 (0 : Int32) s))))))))))))) := rfl
theorem u_J_X1_init_55 {N : Nat} {a0 : Nat} {l1 : Int32} {l2 : Int32} {k0 : Nat} {k1 : Int32} {s : vS} : J_X1_init_55 N a0 l1 l2 k0 k1 s = (stI s k0 1 1 k1 (fun s => nwA s 1 l2 (fun q4 s => stR s a0 1 3 q4 (fun s => nwA s 1 l2 (fun q5 s => stR s a0 1 4 q5 (fun s => nwA s 4 l2 (fun q6 s => stR s a0 1 5 q6 (fun s => nwM s l2 (16 : Int32) (fun q7 s => stR s a0 1 8 q7 (fun s => nwA s 1 l2 (fun q8 s => stR s a0 1 10 q8 (fun s => nwA s 1 l2 (fun q9 s => stR s a0 1 11 q9 (fun s => bnd (F_X1_numberAll N a0 s) (fun v10 s => H_X1_init_111 N N a0 l1 l2 (0 : Int32) s))))))))))))))) := rfl
theorem u_F_X1_init {N : Nat} {a0 : Nat} {l1 : Int32} {l2 : Int32} {s : vS} : F_X1_init N a0 l1 l2 s = (rcv s a0 1 (nwA s 1 (6 : Int32) (fun q1 s => stR s a0 1 6 q1 (fun s => nwM s (5 : Int32) (64 : Int32) (fun q2 s => stR s a0 1 7 q2 (fun s => bnd (F_X1_allRenamings N  s) (fun r3 s => stR s a0 1 9 r3 (fun s => stI s a0 1 12 (0 : Int32) (fun s => stZ s a0 1 0 l1 (fun s => stI s a0 1 2 l2 (fun s => if l1 = (0 : Int32) then (J_X1_init_55 N a0 l1 l2 a0 (0 : Int32) s) else (J_X1_init_55 N a0 l1 l2 a0 (1 : Int32) s)))))))))))) := rfl
end UROWS
section ONS
variable {N k : Nat} {m m' : vM} {s : vS} {κ κ' : (Nat × Nat) × (Nat → Nat × Nat) × (Nat → Nat → Option Nat)}
/-- a net of the family, and the numbers on its sets -/
def NtG (κ : (Nat × Nat) × (Nat → Nat × Nat) × (Nat → Nat → Option Nat)) (q : Bool) (k : Nat) : Prop := (κ.2.2 (fo q) 5 = some (aNs q) ∧ κ.2.2 (fo q) 8 = some (aOo q)) ∧ (aNs q < κ.1.1 ∧ κ.2.1 (aNs q) = (4, mny q)) ∧ (aOo q < κ.1.1 ∧ κ.2.1 (aOo q) = (6, mny q)) ∧ κ.2.2 (aNs q) k = some (aNt q + 3 * k) ∧ κ.2.2 (aOo q) k = some (aOn q + k) ∧ (aOn q + k < κ.1.1 ∧ κ.2.1 (aOn q + k) = (1, 16)) ∧ NetG κ (aNt q + 3 * k)
def onP (q : Bool) (k b j : Nat) : Prop := b = aOn q + k ∨ b = aNt q + 3 * k + 2
theorem adr3 (q : Bool) : (fo q + 11 = aNs q ∧ fo q + 12 = aOo q ∧ fo q + 13 = aOn q ∧ aNt q = aOn q + mny q + 2) := by cases q <;> decide
theorem TabG.on {q : Bool} (hk : k < mny q) (h : TabG q m) (f : Fr (onP q k) m m') : TabG q m' := by
  have ad := adr2 q
  have ae := adr3 q
  obtain ⟨h1, h2, h3⟩ := h
  exact ⟨by rw [f.i (by unfold onP; omega)]; exact h1, by rw [f.i (by unfold onP; omega)]; exact h2, fun size code a1 a2 a3 => by rw [f.i (by unfold onP; omega)]; exact h3 size code a1 a2 a3⟩
theorem g_on_l {q : Bool} {k111 : Nat → Int32 → Int32 → Int32 → vS → Option (Unit × vS)} (hN : 100 ≤ N) (hk : k < mny q) (hF : FA κ q) (hn : NtG κ q k) : ∀ (d set n : Nat) (m : vM), set + d = 2 ^ sz_ q k → d < n → TabG q m → (rI m (aSz q) k = nI (sz_ q k)) → NetIs m (aNt q + 3 * k) (sz_ q k) (rowT q k) → (∀ j, j < set → rI m (aOn q + k) j = onv q k j) →
    ∃ m', H_X1_init_153 N k111 n (fo q) (nI (sh_ q)) (nI (mny q)) (nI k) (nI set) (G κ m) = k111 (fo q) (nI (sh_ q)) (nI (mny q)) (nI (k + 1)) (G κ m') ∧ Fr (onP q k) m m' ∧ NetIs m' (aNt q + 3 * k) (sz_ q k) (rowT q k) ∧ ∀ j, j < 2 ^ sz_ q k → rI m' (aOn q + k) j = onv q k j
  | _, _, 0, _, _, h, _, _, _, _ => by omega
  | 0, set, n + 1, m, hs, _, hT, hz, hI, ho => by
    have ad := adr2 q
    have zz' := szc q k hk
    have h2 : (2 : Nat) ^ sz_ q k ≤ 2 ^ 4 := Nat.pow_le_pow_right (by decide) zz'.1
    obtain ⟨⟨f1, f2, f3, f4⟩, ⟨g3, g4, g6, g9⟩, t3, t4, t6, t9⟩ := id hF
    refine ⟨m, ?_, Fr.rf, hI, fun j hj => ho j (by omega)⟩
    refine Eq.trans u_H_X1_init_153 ?_
    refine k_ldR f1 g3 ?_
    refine k_alIV (aGat t3) rfl (by omega) hz ?_
    refine e_t (by rw [shl1 _ (by omega), nI_leI (by omega) (by omega)]; omega) ?_
    refine e_nm ?_
    rw [addR]
  | d + 1, set, n + 1, m, hs, hd, hT, hz, hI, ho => by
    have ad := adr2 q
    have ae := adr3 q
    have zz' := szc q k hk
    have h2 : (2 : Nat) ^ sz_ q k ≤ 2 ^ 4 := Nat.pow_le_pow_right (by decide) zz'.1
    have hp16 := pop16 set (by omega)
    obtain ⟨⟨f1, f2, f3, f4⟩, ⟨g3, g4, g6, g9⟩, t3, t4, t6, t9⟩ := id hF
    obtain ⟨⟨n5, n8⟩, n6, n7, na, nb, nc, nd⟩ := id hn
    have hroot : ∀ x, ro_ q = some x → x < sz_ q k := fun x hx => by
      cases q with
      | false => cases hx
      | true =>
        cases hx
        have : 1 ≤ sz_ true k := zz'.2.1
        omega
    obtain ⟨m1, c1, c2⟩ := gc_numberOn (N := N) (m := m) (κ := κ) (q := q) (root := ro_ q) hN hF.1 hT ⟨by omega, fun j hj => by omega⟩ nd hI (show set < 2 ^ sz_ q k by omega) (by cases q <;> rfl) hroot
    have hval : (if sh_ q ≤ pop set ∧ pop set ≤ 4 ∧ rootIn set (ro_ q) = true then nI (nOn q (sz_ q k) (rowT q k) set (ro_ q)) else -1) = onv q k set := by
      unfold onv
      have e : (sh_ q ≤ pop set ∧ pop set ≤ 4 ∧ rootIn set (ro_ q) = true) ↔ (sh_ q ≤ pop set ∧ (q = false ∨ bt set 0 = 1)) := by
        cases q with
        | false => exact ⟨fun w => ⟨w.1, Or.inl rfl⟩, fun w => ⟨w.1, hp16, rfl⟩⟩
        | true => exact ⟨fun w => ⟨w.1, Or.inr (eq_of_beq w.2.2)⟩, fun w => ⟨w.1, hp16, w.2.elim (fun v => (by cases v)) (fun v => by show (bt set 0 == 1) = true; rw [v]; rfl)⟩⟩
      by_cases z : sh_ q ≤ pop set ∧ pop set ≤ 4 ∧ rootIn set (ro_ q) = true
      · rw [if_pos z, if_pos (e.mp z)]
      · rw [if_neg z, if_neg (fun w => z (e.mpr w))]
    rw [hval] at c1
    have f : Fr (onP q k) m (wI m1 (aOn q + k) set (onv q k set)) := (c2.mo (fun b j w => Or.inr w)).sI (Or.inl rfl)
    have hI1 : NetIs (wI m1 (aOn q + k) set (onv q k set)) (aNt q + 3 * k) (sz_ q k) (rowT q k) := ⟨by rw [f.i (by unfold onP; omega)]; exact hI.1, hI.2.1, fun i hi => by rw [f.i (by unfold onP; omega)]; exact hI.2.2 i hi⟩
    obtain ⟨m', j1, j2, j3, j4⟩ := g_on_l (k111 := k111) hN hk hF hn d (set + 1) n _ (by omega) (by omega) (hT.on hk f) (by rw [f.i (by unfold onP; omega)]; exact hz) hI1 (fun j hj => by
      by_cases w : j = set
      · rw [w, rI_s]
      · rw [rI_n _ _ (by omega), c2.i (by omega)]
        exact ho j (by omega))
    refine ⟨m', ?_, f.tr j2, j3, j4⟩
    refine Eq.trans u_H_X1_init_153 ?_
    refine k_ldR f1 g3 ?_
    refine k_alIV (aGat t3) rfl (by omega) hz ?_
    refine e_f (by rw [shl1 _ (by omega), nI_leI (by omega) (by omega)]; omega) ?_
    refine k_ldR f1 n8 ?_
    refine k_alR (aGat n7) (by decide) rfl (by omega) nb ?_
    refine k_ldR f1 n5 ?_
    refine k_alR (aGat n6) (by decide) rfl (by omega) na ?_
    have go : ∀ R, R = k111 (fo q) (nI (sh_ q)) (nI (mny q)) (nI (k + 1)) (G κ m') → J_X1_init_192 N k111 (H_X1_init_153 N k111 n) (fo q) (nI (sh_ q)) (nI (mny q)) (nI k) (nI set) (aOn q + k) (nI set) (fo q) (aNt q + 3 * k) (nI set) (rt (ro_ q)) (G κ m) = R := fun R hR => by
      unfold J_X1_init_192
      refine e_bnd c1 ?_
      refine k_asI (aGat nc) rfl (by omega) ?_
      refine e_nm ?_
      rw [addR, hR]
      exact j1
    cases q with
    | false => exact e_t rfl (go _ rfl)
    | true => exact e_f (by decide) (go _ rfl)
end ONS
