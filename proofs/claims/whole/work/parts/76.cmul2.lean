section UROWS
theorem u_F_X0_raise {N : Nat} {a0 : Nat} {a1 : Nat} {l2 : Int32} {a3 : Nat} {s : vS} : F_X0_raise N a0 a1 l2 a3 s = (rcv s a0 0 (ldR s a0 0 7 (fun r1 => ldI s a1 6 0 (fun v2 => bnd (F_X0_multiply N a0 r1 a1 v2 l2 s) (fun v3 s => if v3 = (0 : Int32) then (rtZ (0 : Int32) s) else (ldR s a0 0 4 (fun r4 => ldI s a1 6 0 (fun v5 => bnd (F_X6_settle N r4 v5 s) (fun v6 s => ldR s a0 0 4 (fun r7 => bnd (F_X6_become N a3 r7 s) (fun v8 s => rtZ (1 : Int32) s))))))))))) := rfl
theorem u_J_X0_uproot_123 {N : Nat} {k34 : Nat → Nat → Nat → Int32 → vS → Option (Int32 × vS)} {a0 : Nat} {a1 : Nat} {a2 : Nat} {l3 : Int32} {s : vS} : J_X0_uproot_123 N k34 a0 a1 a2 l3 s = (nm (l3 + (1 : Int32)) (fun l3_30 => k34 a0 a1 a2 l3_30 s)) := rfl
theorem u_J_X0_uproot_120 {N : Nat} {s : vS} : J_X0_uproot_120 N s = (some ((-6 : Int32), s)) := rfl
theorem u_H_X0_uproot_34 {N : Nat} {n : Nat} {a0 : Nat} {a1 : Nat} {a2 : Nat} {l3 : Int32} {s : vS} : H_X0_uproot_34 N (n + 1) a0 a1 a2 l3 s = (if (29 : Int32) ≤ l3 then (ldR s a0 0 4 (fun r6 => bnd (F_X6_settle N r6 (1 : Int32) s) (fun v7 s => ldR s a0 0 4 (fun r8 => bnd (F_X6_become N a2 r8 s) (fun v9 s => some ((0 : Int32), s)))))) else (ldR s a1 6 1 (fun r10 => alJ s r10 l3 (fun v11 => if (lg_cmp v11 (0 : Int64)) = (0 : Int32) then (J_X0_uproot_123 N (H_X0_uproot_34 N n) a0 a1 a2 l3 s) else (ldR s a0 0 6 (fun r12 => ldR s a0 0 3 (fun r13 => alI s r13 l3 (fun v14 => ldR s a0 0 1 (fun r15 => ldR s r15 1 3 (fun r16 => alI s r16 l3 (fun v17 => bnd (F_X2_become N r12 (v14).toInt64 (v17).toInt64 s) (fun v18 s => ldR s a0 0 6 (fun r19 => ldR s a1 6 1 (fun r20 => alJ s r20 l3 (fun v21 => ldR s a1 6 2 (fun r22 => alJ s r22 l3 (fun v23 => bnd (F_X2_times N r19 v21 v23 s) (fun v24 s => if v24 = (0 : Int32) then (J_X0_uproot_120 N  s) else (ldR s a0 0 4 (fun r25 => ldR s a0 0 2 (fun r26 => alI s r26 l3 (fun v27 => ldR s a0 0 6 (fun r28 => bnd (F_X6_add N r25 v27 r28 s) (fun v29 s => if v29 = (0 : Int32) then (J_X0_uproot_120 N  s) else (J_X0_uproot_123 N (H_X0_uproot_34 N n) a0 a1 a2 l3 s))))))))))))))))))))))))) := rfl
theorem u_F_X0_uproot {N : Nat} {a0 : Nat} {a1 : Nat} {a2 : Nat} {s : vS} : F_X0_uproot N a0 a1 a2 s = (rcv s a0 0 (ldI s a1 6 0 (fun v1 => if v1 = (1 : Int32) then (some ((-2 : Int32), s)) else (ldI s a1 6 0 (fun v2 => if v2 = (0 : Int32) then (bnd (F_X6_become N a2 a1 s) (fun v5 s => some ((0 : Int32), s))) else (ldR s a0 0 4 (fun r3 => bnd (F_X6_empty N r3 s) (fun v4 s => H_X0_uproot_34 N N a0 a1 a2 (0 : Int32) s)))))))) := rfl
theorem u_J_X0_weigh_117 {N : Nat} {k38 : Nat → Nat → Nat → Int32 → Nat → Nat → Int32 → vS → Option (Int32 × vS)} {a0 : Nat} {a1 : Nat} {a2 : Nat} {l3 : Int32} {a4 : Nat} {a5 : Nat} {l6 : Int32} {s : vS} : J_X0_weigh_117 N k38 a0 a1 a2 l3 a4 a5 l6 s = (nm (l6 + (1 : Int32)) (fun l6_29 => k38 a0 a1 a2 l3 a4 a5 l6_29 s)) := rfl
theorem u_J_X0_weigh_115 {N : Nat} {s : vS} : J_X0_weigh_115 N s = (rtZ (0 : Int32) s) := rfl
theorem u_H_X0_weigh_38 {N : Nat} {n : Nat} {a0 : Nat} {a1 : Nat} {a2 : Nat} {l3 : Int32} {a4 : Nat} {a5 : Nat} {l6 : Int32} {s : vS} : H_X0_weigh_38 N (n + 1) a0 a1 a2 l3 a4 a5 l6 s = (ldI s a5 1 2 (fun v8 => if v8 ≤ l6 then (ldR s a0 0 4 (fun r9 => ldR s r9 6 1 (fun r10 => alJ s r10 (0 : Int32) (fun v11 => ldR s a0 0 4 (fun r12 => ldR s r12 6 2 (fun r13 => alJ s r13 (0 : Int32) (fun v14 => bnd (F_X2_become N a4 v11 v14 s) (fun v15 s => rtZ (1 : Int32) s)))))))) else (ldR s a1 6 1 (fun r16 => alJ s r16 l6 (fun v17 => if (lg_cmp v17 (0 : Int64)) = (0 : Int32) then (J_X0_weigh_117 N (H_X0_weigh_38 N n) a0 a1 a2 l3 a4 a5 l6 s) else (ldR s a0 0 6 (fun r18 => bnd (F_X1_shareOf N a5 l6 a2 l3 r18 s) (fun v19 s => ldR s a0 0 6 (fun r20 => ldR s a1 6 1 (fun r21 => alJ s r21 l6 (fun v22 => ldR s a1 6 2 (fun r23 => alJ s r23 l6 (fun v24 => bnd (F_X2_times N r20 v22 v24 s) (fun v25 s => if v25 = (0 : Int32) then (J_X0_weigh_115 N  s) else (ldR s a0 0 4 (fun r26 => ldR s a0 0 6 (fun r27 => bnd (F_X6_add N r26 (0 : Int32) r27 s) (fun v28 s => if v28 = (0 : Int32) then (J_X0_weigh_115 N  s) else (J_X0_weigh_117 N (H_X0_weigh_38 N n) a0 a1 a2 l3 a4 a5 l6 s))))))))))))))))))) := rfl
theorem u_F_X0_weigh {N : Nat} {a0 : Nat} {a1 : Nat} {a2 : Nat} {l3 : Int32} {a4 : Nat} {s : vS} : F_X0_weigh N a0 a1 a2 l3 a4 s = (rcv s a0 0 (ldI s a1 6 0 (fun v1 => bnd (F_X0_greatestSize N a0 a1 v1 s) (fun v2 s => ldI s a2 3 0 (fun v3 => if v2 ≤ v3 then (ldI s a1 6 0 (fun v4 => bnd (F_X0_familyOf N a0 v4 s) (fun r5 s => ldR s a0 0 4 (fun r6 => bnd (F_X6_empty N r6 s) (fun v7 s => H_X0_weigh_38 N N a0 a1 a2 l3 a4 r5 (0 : Int32) s))))) else (rtZ (0 : Int32) s)))))) := rfl
theorem u_J_X0_combine_120 {N : Nat} {a0 : Nat} {a4 : Nat} {l5 : Int32} {s : vS} : J_X0_combine_120 N a0 a4 l5 s = (ldR s a0 0 4 (fun r13 => bnd (F_X6_settle N r13 l5 s) (fun v14 s => ldR s a0 0 4 (fun r15 => bnd (F_X6_become N a4 r15 s) (fun v16 s => some ((0 : Int32), s)))))) := rfl
theorem u_J_X0_combine_117 {N : Nat} {s : vS} : J_X0_combine_117 N s = (some ((-6 : Int32), s)) := rfl
theorem u_J_X0_combine_111 {N : Nat} {a0 : Nat} {a4 : Nat} {l5 : Int32} {k0 : Nat} {k1 : Nat} {k2 : Nat} {k3 : Int32} {s : vS} : J_X0_combine_111 N a0 a4 l5 k0 k1 k2 k3 s = (bnd (F_X0_unite N k0 k1 k2 k3 s) (fun v12 s => if v12 = (0 : Int32) then (J_X0_combine_117 N  s) else (J_X0_combine_120 N a0 a4 l5 s))) := rfl
theorem u_J_X0_combine_78 {N : Nat} {a0 : Nat} {a1 : Nat} {a2 : Nat} {l3 : Int32} {a4 : Nat} {l5 : Int32} {s : vS} : J_X0_combine_78 N a0 a1 a2 l3 a4 l5 s = (if l3 = (2 : Int32) then (bnd (F_X0_multiply N a0 a1 a2 l5 (-1 : Int32) s) (fun v11 s => if v11 = (0 : Int32) then (J_X0_combine_117 N  s) else (J_X0_combine_120 N a0 a4 l5 s))) else (if l3 = (1 : Int32) then (J_X0_combine_111 N a0 a4 l5 a0 a1 a2 (1 : Int32) s) else (J_X0_combine_111 N a0 a4 l5 a0 a1 a2 (0 : Int32) s))) := rfl
theorem u_J_X0_combine_46 {N : Nat} {a0 : Nat} {a1 : Nat} {a2 : Nat} {l3 : Int32} {a4 : Nat} {k0 : Int32} {s : vS} : J_X0_combine_46 N a0 a1 a2 l3 a4 k0 s = (if l3 = (2 : Int32) then (bnd (F_X0_greatestSize N a0 a1 k0 s) (fun v8 s => bnd (F_X0_greatestSize N a0 a2 k0 s) (fun v9 s => bnd (F_X0_isTooLarge N v8 v9 k0 s) (fun v10 s => if v10 = (0 : Int32) then (J_X0_combine_78 N a0 a1 a2 l3 a4 k0 s) else (some ((-4 : Int32), s)))))) else (J_X0_combine_78 N a0 a1 a2 l3 a4 k0 s)) := rfl
theorem u_J_X0_combine_28 {N : Nat} {a0 : Nat} {a1 : Nat} {a2 : Nat} {l3 : Int32} {a4 : Nat} {s : vS} : J_X0_combine_28 N a0 a1 a2 l3 a4 s = (ldI s a1 6 0 (fun v5 => if v5 = (0 : Int32) then (ldI s a2 6 0 (fun v7 => J_X0_combine_46 N a0 a1 a2 l3 a4 v7 s)) else (ldI s a1 6 0 (fun v6 => J_X0_combine_46 N a0 a1 a2 l3 a4 v6 s)))) := rfl
theorem u_F_X0_combine {N : Nat} {a0 : Nat} {a1 : Nat} {a2 : Nat} {l3 : Int32} {a4 : Nat} {s : vS} : F_X0_combine N a0 a1 a2 l3 a4 s = (rcv s a0 0 (ldI s a1 6 0 (fun v1 => if v1 = (0 : Int32) then (J_X0_combine_28 N a0 a1 a2 l3 a4 s) else (ldI s a2 6 0 (fun v2 => if v2 = (0 : Int32) then (J_X0_combine_28 N a0 a1 a2 l3 a4 s) else (ldI s a1 6 0 (fun v3 => ldI s a2 6 0 (fun v4 => if v3 = v4 then (J_X0_combine_28 N a0 a1 a2 l3 a4 s) else (some ((-2 : Int32), s)))))))))) := rfl
theorem u_J_X0_greatestSize_47 {N : Nat} {k12 : Nat → Nat → Int32 → Int32 → vS → Option (Int32 × vS)} {a1 : Nat} {a3 : Nat} {l4 : Int32} {l5 : Int32} {s : vS} : J_X0_greatestSize_47 N k12 a1 a3 l4 l5 s = (nm (l5 + (1 : Int32)) (fun l5_8 => k12 a1 a3 l4 l5_8 s)) := rfl
theorem u_H_X0_greatestSize_12 {N : Nat} {n : Nat} {a1 : Nat} {a3 : Nat} {l4 : Int32} {l5 : Int32} {s : vS} : H_X0_greatestSize_12 N (n + 1) a1 a3 l4 l5 s = (ldI s a3 1 2 (fun v2 => if v2 ≤ l5 then (some (l4, s)) else (ldR s a1 6 1 (fun r3 => alJ s r3 l5 (fun v4 => if (lg_cmp v4 (0 : Int64)) = (0 : Int32) then (J_X0_greatestSize_47 N (H_X0_greatestSize_12 N n) a1 a3 l4 l5 s) else (ldR s a3 1 3 (fun r5 => alI s r5 l5 (fun v6 => bnd (F_J9_max_7cf53 N l4 v6 s) (fun v7 s => J_X0_greatestSize_47 N (H_X0_greatestSize_12 N n) a1 a3 v7 l5 s))))))))) := rfl
theorem u_F_X0_greatestSize {N : Nat} {a0 : Nat} {a1 : Nat} {l2 : Int32} {s : vS} : F_X0_greatestSize N a0 a1 l2 s = (rcv s a0 0 (bnd (F_X0_familyOf N a0 l2 s) (fun r1 s => H_X0_greatestSize_12 N N a1 r1 (-1 : Int32) (0 : Int32) s))) := rfl
theorem u_J_X0_isTooLarge_35 {N : Nat} {k0 : Int32} {s : vS} : J_X0_isTooLarge_35 N k0 s = (rtZ k0 s) := rfl
theorem u_J_X0_isTooLarge_34 {N : Nat} {s : vS} : J_X0_isTooLarge_34 N s = (J_X0_isTooLarge_35 N (0 : Int32) s) := rfl
theorem u_J_X0_isTooLarge_13 {N : Nat} {l0 : Int32} {l1 : Int32} {k0 : Int32} {k1 : Int32} {s : vS} : J_X0_isTooLarge_13 N l0 l1 k0 k1 s = (nm ((k0 - k1)) (fun l3_1 => if l0 = (-1 : Int32) then (J_X0_isTooLarge_34 N  s) else (if l1 = (-1 : Int32) then (J_X0_isTooLarge_34 N  s) else (if l3_1 ≤ (4 : Int32) then (J_X0_isTooLarge_34 N  s) else (J_X0_isTooLarge_35 N (1 : Int32) s))))) := rfl
theorem u_F_X0_isTooLarge {N : Nat} {l0 : Int32} {l1 : Int32} {l2 : Int32} {s : vS} : F_X0_isTooLarge N l0 l1 l2 s = (if l2 = (2 : Int32) then (J_X0_isTooLarge_13 N l0 l1 (l0 + l1) (1 : Int32) s) else (J_X0_isTooLarge_13 N l0 l1 (l0 + l1) (0 : Int32) s)) := rfl
end UROWS
section CMUL2
variable {N : Nat} {m : vM} {s : vS}
def muP (b _j : Nat) : Prop := 227 ≤ b ∧ b ≤ 230
theorem muP_tab {b j : Nat} (h : tabP b j) : ¬ muP b j := by
  unfold tabP at h
  unfold muP
  omega
theorem cr_mu {b j : Nat} (h : crP b j) : muP b j := by
  unfold crP at h
  unfold muP
  omega
theorem c_sizeOfBoth {q : Bool} {f g : Nat} (hT : Tab m) (hf : f < mny q) (hg : g < mny q) : F_X1_sizeOfBoth N (fo q) (nI f) (nI g) (S m) = some (nI (sz_ q f + sz_ q g - sh_ q), S m) := by
  have z2 := szc q f hf
  have z3 := szc q g hg
  have ha := adr q
  unfold F_X1_sizeOfBoth
  refine e_rcv gO ?_
  refine e_ldR gO gR3 ?_
  refine e_alIV gA3 rfl (by omega) (hT.2.1 q f hf).1 ?_
  refine e_ldR gO gR3 ?_
  refine e_alIV gA3 rfl (by omega) (hT.2.1 q g hg).1 ?_
  refine e_ldIV gO (hT.1 q).2.1 ?_
  rw [nI_add, pk_sub (by omega)]
theorem c_familyOf {q : Bool} {x : Int32} (hq : q = true ↔ x = 2) : F_X0_familyOf N 223 x (S m) = some (fo q, S m) := by
  unfold F_X0_familyOf
  refine e_rcv faO ?_
  cases q with
  | true =>
    refine e_t (hq.mp rfl) ?_
    refine e_ldR faO faR1 ?_
    rfl
  | false =>
    refine e_f (fun h => absurd (hq.mpr h) (by decide)) ?_
    refine e_ldR faO faR0 ?_
    rfl
def Apart (a : Nat) : Prop := a + 2 < 226 ∨ 231 ≤ a
def RowC (m : vM) (a : Nat) (o : Row) : Prop := ∀ k, k < 29 → rowC m a k = o k
theorem RowC.fr {a : Nat} {o : Row} {m m' : vM} (h : RowC m a o) (ha : Apart a) (g : Fr muP m m') : RowC m' a o := fun k hk => by
  unfold Apart at ha
  rw [← h k hk]
  show (rJ m' (a + 1) k, rJ m' (a + 2) k) = (rJ m (a + 1) k, rJ m (a + 2) k)
  rw [g.j (by unfold muP; omega), g.j (by unfold muP; omega)]
theorem RowC.fr2 {a : Nat} {o : Row} {P : Nat → Nat → Prop} {m m' : vM} (h : RowC m a o) (g : Fr P m m') (hp : ∀ j, ¬ P (a + 1) j ∧ ¬ P (a + 2) j) : RowC m' a o := fun k hk => by
  rw [← h k hk]
  show (rJ m' (a + 1) k, rJ m' (a + 2) k) = (rJ m (a + 1) k, rJ m (a + 2) k)
  rw [g.j (hp k).1, g.j (hp k).2]
theorem ne_m1 : ∀ k, k < 5 → ¬ nI k = (-1 : Int32) := by decide +kernel
theorem c_mul_g {q : Bool} {a1 a2 f : Nat} {l4 : Int32} {sf : Nat → Nat → Nat} {o p : Row} {K : Nat → Nat → Nat → Int32 → Nat → Int32 → vS → Option (Int32 × vS)} (hN : 100 ≤ N) (s1 : SumAt a1) (s2 : SumAt a2) (p1 : Apart a1) (p2 : Apart a2) (lo : Lows o) (lp : Lows p) (hf : f < mny q)
    (hl4 : (l4 = -1 ∧ ∀ f g, sf f g = sz_ q f + sz_ q g - sh_ q) ∨ (∃ size, l4 = nI size ∧ size < 5 ∧ ∀ f g, sf f g = size)) (hsf : ∀ f g, f < mny q → g < mny q → (o f).1 ≠ 0 → (p g).1 ≠ 0 → sz_ q f + sz_ q g - sh_ q ≤ sf f g ∧ sf f g < 5 ∧ sh_ q ≤ sf f g) :
    ∀ (d g n : Nat) (m : vM) (row : Row), g + d = mny q → d < n → Tab m → CR m row → Lows row → RowC m a1 o → RowC m a2 p →
    ∃ m', Fr muP m m' ∧ match fld (gstep q sf o p f) d g (some row) with
      | some row' => H_X0_multiply_30 N K n 223 a1 a2 l4 (fo q) (nI f) (nI g) (S m) = K 223 a1 a2 l4 (fo q) (nI (f + 1)) (S m') ∧ CR m' row' ∧ Lows row'
      | none => H_X0_multiply_30 N K n 223 a1 a2 l4 (fo q) (nI f) (nI g) (S m) = some (0, S m')
  | _, _, 0, _, _, _, h, _, _, _, _, _ => by omega
  | 0, g, n + 1, m, row, hg, _, hT, hc, hl, _, _ => by
    have ha := adr q
    refine ⟨m, Fr.rf, ?_, hc, hl⟩
    refine Eq.trans u_H_X0_multiply_30 ?_
    refine e_ldIV gO (hT.1 q).2.2 ?_
    refine e_t (by rw [nI_leI (by omega) (by omega)]; omega) ?_
    refine e_nm ?_
    rw [addR]
  | d + 1, g, n + 1, m, row, hg, hd, hT, hc, hl, r1, r2 => by
    have ha := adr q
    obtain ⟨o1, o2, o3, o4, o5⟩ := id s1
    obtain ⟨q1, q2, q3, q4, q5⟩ := id s2
    have e1 : rJ m (a1 + 1) f = (o f).1 := congrArg Prod.fst (r1 f (by omega))
    have e2 : rJ m (a1 + 2) f = (o f).2 := congrArg Prod.snd (r1 f (by omega))
    have e3 : rJ m (a2 + 1) g = (p g).1 := congrArg Prod.fst (r2 g (by omega))
    have e4 : rJ m (a2 + 2) g = (p g).2 := congrArg Prod.snd (r2 g (by omega))
    have lof := lo f (by omega)
    have lpg := lp g (by omega)
    have nx : ∀ m1 row1, Fr muP m m1 → CR m1 row1 → Lows row1 → gstep q sf o p f g (some row) = some row1 → ((∀ r, J_X0_multiply_147 N K (H_X0_multiply_30 N K n) 223 a1 a2 l4 (fo q) (nI f) (nI g) (S m1) = r → H_X0_multiply_30 N K (n + 1) 223 a1 a2 l4 (fo q) (nI f) (nI g) (S m) = r)) → ∃ m', Fr muP m m' ∧ match fld (gstep q sf o p f) (d + 1) g (some row) with
      | some row' => H_X0_multiply_30 N K (n + 1) 223 a1 a2 l4 (fo q) (nI f) (nI g) (S m) = K 223 a1 a2 l4 (fo q) (nI (f + 1)) (S m') ∧ CR m' row' ∧ Lows row'
      | none => H_X0_multiply_30 N K (n + 1) 223 a1 a2 l4 (fo q) (nI f) (nI g) (S m) = some (0, S m') := by
      intro m1 row1 f1 c1 l1 hst hgo
      obtain ⟨m', g1, g2⟩ := c_mul_g hN s1 s2 p1 p2 lo lp hf hl4 hsf d (g + 1) n m1 row1 (by omega) (by omega) (hT.fr (fun b j hb => f1 b j (muP_tab hb))) c1 l1 (r1.fr p1 f1) (r2.fr p2 f1)
      refine ⟨m', f1.tr g1, ?_⟩
      have h147 : J_X0_multiply_147 N K (H_X0_multiply_30 N K n) 223 a1 a2 l4 (fo q) (nI f) (nI g) (S m1) = H_X0_multiply_30 N K n 223 a1 a2 l4 (fo q) (nI f) (nI (g + 1)) (S m1) := by
        unfold J_X0_multiply_147
        refine e_nm ?_
        rw [addR]
      have hg' := hgo _ h147
      rw [fld, hst]
      rw [hg']
      exact g2
    have skip : gstep q sf o p f g (some row) = some row → ((∀ r, J_X0_multiply_147 N K (H_X0_multiply_30 N K n) 223 a1 a2 l4 (fo q) (nI f) (nI g) (S m) = r → H_X0_multiply_30 N K (n + 1) 223 a1 a2 l4 (fo q) (nI f) (nI g) (S m) = r)) → ∃ m', Fr muP m m' ∧ match fld (gstep q sf o p f) (d + 1) g (some row) with
      | some row' => H_X0_multiply_30 N K (n + 1) 223 a1 a2 l4 (fo q) (nI f) (nI g) (S m) = K 223 a1 a2 l4 (fo q) (nI (f + 1)) (S m') ∧ CR m' row' ∧ Lows row'
      | none => H_X0_multiply_30 N K (n + 1) 223 a1 a2 l4 (fo q) (nI f) (nI g) (S m) = some (0, S m') := nx m row Fr.rf hc hl
    have hN29 : f < 29 ∧ g < 29 := by omega
    by_cases zf : (o f).1 = 0
    · refine skip (by unfold gstep; rw [if_pos (Or.inl zf)]) (fun r hr => ?_)
      refine Eq.trans u_H_X0_multiply_30 ?_
      refine e_ldIV gO (hT.1 q).2.2 ?_
      refine e_f (by rw [nI_leI (by omega) (by omega)]; omega) ?_
      refine e_ldR o1 o2 ?_
      refine e_alJV o4 rfl (by omega) e1 ?_
      exact e_t ((lg_cmp_eq _ _).mpr zf) hr
    by_cases zg : (p g).1 = 0
    · refine skip (by unfold gstep; rw [if_pos (Or.inr zg)]) (fun r hr => ?_)
      refine Eq.trans u_H_X0_multiply_30 ?_
      refine e_ldIV gO (hT.1 q).2.2 ?_
      refine e_f (by rw [nI_leI (by omega) (by omega)]; omega) ?_
      refine e_ldR o1 o2 ?_
      refine e_alJV o4 rfl (by omega) e1 ?_
      refine e_f (fun w => zf ((lg_cmp_eq _ _).mp w)) ?_
      refine e_ldR q1 q2 ?_
      refine e_alJV q4 rfl (by omega) e3 ?_
      exact e_t ((lg_cmp_eq _ _).mpr zg) hr
    have hsfg := hsf f g hf (by omega) zf zg
    have hgs : gstep q sf o p f g (some row) = stB q f g (sf f g) o p (some row) := by unfold gstep; rw [if_neg (fun w => w.elim zf zg)]
    have hno : gstep q sf o p f g (some row) = none → fld (gstep q sf o p f) (d + 1) g (some row) = none := by
      intro e
      rw [fld, e]
      exact fld_none gstep_none _ _
    have hbec := c_become (N := N) (m := m) (f := 229) (a := (o f).1) (b := (o f).2) frac229 hN lof.1
    rw [show red (o f).1 (o f).2 = o f from red_of lof] at hbec
    have ht := c_times (N := N) (m := wF m 229 (o f)) (f := 229) (c := (p g).1) (d := (p g).2) frac229 hN (by rw [wF1]; exact lof.1) lpg.1
    rw [wF0, wF1] at ht
    have fw : Fr muP m (wF m 229 (o f)) := (Fr_wF (f := 229)).mo (fun b j h => by unfold muP; omega)
    have f3 : ∀ p, Fr muP m (wF (wF m 229 (o f)) 229 p) := fun p => fw.tr ((Fr_wF (f := 229)).mo (fun b j h => by unfold muP; omega))
    have a2row : ∀ j, rJ (wF m 229 (o f)) (a2 + 1) j = rJ m (a2 + 1) j ∧ rJ (wF m 229 (o f)) (a2 + 2) j = rJ m (a2 + 2) j := by
      unfold Apart at p2
      exact fun j => ⟨fw.j (by unfold muP; omega), fw.j (by unfold muP; omega)⟩
    have e3' := (a2row g).1.trans e3
    have e4' := (a2row g).2.trans e4
    have start : ∀ R v m1, F_X2_times N 229 (p g).1 (p g).2 (S (wF m 229 (o f))) = some (v, S m1) → (if v = 0 then J_X0_multiply_145 N (S m1) else (if l4 = (-1) then bnd (F_X1_sizeOfBoth N (fo q) (nI f) (nI g) (S m1)) (fun v23 s => J_X0_multiply_139 N K (H_X0_multiply_30 N K n) 223 a1 a2 l4 (fo q) (nI f) (nI g) 223 (nI f) (nI g) (fo q) v23 s) else J_X0_multiply_139 N K (H_X0_multiply_30 N K n) 223 a1 a2 l4 (fo q) (nI f) (nI g) 223 (nI f) (nI g) (fo q) l4 (S m1))) = R → H_X0_multiply_30 N K (n + 1) 223 a1 a2 l4 (fo q) (nI f) (nI g) (S m) = R := by
      intro R v m1 hv hR
      refine Eq.trans u_H_X0_multiply_30 ?_
      refine e_ldIV gO (hT.1 q).2.2 ?_
      refine e_f (by rw [nI_leI (by omega) (by omega)]; omega) ?_
      refine e_ldR o1 o2 ?_
      refine e_alJV o4 rfl (by omega) e1 ?_
      refine e_f (fun w => zf ((lg_cmp_eq _ _).mp w)) ?_
      refine e_ldR q1 q2 ?_
      refine e_alJV q4 rfl (by omega) e3 ?_
      refine e_f (fun w => zg ((lg_cmp_eq _ _).mp w)) ?_
      refine e_ldR faO faR5 ?_
      refine e_ldR o1 o2 ?_
      refine e_alJV o4 rfl (by omega) e1 ?_
      refine e_ldR o1 o3 ?_
      refine e_alJV o5 rfl (by omega) e2 ?_
      refine e_bnd hbec ?_
      refine e_ldR faO faR5 ?_
      refine e_ldR q1 q2 ?_
      refine e_alJV q4 rfl (by omega) e3' ?_
      refine e_ldR q1 q3 ?_
      refine e_alJV q5 rfl (by omega) e4' ?_
      refine e_bnd hv ?_
      exact hR
    cases hfm : fmul (o f).1 (o f).2 (p g).1 (p g).2 with
    | none =>
      rw [hfm] at ht
      have hst : gstep q sf o p f g (some row) = none := by rw [hgs]; unfold stB; rw [hfm]
      refine ⟨wF m 229 (o f), fw, ?_⟩
      rw [hno hst]
      exact start _ 0 _ ht (e_t rfl rfl)
    | some b =>
      rw [hfm] at ht
      have hst : gstep q sf o p f g (some row) = stM q f g (sf f g) b (some row) := by rw [hgs]; unfold stB; rw [hfm]
      have hbp := fmul_pos lof.1 lpg.1 hfm
      have hT3 : Tab (wF (wF m 229 (o f)) 229 b) := hT.fr (fun b j hb => f3 _ b j (muP_tab hb))
      obtain ⟨m1, r, c1, c2, c3⟩ := c_spread (N := N) (m := wF (wF m 229 (o f)) 229 b) (row := row) (b := b) hN hf (show g < mny q by omega) hsfg.2.1 hsfg.2.2 hsfg.1 hbp hT3 (fun k hk => by
        rw [← hc k hk]
        show (rJ _ 227 k, rJ _ 228 k) = (rJ m 227 k, rJ m 228 k)
        rw [Fr_wF.j (by omega), Fr_wF.j (by omega), Fr_wF.j (by omega), Fr_wF.j (by omega)]) hl wF0 wF1
      have f4 := (f3 b).tr (c2.mo (fun b j h => cr_mu h))
      have go : ∀ R, (if r = 0 then J_X0_multiply_145 N (S m1) else J_X0_multiply_147 N K (H_X0_multiply_30 N K n) 223 a1 a2 l4 (fo q) (nI f) (nI g) (S m1)) = R → H_X0_multiply_30 N K (n + 1) 223 a1 a2 l4 (fo q) (nI f) (nI g) (S m) = R := by
        intro R hR
        refine start R 1 _ ht (e_f (by decide) ?_)
        rcases hl4 with ⟨z, zs⟩ | ⟨size, z, zs, zz⟩
        · refine e_t z ?_
          refine e_bnd (c_sizeOfBoth hT3 hf (by omega)) ?_
          rw [zs] at c1
          unfold J_X0_multiply_139
          refine e_bnd c1 ?_
          exact hR
        · refine e_f (by rw [z]; exact ne_m1 size zs) ?_
          rw [zz, ← z] at c1
          unfold J_X0_multiply_139
          refine e_bnd c1 ?_
          exact hR
      cases hres : stM q f g (sf f g) b (some row) with
      | none =>
        rw [hres] at c3 hst
        subst c3
        refine ⟨m1, f4, ?_⟩
        rw [hno hst]
        exact go _ (e_t rfl rfl)
      | some row1 =>
        rw [hres] at c3 hst
        obtain ⟨rfl, d1, d2⟩ := c3
        exact nx m1 row1 f4 d1 d2 hst (fun r hr => go r (e_f (by decide) hr))
theorem c_mul_f {q : Bool} {a1 a2 : Nat} {l4 : Int32} {sf : Nat → Nat → Nat} {o p : Row} (hN : 100 ≤ N) (s1 : SumAt a1) (s2 : SumAt a2) (p1 : Apart a1) (p2 : Apart a2) (lo : Lows o) (lp : Lows p)
    (hl4 : (l4 = -1 ∧ ∀ f g, sf f g = sz_ q f + sz_ q g - sh_ q) ∨ (∃ size, l4 = nI size ∧ size < 5 ∧ ∀ f g, sf f g = size)) (hsf : ∀ f g, f < mny q → g < mny q → (o f).1 ≠ 0 → (p g).1 ≠ 0 → sz_ q f + sz_ q g - sh_ q ≤ sf f g ∧ sf f g < 5 ∧ sh_ q ≤ sf f g) :
    ∀ (d f n : Nat) (m : vM) (row : Row), f + d = mny q → d < n → Tab m → CR m row → Lows row → RowC m a1 o → RowC m a2 p →
    ∃ (m' : vM) (r : Int32), H_X0_multiply_17 N n 223 a1 a2 l4 (fo q) (nI f) (S m) = some (r, S m') ∧ Fr muP m m' ∧ match fld (fstep q sf o p (mny q)) d f (some row) with
      | some row' => r = 1 ∧ CR m' row' ∧ Lows row'
      | none => r = 0
  | _, _, 0, _, _, _, h, _, _, _, _, _ => by omega
  | 0, f, n + 1, m, row, hf, _, hT, hc, hl, _, _ => by
    have ha := adr q
    refine ⟨m, 1, ?_, Fr.rf, rfl, hc, hl⟩
    refine Eq.trans u_H_X0_multiply_17 ?_
    refine e_ldIV gO (hT.1 q).2.2 ?_
    exact e_t (by rw [nI_leI (by omega) (by omega)]; omega) rfl
  | d + 1, f, n + 1, m, row, hf, hd, hT, hc, hl, r1, r2 => by
    have ha := adr q
    obtain ⟨m1, f1, g1⟩ := c_mul_g (N := N) (K := H_X0_multiply_17 N n) hN s1 s2 p1 p2 lo lp (show f < mny q by omega) hl4 hsf (mny q) 0 N m row (by omega) (by omega) hT hc hl r1 r2
    have go : ∀ R, H_X0_multiply_30 N (H_X0_multiply_17 N n) N 223 a1 a2 l4 (fo q) (nI f) (nI 0) (S m) = R → H_X0_multiply_17 N (n + 1) 223 a1 a2 l4 (fo q) (nI f) (S m) = R := by
      intro R hR
      refine Eq.trans u_H_X0_multiply_17 ?_
      refine e_ldIV gO (hT.1 q).2.2 ?_
      refine e_f (by rw [nI_leI (by omega) (by omega)]; omega) ?_
      exact hR
    cases hres : fld (gstep q sf o p f) (mny q) 0 (some row) with
    | none =>
      rw [hres] at g1
      refine ⟨m1, 0, go _ g1, f1, ?_⟩
      rw [fld, show fstep q sf o p (mny q) f (some row) = none from hres, fld_none fstep_none]
    | some row1 =>
      rw [hres] at g1
      obtain ⟨g1, c1, l1⟩ := g1
      obtain ⟨m', r, j1, j2, j3⟩ := c_mul_f hN s1 s2 p1 p2 lo lp hl4 hsf d (f + 1) n m1 row1 (by omega) (by omega) (hT.fr (fun b j hb => f1 b j (muP_tab hb))) c1 l1 (r1.fr p1 f1) (r2.fr p2 f1)
      refine ⟨m', r, go _ (g1.trans j1), f1.tr j2, ?_⟩
      rw [fld, show fstep q sf o p (mny q) f (some row) = some row1 from hres]
      exact j3
def muQ (b _j : Nat) : Prop := 226 ≤ b ∧ b ≤ 230
theorem muQ_tab {b j : Nat} (h : tabP b j) : ¬ muQ b j := by
  unfold tabP at h
  unfold muQ
  omega
theorem row0_low : Lows row0 := fun _ _ => Low_0
theorem c_empty226 (hN : 100 ≤ N) : ∃ m', F_X6_empty N 226 (S m) = some ((), S m') ∧ Fr muQ m m' ∧ rI m' 226 0 = 0 ∧ CR m' row0 := by
  obtain ⟨m', h1, h2, h3, h4⟩ := c_empty (N := N) (m := m) sum226 hN
  refine ⟨m', h1, fun a j hj => ⟨?_, h4 a j (by unfold muQ at hj; omega)⟩, by rw [h2, if_pos ⟨rfl, rfl⟩], fun k hk => ?_⟩
  · rw [h2, if_neg (by unfold muQ at hj; omega)]
  · show (rJ m' (226 + 1) k, rJ m' (226 + 2) k) = (0, 1)
    rw [(h3 k hk).1, (h3 k hk).2]
theorem RowC.fq {a : Nat} {o : Row} {m m' : vM} (h : RowC m a o) (ha : Apart a) (g : Fr muQ m m') : RowC m' a o := h.fr2 g (fun j => by unfold Apart at ha; unfold muQ; omega)
theorem mu_q {b j : Nat} (h : muP b j) : muQ b j := by
  unfold muP at h
  unfold muQ
  omega
theorem c_multiply {q : Bool} {a1 a2 : Nat} {x l4 : Int32} {sf : Nat → Nat → Nat} {o p : Row} (hN : 100 ≤ N) (hx : q = true ↔ x = 2) (s1 : SumAt a1) (s2 : SumAt a2) (p1 : Apart a1) (p2 : Apart a2) (lo : Lows o) (lp : Lows p)
    (hl4 : (l4 = -1 ∧ ∀ f g, sf f g = sz_ q f + sz_ q g - sh_ q) ∨ (∃ size, l4 = nI size ∧ size < 5 ∧ ∀ f g, sf f g = size)) (hsf : ∀ f g, f < mny q → g < mny q → (o f).1 ≠ 0 → (p g).1 ≠ 0 → sz_ q f + sz_ q g - sh_ q ≤ sf f g ∧ sf f g < 5 ∧ sh_ q ≤ sf f g) (hT : Tab m) (r1 : RowC m a1 o) (r2 : RowC m a2 p) :
    ∃ (m' : vM) (r : Int32), F_X0_multiply N 223 a1 a2 x l4 (S m) = some (r, S m') ∧ Fr muQ m m' ∧ match mulG q sf o p (mny q) with
      | some row' => r = 1 ∧ CR m' row' ∧ Lows row'
      | none => r = 0 := by
  have ha := adr q
  obtain ⟨m1, h1, h2, h3, h4⟩ := c_empty226 (N := N) (m := m) hN
  obtain ⟨m', r, g1, g2, g3⟩ := c_mul_f (N := N) hN s1 s2 p1 p2 lo lp hl4 hsf (mny q) 0 N m1 row0 (by omega) (by omega) (hT.fr (fun b j hb => h2 b j (muQ_tab hb))) h4 row0_low (r1.fq p1 h2) (r2.fq p2 h2)
  refine ⟨m', r, ?_, h2.tr (g2.mo (fun b j h => mu_q h)), g3⟩
  unfold F_X0_multiply
  refine e_rcv faO ?_
  refine e_bnd (c_familyOf hx) ?_
  refine e_ldR faO faR4 ?_
  refine e_bnd h1 ?_
  exact g1
end CMUL2
