section UROWS
theorem u_J_X6_extremeOf_101 {N : Nat} {k8 : Nat → Int32 → Int32 → Int32 → Int32 → vS → Option (Int32 × vS)} {a0 : Nat} {l2 : Int32} {l3 : Int32} {l4 : Int32} {l5 : Int32} {s : vS} : J_X6_extremeOf_101 N k8 a0 l2 l3 l4 l5 s = (nm (l5 + (1 : Int32)) (fun l5_20 => k8 a0 l2 l3 l4 l5_20 s)) := rfl
theorem u_J_X6_extremeOf_97 {N : Nat} {k8 : Nat → Int32 → Int32 → Int32 → Int32 → vS → Option (Int32 × vS)} {a0 : Nat} {l2 : Int32} {l3 : Int32} {l5 : Int32} {s : vS} : J_X6_extremeOf_97 N k8 a0 l2 l3 l5 s = (J_X6_extremeOf_101 N k8 a0 l2 l3 l5 l5 s) := rfl
theorem u_H_X6_extremeOf_8 {N : Nat} {n : Nat} {a0 : Nat} {l2 : Int32} {l3 : Int32} {l4 : Int32} {l5 : Int32} {s : vS} : H_X6_extremeOf_8 N (n + 1) a0 l2 l3 l4 l5 s = (if l2 ≤ l5 then (some (l4, s)) else (ldR s a0 6 1 (fun r2 => alJ s r2 l5 (fun v3 => ldR s a0 6 2 (fun r4 => alJ s r4 l5 (fun v5 => ldR s a0 6 1 (fun r6 => alJ s r6 l4 (fun v7 => ldR s a0 6 2 (fun r8 => alJ s r8 l4 (fun v9 => bnd (F_X2_isLess N v3 v5 v7 v9 s) (fun v10 s => ldR s a0 6 1 (fun r11 => alJ s r11 l4 (fun v12 => ldR s a0 6 2 (fun r13 => alJ s r13 l4 (fun v14 => ldR s a0 6 1 (fun r15 => alJ s r15 l5 (fun v16 => ldR s a0 6 2 (fun r17 => alJ s r17 l5 (fun v18 => bnd (F_X2_isLess N v12 v14 v16 v18 s) (fun v19 s => if l3 = (0 : Int32) then (if v10 = (0 : Int32) then (J_X6_extremeOf_101 N (H_X6_extremeOf_8 N n) a0 l2 l3 l4 l5 s) else (J_X6_extremeOf_97 N (H_X6_extremeOf_8 N n) a0 l2 l3 l5 s)) else (if v19 = (0 : Int32) then (J_X6_extremeOf_101 N (H_X6_extremeOf_8 N n) a0 l2 l3 l4 l5 s) else (J_X6_extremeOf_97 N (H_X6_extremeOf_8 N n) a0 l2 l3 l5 s)))))))))))))))))))))) := rfl
theorem u_F_X6_extremeOf {N : Nat} {a0 : Nat} {l1 : Int32} {l2 : Int32} {l3 : Int32} {s : vS} : F_X6_extremeOf N a0 l1 l2 l3 s = (rcv s a0 6 (nm ((l1 + (1 : Int32))) (fun l5_1 => H_X6_extremeOf_8 N N a0 l2 l3 l1 l5_1 s))) := rfl
theorem u_J_X9_bound_295 {N : Nat} {k0 : Int64} {s : vS} : J_X9_bound_295 N k0 s = (some (k0, s)) := rfl
theorem u_J_X9_bound_259 {N : Nat} {k97 : Nat → Int32 → Int32 → Int32 → Int32 → Int32 → vS → Option (Int64 × vS)} {a0 : Nat} {l2 : Int32} {l3 : Int32} {l4 : Int32} {l5 : Int32} {l6 : Int32} {s : vS} : J_X9_bound_259 N k97 a0 l2 l3 l4 l5 l6 s = (nm (l6 + (1 : Int32)) (fun l6_20 => k97 a0 l2 l3 l4 l5 l6_20 s)) := rfl
theorem u_J_X9_bound_257 {N : Nat} {k97 : Nat → Int32 → Int32 → Int32 → Int32 → Int32 → vS → Option (Int64 × vS)} {a0 : Nat} {l2 : Int32} {l3 : Int32} {l4 : Int32} {l6 : Int32} {k0 : Int32} {s : vS} : J_X9_bound_257 N k97 a0 l2 l3 l4 l6 k0 s = (J_X9_bound_259 N k97 a0 l2 l3 l4 k0 l6 s) := rfl
theorem u_J_X9_bound_243 {N : Nat} {k97 : Nat → Int32 → Int32 → Int32 → Int32 → Int32 → vS → Option (Int64 × vS)} {a0 : Nat} {l2 : Int32} {l3 : Int32} {l4 : Int32} {l5 : Int32} {l6 : Int32} {k0 : Int32} {s : vS} : J_X9_bound_243 N k97 a0 l2 l3 l4 l5 l6 k0 s = (if k0 = (0 : Int32) then (J_X9_bound_257 N k97 a0 l2 l3 l4 l6 l5 s) else (J_X9_bound_257 N k97 a0 l2 l3 l4 l6 l6 s)) := rfl
theorem u_J_X9_bound_242 {N : Nat} {k97 : Nat → Int32 → Int32 → Int32 → Int32 → Int32 → vS → Option (Int64 × vS)} {a0 : Nat} {l2 : Int32} {l3 : Int32} {l4 : Int32} {l5 : Int32} {l6 : Int32} {s : vS} : J_X9_bound_242 N k97 a0 l2 l3 l4 l5 l6 s = (J_X9_bound_243 N k97 a0 l2 l3 l4 l5 l6 (0 : Int32) s) := rfl
theorem u_J_X9_bound_238 {N : Nat} {k97 : Nat → Int32 → Int32 → Int32 → Int32 → Int32 → vS → Option (Int64 × vS)} {a0 : Nat} {l2 : Int32} {l3 : Int32} {l4 : Int32} {l5 : Int32} {l6 : Int32} {s : vS} : J_X9_bound_238 N k97 a0 l2 l3 l4 l5 l6 s = (J_X9_bound_243 N k97 a0 l2 l3 l4 l5 l6 (1 : Int32) s) := rfl
theorem u_J_X9_bound_192 {N : Nat} {k97 : Nat → Int32 → Int32 → Int32 → Int32 → Int32 → vS → Option (Int64 × vS)} {a0 : Nat} {l2 : Int32} {l3 : Int32} {l4 : Int32} {l5 : Int32} {l6 : Int32} {l7 : Int32} {l8 : Int32} {k0 : Int32} {s : vS} : J_X9_bound_192 N k97 a0 l2 l3 l4 l5 l6 l7 l8 k0 s = (if k0 = (0 : Int32) then (if l3 = (1 : Int32) then (ldR s a0 9 11 (fun r30 => alJ s r30 l8 (fun v31 => ldR s a0 9 12 (fun r32 => alJ s r32 l8 (fun v33 => ldR s a0 9 11 (fun r34 => alJ s r34 l7 (fun v35 => ldR s a0 9 12 (fun r36 => alJ s r36 l7 (fun v37 => bnd (F_X9_isLess N v31 v33 v35 v37 s) (fun v38 s => if v38 = (0 : Int32) then (J_X9_bound_242 N k97 a0 l2 l3 l4 l5 l6 s) else (J_X9_bound_238 N k97 a0 l2 l3 l4 l5 l6 s))))))))))) else (J_X9_bound_242 N k97 a0 l2 l3 l4 l5 l6 s)) else (J_X9_bound_238 N k97 a0 l2 l3 l4 l5 l6 s)) := rfl
theorem u_J_X9_bound_191 {N : Nat} {k97 : Nat → Int32 → Int32 → Int32 → Int32 → Int32 → vS → Option (Int64 × vS)} {a0 : Nat} {l2 : Int32} {l3 : Int32} {l4 : Int32} {l5 : Int32} {l6 : Int32} {l7 : Int32} {l8 : Int32} {s : vS} : J_X9_bound_191 N k97 a0 l2 l3 l4 l5 l6 l7 l8 s = (J_X9_bound_192 N k97 a0 l2 l3 l4 l5 l6 l7 l8 (0 : Int32) s) := rfl
theorem u_J_X9_bound_187 {N : Nat} {k97 : Nat → Int32 → Int32 → Int32 → Int32 → Int32 → vS → Option (Int64 × vS)} {a0 : Nat} {l2 : Int32} {l3 : Int32} {l4 : Int32} {l5 : Int32} {l6 : Int32} {l7 : Int32} {l8 : Int32} {s : vS} : J_X9_bound_187 N k97 a0 l2 l3 l4 l5 l6 l7 l8 s = (J_X9_bound_192 N k97 a0 l2 l3 l4 l5 l6 l7 l8 (1 : Int32) s) := rfl
theorem u_J_X9_bound_142 {N : Nat} {k97 : Nat → Int32 → Int32 → Int32 → Int32 → Int32 → vS → Option (Int64 × vS)} {a0 : Nat} {l2 : Int32} {l3 : Int32} {l4 : Int32} {l5 : Int32} {l6 : Int32} {l7 : Int32} {l8 : Int32} {k0 : Int32} {s : vS} : J_X9_bound_142 N k97 a0 l2 l3 l4 l5 l6 l7 l8 k0 s = (if k0 = (0 : Int32) then (if l3 = (0 : Int32) then (ldR s a0 9 11 (fun r21 => alJ s r21 l7 (fun v22 => ldR s a0 9 12 (fun r23 => alJ s r23 l7 (fun v24 => ldR s a0 9 11 (fun r25 => alJ s r25 l8 (fun v26 => ldR s a0 9 12 (fun r27 => alJ s r27 l8 (fun v28 => bnd (F_X9_isLess N v22 v24 v26 v28 s) (fun v29 s => if v29 = (0 : Int32) then (J_X9_bound_191 N k97 a0 l2 l3 l4 l5 l6 l7 l8 s) else (J_X9_bound_187 N k97 a0 l2 l3 l4 l5 l6 l7 l8 s))))))))))) else (J_X9_bound_191 N k97 a0 l2 l3 l4 l5 l6 l7 l8 s)) else (J_X9_bound_187 N k97 a0 l2 l3 l4 l5 l6 l7 l8 s)) := rfl
theorem u_H_X9_bound_97 {N : Nat} {n : Nat} {a0 : Nat} {l2 : Int32} {l3 : Int32} {l4 : Int32} {l5 : Int32} {l6 : Int32} {s : vS} : H_X9_bound_97 N (n + 1) a0 l2 l3 l4 l5 l6 s = (if (19 : Int32) ≤ l6 then (if l4 = (0 : Int32) then (ldR s a0 9 11 (fun r14 => alJ s r14 ((377 : Int32) + l5) (fun v15 => J_X9_bound_295 N v15 s))) else (ldR s a0 9 12 (fun r12 => alJ s r12 ((377 : Int32) + l5) (fun v13 => J_X9_bound_295 N v13 s)))) else (nm (((377 : Int32) + l6)) (fun l7_16 => ldR s a0 9 0 (fun r17 => alI s r17 l6 (fun v18 => if v18 = l2 then (nm (((377 : Int32) + l5)) (fun l8_19 => if l5 = (-1 : Int32) then (J_X9_bound_142 N (H_X9_bound_97 N n) a0 l2 l3 l4 l5 l6 l7_16 l8_19 (1 : Int32) s) else (J_X9_bound_142 N (H_X9_bound_97 N n) a0 l2 l3 l4 l5 l6 l7_16 l8_19 (0 : Int32) s))) else (J_X9_bound_259 N (H_X9_bound_97 N n) a0 l2 l3 l4 l5 l6 s)))))) := rfl
theorem u_J_X9_bound_63 {N : Nat} {s : vS} : J_X9_bound_63 N s = (some ((-9223372036854775808 : Int64), s)) := rfl
theorem u_F_X9_bound {N : Nat} {a0 : Nat} {l1 : Int32} {l2 : Int32} {l3 : Int32} {l4 : Int32} {s : vS} : F_X9_bound N a0 l1 l2 l3 l4 s = (rcv s a0 9 (bnd (F_X9_isStore N l1 s) (fun v1 s => if v1 = (0 : Int32) then (J_X9_bound_63 N  s) else (bnd (F_X9_in N l2 (0 : Int32) (4 : Int32) s) (fun v2 s => if v2 = (0 : Int32) then (J_X9_bound_63 N  s) else (bnd (F_X9_in N l3 (0 : Int32) (1 : Int32) s) (fun v3 s => if v3 = (0 : Int32) then (J_X9_bound_63 N  s) else (bnd (F_X9_in N l4 (0 : Int32) (1 : Int32) s) (fun v4 s => if v4 = (0 : Int32) then (J_X9_bound_63 N  s) else (ldR s a0 9 9 (fun r5 => alZ s r5 l1 (fun v6 => if v6 = (0 : Int32) then (J_X9_bound_63 N  s) else (ldR s a0 9 10 (fun r7 => alI s r7 l1 (fun v8 => if v8 = (1 : Int32) then (J_X9_bound_63 N  s) else (bnd (F_X9_greatest N a0 l1 s) (fun v9 s => if v9 ≤ l2 then (stZ s a0 9 25 (0 : Int32) (fun s => bnd (F_X9_liftTo N a0 l1 l2 (13 : Int32) s) (fun v10 s => ldI s a0 9 25 (fun v11 => if v11 = (0 : Int32) then (H_X9_bound_97 N N a0 l2 l3 l4 (-1 : Int32) (0 : Int32) s) else (some ((-9223372036854775808 : Int64), s)))))) else (J_X9_bound_63 N  s)))))))))))))))))) := rfl
end UROWS
section BOUND
variable {N : Nat} {m m' : vM} {s : vS}
theorem ad377 (i : Nat) : (377 : Int32) + nI i = nI (377 + i) := nI_add 377 i
def lsV (N : Nat) (p q : Int64 × Int64) : Int32 := match F_X2_isLess N p.1 p.2 q.1 q.2 ((0, 0), fun _ => (0, 0), fun _ _ => 0, fun _ _ => 0, fun _ _ => none) with
  | some r => r.1
  | none => 0
theorem ls_c (hN : 1000 ≤ N) {p q : Int64 × Int64} (hp : Low p) (hq : Low q) (s : vS) : F_X2_isLess N p.1 p.2 q.1 q.2 s = some (lsV N p q, s) ∧ F_X9_isLess N p.1 p.2 q.1 q.2 s = some (lsV N p q, s) := by
  obtain ⟨v, hv⟩ := less_ex (N := N) (a := p.1) (c := q.1) hN hp.1 hq.1
  have e : lsV N p q = v := by
    unfold lsV
    rw [(hv _).1]
  rw [e]
  exact hv s
def bnx (N : Nat) (row : Row) (w : Nat) (k b : Nat) : Nat := if (if w = 0 then lsV N (row k) (row b) else lsV N (row b) (row k)) = 0 then b else k
section EXT
variable {row : Row} {w : Nat}
theorem bnx_lt {k b c : Nat} (h1 : k < c) (h2 : b < c) : bnx N row w k b < c := by
  unfold bnx
  by_cases z : (if w = 0 then lsV N (row k) (row b) else lsV N (row b) (row k)) = 0
  · rw [if_pos z]; exact h2
  · rw [if_neg z]; exact h1
theorem c_ext_l (hN : 1000 ≤ N) (lo : Lows row) (hr : RowC m 283 row) (hw : w < 2) {c : Nat} (hc : c < 29) : ∀ (d k n b : Nat), k + d = c → d < n → b < 29 → H_X6_extremeOf_8 N n 283 (nI c) (nI w) (nI b) (nI k) (S m) = some (nI (fld (bnx N row w) d k b), S m)
  | _, _, 0, _, _, h, _ => by omega
  | 0, k, n + 1, b, hk, _, _ => by
    refine Eq.trans u_H_X6_extremeOf_8 ?_
    exact e_t (by rw [nI_leI (by omega) (by omega)]; omega) rfl
  | d + 1, k, n + 1, b, hk, hd, hb => by
    have ih := c_ext_l hN lo hr hw hc d (k + 1) n (bnx N row w k b) (by omega) (by omega) (bnx_lt (by omega) hb)
    have rk := hr k (by omega)
    have rb := hr b hb
    have k1 : rJ m 284 k = (row k).1 := congrArg Prod.fst rk
    have k2 : rJ m 285 k = (row k).2 := congrArg Prod.snd rk
    have b1 : rJ m 284 b = (row b).1 := congrArg Prod.fst rb
    have b2' : rJ m 285 b = (row b).2 := congrArg Prod.snd rb
    have S1 := sum283
    refine Eq.trans u_H_X6_extremeOf_8 ?_
    refine e_f (by rw [nI_leI (by omega) (by omega)]; omega) ?_
    refine e_ldR S1.1 S1.2.1 ?_
    refine e_alJV S1.2.2.2.1 rfl (by omega) k1 ?_
    refine e_ldR S1.1 S1.2.2.1 ?_
    refine e_alJV S1.2.2.2.2 rfl (by omega) k2 ?_
    refine e_ldR S1.1 S1.2.1 ?_
    refine e_alJV S1.2.2.2.1 rfl (by omega) b1 ?_
    refine e_ldR S1.1 S1.2.2.1 ?_
    refine e_alJV S1.2.2.2.2 rfl (by omega) b2' ?_
    refine e_bnd (ls_c hN (lo k (by omega)) (lo b hb) _).1 ?_
    refine e_ldR S1.1 S1.2.1 ?_
    refine e_alJV S1.2.2.2.1 rfl (by omega) b1 ?_
    refine e_ldR S1.1 S1.2.2.1 ?_
    refine e_alJV S1.2.2.2.2 rfl (by omega) b2' ?_
    refine e_ldR S1.1 S1.2.1 ?_
    refine e_alJV S1.2.2.2.1 rfl (by omega) k1 ?_
    refine e_ldR S1.1 S1.2.2.1 ?_
    refine e_alJV S1.2.2.2.2 rfl (by omega) k2 ?_
    refine e_bnd (ls_c hN (lo b hb) (lo k (by omega)) _).1 ?_
    have key : ∀ v : Int32, (if w = 0 then lsV N (row k) (row b) else lsV N (row b) (row k)) = v → (if v = 0 then J_X6_extremeOf_101 N (H_X6_extremeOf_8 N n) 283 (nI c) (nI w) (nI b) (nI k) (S m) else J_X6_extremeOf_97 N (H_X6_extremeOf_8 N n) 283 (nI c) (nI w) (nI k) (S m)) = some (nI (fld (bnx N row w) (d + 1) k b), S m) := fun v hv => by
      have e : fld (bnx N row w) (d + 1) k b = fld (bnx N row w) d (k + 1) (bnx N row w k b) := rfl
      rw [e, ← ih]
      by_cases z : v = 0
      · refine e_t z ?_
        rw [show bnx N row w k b = b from if_pos (hv.trans z)]
        rw [← addR]
        rfl
      · refine e_f z ?_
        rw [show bnx N row w k b = k from if_neg (fun y => z (hv.symm.trans y))]
        rw [← addR]
        rfl
    rcases (show w = 0 ∨ w = 1 by omega) with rfl | rfl
    · refine e_t rfl ?_
      exact key _ rfl
    · refine e_f (by decide) ?_
      exact key _ rfl
theorem m_bd_lo {k97 : Nat → Int32 → Int32 → Int32 → Int32 → Int32 → vS → Option (Int64 × vS)} {a0 : Nat} {l2 l3 l4 l5 l6 l7 l8 : Int32} : J_X9_bound_242 N k97 a0 l2 l3 l4 l5 l6 s = k97 a0 l2 l3 l4 l5 (l6 + 1) s ∧ J_X9_bound_238 N k97 a0 l2 l3 l4 l5 l6 s = k97 a0 l2 l3 l4 l6 (l6 + 1) s ∧ J_X9_bound_187 N k97 a0 l2 l3 l4 l5 l6 l7 l8 s = k97 a0 l2 l3 l4 l6 (l6 + 1) s ∧ J_X9_bound_191 N k97 a0 l2 0 l4 l5 l6 l7 l8 s = k97 a0 l2 0 l4 l5 (l6 + 1) s := ⟨rfl, rfl, rfl, rfl⟩
theorem m_bd_s {k97 : Nat → Int32 → Int32 → Int32 → Int32 → Int32 → vS → Option (Int64 × vS)} {l2 l4 : Int32} {k b : Nat} (hN : 1000 ≤ N) (lo : Lows row) (hr : RowM m 13 row) (hw : w < 2) (hk : k < 29) (hb : b < 29) : J_X9_bound_142 N k97 322 l2 (nI w) l4 (nI b) (nI k) (nI (377 + k)) (nI (377 + b)) 0 (S m) = k97 322 l2 (nI w) l4 (nI (bnx N row w k b)) (nI (k + 1)) (S m) := by
  have rk := hr k hk
  have rb := hr b hb
  have k1 : rJ m 332 (377 + k) = (row k).1 := congrArg Prod.fst rk
  have k2 : rJ m 333 (377 + k) = (row k).2 := congrArg Prod.snd rk
  have b1 : rJ m 332 (377 + b) = (row b).1 := congrArg Prod.fst rb
  have b2' : rJ m 333 (377 + b) = (row b).2 := congrArg Prod.snd rb
  have bd := fun (l3 l5 l6 l7 l8 : Int32) => m_bd_lo (N := N) (s := S m) (k97 := k97) (a0 := 322) (l2 := l2) (l3 := l3) (l4 := l4) (l5 := l5) (l6 := l6) (l7 := l7) (l8 := l8)
  unfold J_X9_bound_142
  refine e_t rfl ?_
  rcases (show w = 0 ∨ w = 1 by omega) with rfl | rfl
  · refine e_t rfl ?_
    refine e_ldR fmO fmR11 ?_
    refine e_alJV fmA11 rfl (by omega) k1 ?_
    refine e_ldR fmO fmR12 ?_
    refine e_alJV fmA12 rfl (by omega) k2 ?_
    refine e_ldR fmO fmR11 ?_
    refine e_alJV fmA11 rfl (by omega) b1 ?_
    refine e_ldR fmO fmR12 ?_
    refine e_alJV fmA12 rfl (by omega) b2' ?_
    refine e_bnd (ls_c hN (lo k hk) (lo b hb) _).2 ?_
    by_cases z : lsV N (row k) (row b) = 0
    · refine e_t z ?_
      rw [show bnx N row 0 k b = b from if_pos z, ← addR]
      exact (bd 0 (nI b) (nI k) (nI (377 + k)) (nI (377 + b))).2.2.2
    · refine e_f z ?_
      rw [show bnx N row 0 k b = k from if_neg z, ← addR]
      exact (bd 0 (nI b) (nI k) (nI (377 + k)) (nI (377 + b))).2.2.1
  · refine e_f (by decide) ?_
    unfold J_X9_bound_191 J_X9_bound_192
    refine e_t rfl ?_
    refine e_t rfl ?_
    refine e_ldR fmO fmR11 ?_
    refine e_alJV fmA11 rfl (by omega) b1 ?_
    refine e_ldR fmO fmR12 ?_
    refine e_alJV fmA12 rfl (by omega) b2' ?_
    refine e_ldR fmO fmR11 ?_
    refine e_alJV fmA11 rfl (by omega) k1 ?_
    refine e_ldR fmO fmR12 ?_
    refine e_alJV fmA12 rfl (by omega) k2 ?_
    refine e_bnd (ls_c hN (lo b hb) (lo k hk) _).2 ?_
    by_cases z : lsV N (row b) (row k) = 0
    · refine e_t z ?_
      rw [show bnx N row 1 k b = b from if_pos z, ← addR]
      exact (bd 1 (nI b) (nI k) (nI (377 + k)) (nI (377 + b))).1
    · refine e_f z ?_
      rw [show bnx N row 1 k b = k from if_neg z, ← addR]
      exact (bd 1 (nI b) (nI k) (nI (377 + k)) (nI (377 + b))).2.1
theorem fsl : ∀ size, size < 5 → fs_ false size < fs_ false (size + 1) := by decide +kernel
section MB
variable {size : Nat} {p : Int32}
theorem m_bd_skip {x : Int32} (hT : Tab m) (hs : size < 5) {k n : Nat} (hk : k < 19) (hz : ¬ sz_ false k = size) : H_X9_bound_97 N (n + 1) 322 (nI size) (nI w) p x (nI k) (S m) = H_X9_bound_97 N n 322 (nI size) (nI w) p x (nI (k + 1)) (S m) := by
  have z := szc false k hk
  refine Eq.trans u_H_X9_bound_97 ?_
  refine e_f (by rw [leL (by decide) (by omega)]; show ¬ 19 ≤ k; omega) ?_
  refine e_nm ?_
  refine e_ldR fmO fmR0 ?_
  refine e_alIV fmA0 rfl (by omega) (tabF hT hk).1 ?_
  refine e_f (by rw [nI_eq (by omega) (by omega)]; exact hz) ?_
  rw [← addR]
  rfl
theorem m_bd_a (hT : Tab m) (hs : size < 5) : ∀ (d k n : Nat), k + d = fs_ false size → d ≤ n → H_X9_bound_97 N n 322 (nI size) (nI w) p (-1) (nI k) (S m) = H_X9_bound_97 N (n - d) 322 (nI size) (nI w) p (-1) (nI (fs_ false size)) (S m)
  | 0, k, n, hk, _ => by
    obtain rfl : k = fs_ false size := by omega
    rfl
  | d + 1, k, 0, _, h => by omega
  | d + 1, k, n + 1, hk, hd => by
    obtain ⟨f1, f2, f3, -⟩ := fs5 size hs
    rw [m_bd_skip hT hs (show k < 19 by omega) (fun w => by have := (f3 k (by omega)).mpr w; omega), m_bd_a hT hs d (k + 1) n (by omega) (by omega)]
    rw [show n + 1 - (d + 1) = n - d by omega]
theorem m_bd_c (hN : 1000 ≤ N) (hT : Tab m) (hs : size < 5) (lo : Lows row) (hr : RowM m 13 row) (hw : w < 2) : ∀ (d k n b : Nat), k + d = fs_ false (size + 1) → d ≤ n → fs_ false size ≤ k → b < 29 → H_X9_bound_97 N n 322 (nI size) (nI w) p (nI b) (nI k) (S m) = H_X9_bound_97 N (n - d) 322 (nI size) (nI w) p (nI (fld (bnx N row w) d k b)) (nI (fs_ false (size + 1))) (S m)
  | 0, k, n, b, hk, _, _, _ => by
    obtain rfl : k = fs_ false (size + 1) := by omega
    rfl
  | d + 1, k, 0, b, _, h, _, _ => by omega
  | d + 1, k, n + 1, b, hk, hd, hf, hb => by
    obtain ⟨f1, f2, f3, -⟩ := fs5 size hs
    have hz : sz_ false k = size := (f3 k (by omega)).mp ⟨hf, by omega⟩
    have ih := m_bd_c hN hT hs lo hr hw d (k + 1) n (bnx N row w k b) (by omega) (by omega) (by omega) (bnx_lt (by omega) hb)
    rw [show n + 1 - (d + 1) = n - d by omega]
    refine Eq.trans ?_ ih
    refine Eq.trans u_H_X9_bound_97 ?_
    refine e_f (by rw [leL (by decide) (by omega)]; show ¬ 19 ≤ k; omega) ?_
    refine e_nm ?_
    refine e_ldR fmO fmR0 ?_
    refine e_alIV fmA0 rfl (by omega) (tabF hT (show k < 19 by omega)).1 ?_
    refine e_t (by rw [hz]) ?_
    refine e_nm ?_
    refine e_f (by rw [show (-1 : Int32) = -1 from rfl]; exact fun y => absurd (y ▸ nI_pos (n := b) (by omega) : ¬ (-1 : Int32) < 0) (by decide)) ?_
    rw [ad377, ad377]
    exact m_bd_s hN lo hr hw (by omega) hb
theorem m_bd_d (hT : Tab m) (hs : size < 5) {b : Nat} : ∀ (d k n : Nat), k + d = 19 → d ≤ n → fs_ false (size + 1) ≤ k → H_X9_bound_97 N n 322 (nI size) (nI w) p (nI b) (nI k) (S m) = H_X9_bound_97 N (n - d) 322 (nI size) (nI w) p (nI b) (nI 19) (S m)
  | 0, k, n, hk, _, _ => by
    obtain rfl : k = 19 := by omega
    rfl
  | d + 1, k, 0, _, h, _ => by omega
  | d + 1, k, n + 1, hk, hd, hf => by
    obtain ⟨f1, f2, f3, -⟩ := fs5 size hs
    rw [m_bd_skip hT hs (show k < 19 by omega) (fun w => by have := (f3 k (by omega)).mpr w; omega), m_bd_d hT hs d (k + 1) n (by omega) (by omega) (by omega)]
    rw [show n + 1 - (d + 1) = n - d by omega]
def bst (N : Nat) (row : Row) (w size : Nat) : Nat := fld (bnx N row w) (fs_ false (size + 1) - (fs_ false size + 1)) (fs_ false size + 1) (fs_ false size)
theorem fld_bnx_lt {c : Nat} : ∀ (d k b : Nat), k + d ≤ c → b < c → fld (bnx N row w) d k b < c
  | 0, _, _, _, h => h
  | d + 1, k, b, h1, h2 => fld_bnx_lt d (k + 1) _ (by omega) (bnx_lt (by omega) h2)
theorem bst_lt (hs : size < 5) : bst N row w size < 19 := by
  obtain ⟨f1, f2, f3, -⟩ := fs5 size hs
  have := fsl size hs
  exact fld_bnx_lt _ _ _ (by omega) (by omega)
theorem m_bd (hN : 1000 ≤ N) (hT : Tab m) (hs : size < 5) (lo : Lows row) (hr : RowM m 13 row) (hw : w < 2) {y : Nat} (hy : y < 2) : H_X9_bound_97 N N 322 (nI size) (nI w) (nI y) (-1) 0 (S m) = some (if y = 0 then (row (bst N row w size)).1 else (row (bst N row w size)).2, S m) := by
  obtain ⟨f1, f2, f3, -⟩ := fs5 size hs
  have f0 := fsl size hs
  have hb := bst_lt (N := N) (row := row) (w := w) hs
  have hz : sz_ false (fs_ false size) = size := (f3 _ (by omega)).mp ⟨by omega, f0⟩
  refine Eq.trans (m_bd_a (k := 0) (n := N) hT hs (fs_ false size) (by omega) (by omega)) ?_
  obtain ⟨n1, hn1⟩ : ∃ n1, N - fs_ false size = n1 + 1 := ⟨N - fs_ false size - 1, by omega⟩
  rw [hn1]
  refine Eq.trans u_H_X9_bound_97 ?_
  refine e_f (by rw [leL (by decide) (by omega)]; show ¬ 19 ≤ fs_ false size; omega) ?_
  refine e_nm ?_
  refine e_ldR fmO fmR0 ?_
  refine e_alIV fmA0 rfl (by omega) (tabF hT (show fs_ false size < 19 by omega)).1 ?_
  refine e_t (by rw [hz]) ?_
  refine e_nm ?_
  refine e_t rfl ?_
  refine Eq.trans (show _ = H_X9_bound_97 N n1 322 (nI size) (nI w) (nI y) (nI (fs_ false size)) (nI (fs_ false size) + 1) (S m) from rfl) ?_
  rw [addR]
  refine Eq.trans (m_bd_c hN hT hs lo hr hw (fs_ false (size + 1) - (fs_ false size + 1)) _ n1 _ (by show fs_ false size + 1 + _ = _; omega) (by omega) (by show _ ≤ fs_ false size + 1; omega) (by omega)) ?_
  refine Eq.trans (m_bd_d hT hs (19 - fs_ false (size + 1)) _ _ (by omega) (by omega) (by omega)) ?_
  obtain ⟨n2, hn2⟩ : ∃ n2, n1 - (fs_ false (size + 1) - (fs_ false size + 1)) - (19 - fs_ false (size + 1)) = n2 + 1 := ⟨n1 - (fs_ false (size + 1) - (fs_ false size + 1)) - (19 - fs_ false (size + 1)) - 1, by omega⟩
  rw [hn2]
  have hB : fld (bnx N row w) (fs_ false (size + 1) - (fs_ false size + 1)) (fs_ false size + 1) (fs_ false size) = bst N row w size := rfl
  have rb := hr (bst N row w size) (by omega)
  refine Eq.trans u_H_X9_bound_97 ?_
  refine e_t (by decide) ?_
  rcases (show y = 0 ∨ y = 1 by omega) with rfl | rfl
  · refine e_t rfl ?_
    refine e_ldR fmO fmR11 ?_
    refine e_alJV fmA11 (j := 377 + bst N row w size) (by rw [ad377]; rfl) (by omega) (show rJ m 332 (377 + bst N row w size) = (row (bst N row w size)).1 from congrArg Prod.fst rb) ?_
    rfl
  · refine e_f (by decide) ?_
    refine e_ldR fmO fmR12 ?_
    refine e_alJV fmA12 (j := 377 + bst N row w size) (by rw [ad377]; rfl) (by omega) (show rJ m 333 (377 + bst N row w size) = (row (bst N row w size)).2 from congrArg Prod.snd rb) ?_
    rfl
end MB
end EXT
theorem call_bound (hN : 1000 ≤ N) (hR : Rel m) (x y w p : Int32) : SameJ (F_X8_bound N 0 x y w p) (F_X9_bound N 322 x y w p) m := by
  have hT := hR.1
  have no : (¬ ((0 : Int32) ≤ x ∧ x < nI 4) ∨ ¬ ((0 : Int32) ≤ y ∧ y < nI 5) ∨ ¬ ((0 : Int32) ≤ w ∧ w < nI 2) ∨ ¬ ((0 : Int32) ≤ p ∧ p < nI 2)) → SameJ (F_X8_bound N 0 x y w p) (F_X9_bound N 322 x y w p) m := by
    intro h
    refine SameJ.ro (-9223372036854775808) hR ?_ ?_
    · unfold F_X8_bound
      refine e_rcv fxO ?_
      by_cases h0 : (0 : Int32) ≤ x ∧ x < nI 4
      · refine g_y (c_isStore _) h0 ?_
        refine e_ldR fxO fxR0 ?_
        by_cases h1 : (0 : Int32) ≤ y ∧ y < nI 5
        · refine g_y (c_sizeR hT _) h1 ?_
          by_cases h2 : w < 0
          · exact e_t h2 rfl
          · refine e_f h2 ?_
            by_cases h3 : 1 < w
            · exact e_t h3 rfl
            · refine e_f h3 ?_
              have h23 : (0 : Int32) ≤ w ∧ w < nI 2 := (in_r w (n := 1) (by decide)).mp ⟨Int32.not_lt.mp h2, Int32.not_lt.mp h3⟩
              exact g_n (c_isPart _) (h.elim (fun v => absurd h0 v) (fun h => h.elim (fun v => absurd h1 v) (fun h => h.elim (fun v => absurd h23 v) id))) rfl
        · exact g_n (c_sizeR hT _) h1 rfl
      · exact g_n (c_isStore _) h0 rfl
    · unfold F_X9_bound
      refine e_rcv fmO ?_
      by_cases h0 : (0 : Int32) ≤ x ∧ x < nI 4
      · refine g_y (m_isStoreR _) h0 ?_
        by_cases h1 : (0 : Int32) ≤ y ∧ y < nI 5
        · refine g_y (m_inR (n := 4) _ (by decide)) h1 ?_
          by_cases h2 : (0 : Int32) ≤ w ∧ w < nI 2
          · refine g_y (m_inR (n := 1) _ (by decide)) h2 ?_
            exact g_n (m_inR (n := 1) _ (by decide)) (h.elim (fun v => absurd h0 v) (fun h => h.elim (fun v => absurd h1 v) (fun h => h.elim (fun v => absurd h2 v) id))) rfl
          · exact g_n (m_inR (n := 1) _ (by decide)) h2 rfl
        · exact g_n (m_inR (n := 4) _ (by decide)) h1 rfl
      · exact g_n (m_isStoreR _) h0 rfl
  rcases rng x (n := 4) (by decide) with ⟨st, hs, rfl⟩ | h
  · rcases rng y (n := 5) (by decide) with ⟨size, hz, rfl⟩ | h
    · rcases rng w (n := 2) (by decide) with ⟨w, hw, rfl⟩ | h
      · rcases rng p (n := 2) (by decide) with ⟨p, hp, rfl⟩ | h
        · have sa := sumS hs
          have fsd := fs5 size hz
          have tC0 : ∀ (v : Int32) R, rI m 290 st = v → (v = 0 ∨ v = 1) → (if v = 0 then (J_X8_bound_106 N (S m)) else (ldI (S m) (292 + 3 * st) 6 0 (fun v11 => if v11 = 2 then (J_X8_bound_106 N (S m)) else (ldR (S m) 0 8 2 (fun r12 => ldI (S m) (292 + 3 * st) 6 0 (fun v13 => bnd (F_X0_greatestSize N r12 (292 + 3 * st) v13 (S m)) (fun v14 s => if nI size < v14 then (J_X8_bound_106 N s) else (ldR s 0 8 2 (fun r15 => ldR s 0 8 6 (fun r16 => bnd (F_X0_raise N r15 (292 + 3 * st) (nI size) r16 s) (fun v17 s => if v17 = 0 then (J_X8_bound_106 N s) else (ldR s 0 8 6 (fun r18 => ldR s 0 8 0 (fun r19 => ldR s r19 1 6 (fun r20 => alI s r20 (nI size) (fun v21 => ldR s 0 8 0 (fun r22 => ldR s r22 1 6 (fun r23 => alI s r23 (nI size + 1) (fun v24 => if nI w = 1 then (J_X8_bound_144 N 0 (nI p) r18 v21 v24 1 s) else (J_X8_bound_144 N 0 (nI p) r18 v21 v24 0 s)))))))))))))))))))) = R → F_X8_bound N 0 (nI st) (nI size) (nI w) (nI p) (S m) = R := fun v R hv hv1 hR' => by
            unfold F_X8_bound
            refine e_rcv fxO ?_
            refine g_y (c_isStore _) (inr hs (by decide)) ?_
            refine e_ldR fxO fxR0 ?_
            refine g_y (c_sizeR hT _) (inr hz (by decide)) ?_
            refine e_f (nI_pos (by omega)) ?_
            refine e_f (by rw [ltL (by decide) (by omega)]; show ¬ 1 < w; omega) ?_
            refine g_y (c_isPart _) (inr hp (by decide)) ?_
            refine e_ldR fxO fxR8 ?_
            refine e_ldR fsO fsR1 ?_
            refine e_alR shA (by decide) rfl (by omega) (shR st hs) ?_
            refine e_ldR fxO fxR8 ?_
            refine e_ldR fsO fsR0 ?_
            rcases hv1 with rfl | rfl
            · exact e_alZV fsA0 rfl (by omega) hv hR'
            · exact e_alZV fsA0 rfl (by omega) hv hR'
          rcases hR.2.2.1 st hs with ⟨h1, h2, h3⟩ | ⟨k, o, h⟩
          · refine SameJ.ro (-9223372036854775808) hR (tC0 0 _ h1 (Or.inl rfl) (e_t rfl rfl)) ?_
            unfold F_X9_bound
            refine e_rcv fmO ?_
            refine g_y (m_isStoreR _) (inr hs (by decide)) ?_
            refine g_y (m_inR (n := 4) _ (by decide)) (inr hz (by decide)) ?_
            refine g_y (m_inR (n := 1) _ (by decide)) (inr hw (by decide)) ?_
            refine g_y (m_inR (n := 1) _ (by decide)) (inr hp (by decide)) ?_
            refine e_ldR fmO fmR9 ?_
            refine e_alZV fmA9 rfl (by omega) h2 ?_
            exact e_t rfl rfl
          · obtain ⟨h1, h2, h3, h4, h5, h6⟩ := id h
            have hk := h3.1
            have kk := kcs k hk k hk
            have tM0 : ∀ (m1 : vM) R, Fr (fun a _ => a < 322) m m1 → (if nI k = 1 then (J_X9_bound_63 N (S m1)) else (bnd (F_X9_greatest N 322 (nI st) (S m1)) (fun v9 s => if v9 ≤ nI size then (stZ s 322 9 25 (0) (fun s => bnd (F_X9_liftTo N 322 (nI st) (nI size) (13) s) (fun v10 s => ldI s 322 9 25 (fun v11 => if v11 = (0) then (H_X9_bound_97 N N 322 (nI size) (nI w) (nI p) (-1) (0) s) else (some ((-9223372036854775808 : Int64), s)))))) else (J_X9_bound_63 N s)))) = R → F_X9_bound N 322 (nI st) (nI size) (nI w) (nI p) (S m1) = R := fun m1 R f hR' => by
              obtain ⟨a1, a2, a3⟩ := h.keep f
              unfold F_X9_bound
              refine e_rcv fmO ?_
              refine g_y (m_isStoreR _) (inr hs (by decide)) ?_
              refine g_y (m_inR (n := 4) _ (by decide)) (inr hz (by decide)) ?_
              refine g_y (m_inR (n := 1) _ (by decide)) (inr hw (by decide)) ?_
              refine g_y (m_inR (n := 1) _ (by decide)) (inr hp (by decide)) ?_
              refine e_ldR fmO fmR9 ?_
              refine e_alZV fmA9 rfl (by omega) a1 ?_
              refine e_f (by decide) ?_
              refine e_ldR fmO fmR10 ?_
              refine e_alIV fmA10 rfl (by omega) a3 ?_
              exact hR'
            by_cases k1 : k = 1
            · refine SameJ.ro (-9223372036854775808) hR (tC0 1 _ h1 (Or.inr rfl) ?_) (tM0 m _ Fr.rf (e_t (by rw [k1]; rfl) rfl))
              refine e_f (by decide) ?_
              refine e_ldIV sa.1 h4.1 ?_
              exact e_t (kk.2.2.1.mpr k1) rfl
            · have hq : false = true ↔ k = 1 := ⟨fun v => absurd v (by decide), fun v => absurd v k1⟩
              have k1' : ¬ nI k = 1 := fun v => k1 (by
                rcases (show k = 0 ∨ k = 1 ∨ k = 2 by omega) with rfl | rfl | rfl
                · exact absurd v (by decide)
                · rfl
                · exact absurd v (by decide))
              have io : In false o := h3.inq (fun z => absurd z k1)
              have g5 := gr_5 (q := false) (o := o)
              have gg := gvs (gr false o) (by omega) size hz
              have cg := c_greatestSize (N := N) (by omega) (hq.trans kk.2.2.1.symm) sa hT h4.2
              by_cases hg : gr false o ≤ size + 1
              · have hs0 : ∀ f, f < 29 → (o f).1 ≠ 0 → sz_ false f ≤ size := fun f hf z => by have := gr_ge (io f hf z) z; omega
                obtain ⟨m1, r, c1, c2, c3⟩ := c_raise (N := N) (m := m) (q := false) (size := size) (by omega) sa sum283 apS ap283 hk hq h3.2.1 io hz hs0 hT h4
                have hR1 : Rel m1 := hR.fr c2 (fun a j hp hc => cm_npr hc hp)
                have f1 : Fr (fun a _ => a < 322) m m1 := c2.mo (fun _ _ => cm322)
                obtain ⟨a1, a2, a3⟩ := h.keep f1
                have f0 : Fr (moQ 13) m1 (wI m1 322 25 0) := Fr.rf.sI (Or.inl (Or.inl ⟨rfl, by omega⟩))
                obtain ⟨m3, g1, g2, g3, g4⟩ := m_liftTo (N := N) (m := wI m1 322 25 0) (q := false) (t := 13) (u := st) (size := size) hN hq hk (by omega) (by omega) (by omega) h3.2.1 io hs0 hz (hR1.1.fr (fun b j hb => f0 b j (moQ_tab hb))) (rI_s _ _ _ _) a2 (by rw [rI_n _ _ (by omega)]; exact a3)
                have hR3 : Rel m3 := hR1.fr (f0.tr g2) (fun a j hp hc => mo_npr hc hp)
                have tC1 : ∀ R, (if r = 0 then (J_X8_bound_106 N (S m1)) else (ldR (S m1) 0 8 6 (fun r18 => ldR (S m1) 0 8 0 (fun r19 => ldR (S m1) r19 1 6 (fun r20 => alI (S m1) r20 (nI size) (fun v21 => ldR (S m1) 0 8 0 (fun r22 => ldR (S m1) r22 1 6 (fun r23 => alI (S m1) r23 (nI size + 1) (fun v24 => if nI w = 1 then (J_X8_bound_144 N 0 (nI p) r18 v21 v24 1 (S m1)) else (J_X8_bound_144 N 0 (nI p) r18 v21 v24 0 (S m1))))))))))) = R → F_X8_bound N 0 (nI st) (nI size) (nI w) (nI p) (S m) = R := fun R hR' => by
                  refine tC0 1 _ h1 (Or.inr rfl) ?_
                  refine e_f (by decide) ?_
                  refine e_ldIV sa.1 h4.1 ?_
                  refine e_f (fun v => k1 (kk.2.2.1.mp v)) ?_
                  refine e_ldR fxO fxR2 ?_
                  refine e_ldIV sa.1 h4.1 ?_
                  refine e_bnd cg ?_
                  refine e_f (Int32.not_lt.mpr (gg.1.mpr hg)) ?_
                  refine e_ldR fxO fxR2 ?_
                  refine e_ldR fxO fxR6 ?_
                  refine e_bnd c1 ?_
                  exact hR'
                have tM1 : ∀ R, (if rI m3 322 25 = 0 then (H_X9_bound_97 N N 322 (nI size) (nI w) (nI p) (-1) 0 (S m3)) else (some ((-9223372036854775808 : Int64), S m3))) = R → F_X9_bound N 322 (nI st) (nI size) (nI w) (nI p) (S m1) = R := fun R hR' => by
                  refine tM0 m1 _ f1 ?_
                  refine e_f k1' ?_
                  refine e_bnd (m_greatest (by omega) hq hk (by omega) io hR1.1 a2 a3) ?_
                  refine e_t (gg.2.mpr hg) ?_
                  refine e_stZ fmO (Or.inl rfl) ?_
                  refine e_bnd g1 ?_
                  exact e_ldI fmO hR'
                cases hres : liftG false size o 29 with
                | none =>
                  rw [hres] at c3 g3
                  subst c3
                  refine ⟨-9223372036854775808, m1, m3, tC1 _ (e_t rfl rfl), tM1 _ ?_, hR3⟩
                  exact e_f (by rw [show rI m3 322 25 = 1 from g3.1]; decide) rfl
                | some row =>
                  rw [hres] at c3 g3
                  obtain ⟨rfl, c4, c5⟩ := c3
                  have b19 := bst_lt (N := N) (row := row) (w := w) hz
                  have rb := c4.2 (bst N row w size) (by omega)
                  have f0 := fsl size hz
                  have ce : F_X6_extremeOf N 283 (nI (fs_ false size)) (nI (fs_ false (size + 1))) (nI w) (S m1) = some (nI (bst N row w size), S m1) := by
                    unfold F_X6_extremeOf
                    refine e_rcv sum283.1 ?_
                    refine e_nm ?_
                    rw [addR]
                    exact c_ext_l (N := N) hN c5 c4.2 hw (by omega) _ _ N _ (by show fs_ false size + 1 + (fs_ false (size + 1) - (fs_ false size + 1)) = _; omega) (by omega) (by omega)
                  refine ⟨if p = 0 then (row (bst N row w size)).1 else (row (bst N row w size)).2, m1, m3, tC1 _ ?_, tM1 _ ?_, hR3⟩
                  · refine e_f (by decide) ?_
                    refine e_ldR fxO fxR6 ?_
                    refine e_ldR fxO fxR0 ?_
                    refine e_ldR ffO ffR6 ?_
                    refine e_alIV ffA6 rfl (by omega) (hR1.1.2.2.2.1 false size (by omega)) ?_
                    refine e_ldR fxO fxR0 ?_
                    refine e_ldR ffO ffR6 ?_
                    refine e_alIV ffA6 (show nI size + 1 = nI (size + 1) by rw [addR]) (by omega) (hR1.1.2.2.2.1 false (size + 1) (by omega)) ?_
                    have fin : ∀ R, R = some (if p = 0 then (row (bst N row w size)).1 else (row (bst N row w size)).2, S m1) → J_X8_bound_144 N 0 (nI p) 283 (nI (fs_ false size)) (nI (fs_ false (size + 1))) (nI w) (S m1) = R := fun R hR' => by
                      unfold J_X8_bound_144
                      refine e_bnd ce ?_
                      rcases (show p = 0 ∨ p = 1 by omega) with rfl | rfl
                      · refine e_t rfl ?_
                        refine e_ldR fxO fxR6 ?_
                        refine e_ldR sum283.1 sum283.2.1 ?_
                        refine e_alJV sum283.2.2.2.1 rfl (by omega) (show rJ m1 284 (bst N row w size) = (row (bst N row w size)).1 from congrArg Prod.fst rb) ?_
                        exact hR'.symm
                      · refine e_f (by decide) ?_
                        refine e_ldR fxO fxR6 ?_
                        refine e_ldR sum283.1 sum283.2.2.1 ?_
                        refine e_alJV sum283.2.2.2.2 rfl (by omega) (show rJ m1 285 (bst N row w size) = (row (bst N row w size)).2 from congrArg Prod.snd rb) ?_
                        exact hR'.symm
                    rcases (show w = 0 ∨ w = 1 by omega) with rfl | rfl
                    · exact e_f (by decide) (fin _ rfl)
                    · exact e_t rfl (fin _ rfl)
                  · refine e_t g3.1.1 ?_
                    exact m_bd hN hR3.1 hz c5 g3.1.2 hw hp
              · refine SameJ.ro (-9223372036854775808) hR (tC0 1 _ h1 (Or.inr rfl) ?_) (tM0 m _ Fr.rf ?_)
                · refine e_f (by decide) ?_
                  refine e_ldIV sa.1 h4.1 ?_
                  refine e_f (fun v => k1 (kk.2.2.1.mp v)) ?_
                  refine e_ldR fxO fxR2 ?_
                  refine e_ldIV sa.1 h4.1 ?_
                  refine e_bnd cg ?_
                  exact e_t (Int32.not_le.mp (fun v => hg (gg.1.mp v))) rfl
                · refine e_f k1' ?_
                  obtain ⟨a1, a2, a3⟩ := h.keep (m' := m) Fr.rf
                  refine e_bnd (m_greatest (by omega) hq hk (by omega) io hT a2 a3) ?_
                  exact e_f (fun v => hg (gg.2.mp v)) rfl
        · exact no (Or.inr (Or.inr (Or.inr h)))
      · exact no (Or.inr (Or.inr (Or.inl h)))
    · exact no (Or.inr (Or.inl h))
  · exact no (Or.inl h)
end BOUND
