section UROWS
theorem u_J_X1_renamed_51 {N : Nat} {k5 : Int32 → Int32 → Int32 → Int32 → Int32 → vS → Option (Int32 × vS)} {k14 : Int32 → Int32 → Int32 → Int32 → Int32 → Int32 → vS → Option (Int32 × vS)} {l0 : Int32} {l1 : Int32} {l2 : Int32} {l3 : Int32} {l4 : Int32} {l5 : Int32} {s : vS} : J_X1_renamed_51 N k5 k14 l0 l1 l2 l3 l4 l5 s = (nm (l5 + (1 : Int32)) (fun l5_7 => k14 l0 l1 l2 l3 l4 l5_7 s)) := rfl
theorem u_H_X1_renamed_14 {N : Nat} {k5 : Int32 → Int32 → Int32 → Int32 → Int32 → vS → Option (Int32 × vS)} {n : Nat} {l0 : Int32} {l1 : Int32} {l2 : Int32} {l3 : Int32} {l4 : Int32} {l5 : Int32} {s : vS} : H_X1_renamed_14 N k5 (n + 1) l0 l1 l2 l3 l4 l5 s = (if l4 ≤ l5 then (nm (l4 + (1 : Int32)) (fun l4_1 => k5 l0 l1 l2 l3 l4_1 s)) else (bnd (F_X1_bitOf N l5 l4 s) (fun v2 s => if (l1 &&& v2) = (0 : Int32) then (J_X1_renamed_51 N k5 (H_X1_renamed_14 N k5 n) l0 l1 l2 l3 l4 l5 s) else (bnd (F_X1_newName N l2 l5 s) (fun v3 s => bnd (F_X1_newName N l2 l4 s) (fun v4 s => bnd (F_X1_bitOf N v3 v4 s) (fun v5 s => nm ((l3 ||| v5)) (fun l3_6 => J_X1_renamed_51 N k5 (H_X1_renamed_14 N k5 n) l0 l1 l2 l3_6 l4 l5 s)))))))) := rfl
theorem u_H_X1_renamed_5 {N : Nat} {n : Nat} {l0 : Int32} {l1 : Int32} {l2 : Int32} {l3 : Int32} {l4 : Int32} {s : vS} : H_X1_renamed_5 N (n + 1) l0 l1 l2 l3 l4 s = (if l0 ≤ l4 then (some (l3, s)) else (H_X1_renamed_14 N (H_X1_renamed_5 N n) N l0 l1 l2 l3 l4 (0 : Int32) s)) := rfl
theorem u_F_X1_renamed {N : Nat} {l0 : Int32} {l1 : Int32} {l2 : Int32} {s : vS} : F_X1_renamed N l0 l1 l2 s = (H_X1_renamed_5 N N l0 l1 l2 (0 : Int32) (1 : Int32) s) := rfl
theorem u_J_X1_suits_44 {N : Nat} {k0 : Int32} {s : vS} : J_X1_suits_44 N k0 s = (rtZ k0 s) := rfl
theorem u_J_X1_suits_39 {N : Nat} {s : vS} : J_X1_suits_39 N s = (J_X1_suits_44 N (1 : Int32) s) := rfl
theorem u_H_X1_suits_2 {N : Nat} {n : Nat} {a0 : Nat} {l1 : Int32} {l3 : Int32} {s : vS} : H_X1_suits_2 N (n + 1) a0 l1 l3 s = (if (4 : Int32) ≤ l3 then (ldI s a0 1 0 (fun v1 => if v1 = (0 : Int32) then (J_X1_suits_39 N  s) else (bnd (F_X1_newName N l1 (0 : Int32) s) (fun v2 s => if v2 = (0 : Int32) then (J_X1_suits_39 N  s) else (J_X1_suits_44 N (0 : Int32) s))))) else (bnd (F_X1_newName N l1 l3 s) (fun v3 s => if v3 = l3 then (nm (l3 + (1 : Int32)) (fun l3_4 => H_X1_suits_2 N n a0 l1 l3_4 s)) else (rtZ (0 : Int32) s)))) := rfl
theorem u_F_X1_suits {N : Nat} {a0 : Nat} {l1 : Int32} {l2 : Int32} {s : vS} : F_X1_suits N a0 l1 l2 s = (rcv s a0 1 (H_X1_suits_2 N N a0 l1 l2 s)) := rfl
theorem u_J_X1_symmetriesOf_71 {N : Nat} {k14 : Nat → Int32 → Int32 → Nat → Int32 → Int32 → vS → Option (Int32 × vS)} {a0 : Nat} {l1 : Int32} {l2 : Int32} {a3 : Nat} {l4 : Int32} {l5 : Int32} {s : vS} : J_X1_symmetriesOf_71 N k14 a0 l1 l2 a3 l4 l5 s = (nm (l5 + (1 : Int32)) (fun l5_15 => k14 a0 l1 l2 a3 l4 l5_15 s)) := rfl
theorem u_H_X1_symmetriesOf_14 {N : Nat} {n : Nat} {a0 : Nat} {l1 : Int32} {l2 : Int32} {a3 : Nat} {l4 : Int32} {l5 : Int32} {s : vS} : H_X1_symmetriesOf_14 N (n + 1) a0 l1 l2 a3 l4 l5 s = (if l4 ≤ l5 then (some (l2, s)) else (alI s a3 l5 (fun v3 => ldR s a0 1 3 (fun r4 => alI s r4 l1 (fun v5 => bnd (F_X1_suits N a0 v3 v5 s) (fun v6 s => if v6 = (0 : Int32) then (J_X1_symmetriesOf_71 N (H_X1_symmetriesOf_14 N n) a0 l1 l2 a3 l4 l5 s) else (ldR s a0 1 3 (fun r7 => alI s r7 l1 (fun v8 => ldR s a0 1 4 (fun r9 => alI s r9 l1 (fun v10 => bnd (F_X1_renamed N v8 v10 v3 s) (fun v11 s => ldR s a0 1 4 (fun r12 => alI s r12 l1 (fun v13 => if v11 = v13 then (nm (l2 + (1 : Int32)) (fun l2_14 => J_X1_symmetriesOf_71 N (H_X1_symmetriesOf_14 N n) a0 l1 l2_14 a3 l4 l5 s)) else (J_X1_symmetriesOf_71 N (H_X1_symmetriesOf_14 N n) a0 l1 l2 a3 l4 l5 s))))))))))))))) := rfl
theorem u_F_X1_symmetriesOf {N : Nat} {a0 : Nat} {l1 : Int32} {s : vS} : F_X1_symmetriesOf N a0 l1 s = (rcv s a0 1 (ldR s a0 1 9 (fun r1 => aln s r1 (fun v2 => H_X1_symmetriesOf_14 N N a0 l1 (0 : Int32) r1 v2 (0 : Int32) s)))) := rfl
theorem u_J_X9_isRenaming_82 {N : Nat} {k0 : Int32} {s : vS} : J_X9_isRenaming_82 N k0 s = (rtZ k0 s) := rfl
theorem u_J_X9_isRenaming_81 {N : Nat} {s : vS} : J_X9_isRenaming_81 N s = (J_X9_isRenaming_82 N (0 : Int32) s) := rfl
theorem u_J_X9_isRenaming_50 {N : Nat} {k8 : Nat → Int32 → Int32 → Int32 → Int32 → vS → Option (Int32 × vS)} {a0 : Nat} {l2 : Int32} {l3 : Int32} {l5 : Int32} {k0 : Int32} {k1 : Int32} {s : vS} : J_X9_isRenaming_50 N k8 a0 l2 l3 l5 k0 k1 s = (nm ((k0 ||| k1)) (fun l4_6 => nzI (4 : Int32) (nm ((l3 / (4 : Int32))) (fun l3_7 => nm (l5 + (1 : Int32)) (fun l5_8 => k8 a0 l2 l3_7 l4_6 l5_8 s))))) := rfl
theorem u_H_X9_isRenaming_8 {N : Nat} {n : Nat} {a0 : Nat} {l2 : Int32} {l3 : Int32} {l4 : Int32} {l5 : Int32} {s : vS} : H_X9_isRenaming_8 N (n + 1) a0 l2 l3 l4 l5 s = (if l2 ≤ l5 then (if l3 = (0 : Int32) then (if l4 = (((1 : Int32) <<< (l2 &&& 31)) - (1 : Int32)) then (J_X9_isRenaming_82 N (1 : Int32) s) else (J_X9_isRenaming_81 N  s)) else (J_X9_isRenaming_81 N  s)) else (ldR s a0 9 4 (fun r1 => nzI (4 : Int32) (asI s r1 l5 (l3 - l3 / (4 : Int32) * (4 : Int32)) (fun s => ldR s a0 9 4 (fun r2 => alI s r2 l5 (fun v3 => if l2 ≤ v3 then (J_X9_isRenaming_50 N (H_X9_isRenaming_8 N n) a0 l2 l3 l5 l4 (0 : Int32) s) else (ldR s a0 9 4 (fun r4 => alI s r4 l5 (fun v5 => J_X9_isRenaming_50 N (H_X9_isRenaming_8 N n) a0 l2 l3 l5 l4 ((1 : Int32) <<< (v5 &&& 31)) s)))))))))) := rfl
theorem u_F_X9_isRenaming {N : Nat} {a0 : Nat} {l1 : Int32} {l2 : Int32} {s : vS} : F_X9_isRenaming N a0 l1 l2 s = (rcv s a0 9 (H_X9_isRenaming_8 N N a0 l2 l1 (0 : Int32) (0 : Int32) s)) := rfl
theorem u_J_X9_renamedCode_60 {N : Nat} {k5 : Nat → Int32 → Int32 → Int32 → Int32 → vS → Option (Int32 × vS)} {k14 : Nat → Int32 → Int32 → Int32 → Int32 → Int32 → vS → Option (Int32 × vS)} {a0 : Nat} {l1 : Int32} {l2 : Int32} {l4 : Int32} {l5 : Int32} {k0 : Int32} {k1 : Int32} {s : vS} : J_X9_renamedCode_60 N k5 k14 a0 l1 l2 l4 l5 k0 k1 s = (nm ((k0 ||| k1)) (fun l3_8 => nm (l5 + (1 : Int32)) (fun l5_9 => k14 a0 l1 l2 l3_8 l4 l5_9 s))) := rfl
theorem u_H_X9_renamedCode_14 {N : Nat} {k5 : Nat → Int32 → Int32 → Int32 → Int32 → vS → Option (Int32 × vS)} {n : Nat} {a0 : Nat} {l1 : Int32} {l2 : Int32} {l3 : Int32} {l4 : Int32} {l5 : Int32} {s : vS} : H_X9_renamedCode_14 N k5 (n + 1) a0 l1 l2 l3 l4 l5 s = (if l4 ≤ l5 then (nm (l4 + (1 : Int32)) (fun l4_1 => k5 a0 l1 l2 l3 l4_1 s)) else (bnd (F_X9_bit N l5 l4 s) (fun v2 s => if ((l1 >>> (v2 &&& 31)) &&& (1 : Int32)) = (1 : Int32) then (ldR s a0 9 4 (fun r3 => alI s r3 l5 (fun v4 => ldR s a0 9 4 (fun r5 => alI s r5 l4 (fun v6 => bnd (F_X9_bit N v4 v6 s) (fun v7 s => J_X9_renamedCode_60 N k5 (H_X9_renamedCode_14 N k5 n) a0 l1 l2 l4 l5 l3 ((1 : Int32) <<< (v7 &&& 31)) s)))))) else (J_X9_renamedCode_60 N k5 (H_X9_renamedCode_14 N k5 n) a0 l1 l2 l4 l5 l3 (0 : Int32) s)))) := rfl
theorem u_H_X9_renamedCode_5 {N : Nat} {n : Nat} {a0 : Nat} {l1 : Int32} {l2 : Int32} {l3 : Int32} {l4 : Int32} {s : vS} : H_X9_renamedCode_5 N (n + 1) a0 l1 l2 l3 l4 s = (if l2 ≤ l4 then (some (l3, s)) else (H_X9_renamedCode_14 N (H_X9_renamedCode_5 N n) N a0 l1 l2 l3 l4 (0 : Int32) s)) := rfl
theorem u_F_X9_renamedCode {N : Nat} {a0 : Nat} {l1 : Int32} {l2 : Int32} {s : vS} : F_X9_renamedCode N a0 l1 l2 s = (rcv s a0 9 (H_X9_renamedCode_5 N N a0 l1 l2 (0 : Int32) (1 : Int32) s)) := rfl
theorem u_J_X9_flag_142 {N : Nat} {k97 : Nat → Int32 → Int32 → Int32 → Int32 → vS → Option (Int32 × vS)} {a0 : Nat} {l1 : Int32} {l3 : Int32} {l5 : Int32} {k0 : Int32} {k1 : Int32} {s : vS} : J_X9_flag_142 N k97 a0 l1 l3 l5 k0 k1 s = (nm ((k0 + k1)) (fun l4_21 => nm (l5 + (1 : Int32)) (fun l5_22 => k97 a0 l1 l3 l4_21 l5_22 s))) := rfl
theorem u_J_X9_flag_141 {N : Nat} {k97 : Nat → Int32 → Int32 → Int32 → Int32 → vS → Option (Int32 × vS)} {a0 : Nat} {l1 : Int32} {l3 : Int32} {l5 : Int32} {k0 : Int32} {s : vS} : J_X9_flag_141 N k97 a0 l1 l3 l5 k0 s = (J_X9_flag_142 N k97 a0 l1 l3 l5 k0 (0 : Int32) s) := rfl
theorem u_H_X9_flag_97 {N : Nat} {n : Nat} {a0 : Nat} {l1 : Int32} {l3 : Int32} {l4 : Int32} {l5 : Int32} {s : vS} : H_X9_flag_97 N (n + 1) a0 l1 l3 l4 l5 s = (if (256 : Int32) ≤ l5 then (some (l4, s)) else (bnd (F_X9_isRenaming N a0 l5 l3 s) (fun v15 s => if v15 = (0 : Int32) then (J_X9_flag_141 N (H_X9_flag_97 N n) a0 l1 l3 l5 l4 s) else (ldR s a0 9 1 (fun r16 => alI s r16 l1 (fun v17 => bnd (F_X9_renamedCode N a0 v17 l3 s) (fun v18 s => ldR s a0 9 1 (fun r19 => alI s r19 l1 (fun v20 => if v18 = v20 then (J_X9_flag_142 N (H_X9_flag_97 N n) a0 l1 l3 l5 l4 (1 : Int32) s) else (J_X9_flag_141 N (H_X9_flag_97 N n) a0 l1 l3 l5 l4 s)))))))))) := rfl
theorem u_J_X9_flag_61 {N : Nat} {k0 : Int32} {s : vS} : J_X9_flag_61 N k0 s = (some (k0, s)) := rfl
theorem u_J_X9_flag_16 {N : Nat} {s : vS} : J_X9_flag_16 N s = (some ((-1 : Int32), s)) := rfl
theorem u_F_X9_flag {N : Nat} {a0 : Nat} {l1 : Int32} {l2 : Int32} {s : vS} : F_X9_flag N a0 l1 l2 s = (rcv s a0 9 (bnd (F_X9_isFlag N l1 s) (fun v1 s => if v1 = (0 : Int32) then (J_X9_flag_16 N  s) else (bnd (F_X9_in N l2 (0 : Int32) (4 : Int32) s) (fun v2 s => if v2 = (0 : Int32) then (J_X9_flag_16 N  s) else (ldR s a0 9 0 (fun r3 => alI s r3 l1 (fun v4 => if (3 : Int32) ≤ l2 then (if l2 = (4 : Int32) then (ldR s a0 9 2 (fun r5 => bnd (F_X9_codes N v4 s) (fun v6 s => ldR s a0 9 1 (fun r7 => alI s r7 l1 (fun v8 => alI s r5 (((((64 : Int32) * v4) + v6) - (1 : Int32)) - v8) (fun v9 => some (v9, s))))))) else (H_X9_flag_97 N N a0 l1 v4 (0 : Int32) (0 : Int32) s)) else (if l2 = (0 : Int32) then (J_X9_flag_61 N v4 s) else (if l2 = (1 : Int32) then (ldR s a0 9 1 (fun r13 => alI s r13 l1 (fun v14 => J_X9_flag_61 N v14 s))) else (ldR s a0 9 1 (fun r10 => alI s r10 l1 (fun v11 => bnd (F_X9_ones N v11 s) (fun v12 s => J_X9_flag_61 N v12 s)))))))))))))) := rfl
end UROWS
section FLAG
variable {N : Nat} {m m' : vM} {s : vS}
theorem e_aln {ρ : Type} {a : Nat} {f : Int32 → Option ρ} {R : Option ρ} (h : (decide (a < 354) && ((SHf a).1 != 0)) = true) (he : f (Int32.ofNat (SHf a).2) = R) : aln (S m) a f = R := by
  rw [Bool.and_eq_true, decide_eq_true_iff, bne_iff_ne] at h
  exact (if_pos h).trans he
def dg (x i : Nat) : Nat := x / 4 ^ i % 4
theorem dg_lt (x i : Nat) : dg x i < 4 := Nat.mod_lt _ (by decide)
theorem nn_dg : ∀ x, x < 256 → ∀ i, i < 4 → (nI x >>> (2 * nI i &&& 31)) &&& 3 = nI (dg x i) := by decide +kernel
theorem c_newName {x i : Nat} (hx : x < 256) (hi : i < 4) : F_X1_newName N (nI x) (nI i) s = some (nI (dg x i), s) := by
  unfold F_X1_newName
  rw [nn_dg x hx i hi]
theorem and_bt : ∀ x, x < 64 → ∀ b, b < 8 → ((nI x &&& nI (2 ^ b) = 0) ↔ bt x b = 0) := by decide +kernel
theorem bx8 : ∀ i, i < 4 → ∀ j, j < 4 → bx i j < 8 := by decide +kernel
theorem or8 {x b : Nat} (hx : x < 256) (hb : b < 8) : x ||| 2 ^ b < 256 := by
  have h : (2 : Nat) ^ b < 2 ^ 8 := Nat.pow_lt_pow_right (by decide) hb
  exact Nat.or_lt_two_pow (n := 8) hx h
def rq (code : Nat) (nm : Nat → Nat) (p q x : Nat) : Nat := if bt code (bx q p) = 1 then x ||| 2 ^ bx (nm q) (nm p) else x
def rp (code : Nat) (nm : Nat → Nat) (p x : Nat) : Nat := fld (rq code nm p) p 0 x
def rnC (size code : Nat) (nm : Nat → Nat) : Nat := fld (rp code nm) (size - 1) 1 0
theorem rq_lt {code : Nat} {nm : Nat → Nat} {p q x : Nat} (h : ∀ i, i < 4 → nm i < 4) (hp : p < 4) (hq : q < 4) (hx : x < 256) : rq code nm p q x < 256 := by
  unfold rq
  split
  · exact or8 hx (bx8 _ (h q hq) _ (h p hp))
  · exact hx
theorem rqs_lt {code : Nat} {nm : Nat → Nat} {p : Nat} (h : ∀ i, i < 4 → nm i < 4) (hp : p < 4) : ∀ (d q x : Nat), q + d ≤ 4 → x < 256 → fld (rq code nm p) d q x < 256
  | 0, _, _, _, hx => hx
  | d + 1, q, x, hq, hx => rqs_lt h hp d (q + 1) _ (by omega) (rq_lt h hp (by omega) hx)
section CLS
variable {size code ren : Nat}
theorem c_ren_i {k5 : Int32 → Int32 → Int32 → Int32 → Int32 → vS → Option (Int32 × vS)} {p : Nat} (hc : code < 64) (hr : ren < 256) (hp : p < 4) : ∀ (d q n x : Nat), q + d = p → d < n → x < 256 → H_X1_renamed_14 N k5 n (nI size) (nI code) (nI ren) (nI x) (nI p) (nI q) s = k5 (nI size) (nI code) (nI ren) (nI (fld (rq code (dg ren) p) d q x)) (nI (p + 1)) s
  | _, _, 0, _, _, h, _ => by omega
  | 0, q, n + 1, x, hq, _, hx => by
    refine Eq.trans u_H_X1_renamed_14 ?_
    refine e_t (by rw [nI_leI (by omega) (by omega)]; omega) ?_
    refine e_nm ?_
    rw [addR]
    rfl
  | d + 1, q, n + 1, x, hq, hd, hx => by
    have ih := c_ren_i (k5 := k5) hc hr hp d (q + 1) n (rq code (dg ren) p q x) (by omega) (by omega) (rq_lt (fun i _ => dg_lt ren i) hp (by omega) hx)
    have hb := bx8 q (by omega) p hp
    have hb2 := bx8 (dg ren q) (dg_lt _ _) (dg ren p) (dg_lt _ _)
    have h2 : (2 : Nat) ^ bx (dg ren q) (dg ren p) ≤ 2 ^ 8 := Nat.pow_le_pow_right (by decide) (by omega)
    have d1 := dg_lt ren q
    have d2 := dg_lt ren p
    refine Eq.trans u_H_X1_renamed_14 ?_
    refine e_f (by rw [nI_leI (by omega) (by omega)]; omega) ?_
    refine e_bnd (c_bitOf (show q < 8 by omega) (show p < 8 by omega)) ?_
    by_cases z : bt code (bx q p) = 1
    · refine e_f (by rw [and_bt code hc _ hb]; omega) ?_
      refine e_bnd (c_newName hr (show q < 4 by omega)) ?_
      refine e_bnd (c_newName hr hp) ?_
      refine e_bnd (c_bitOf (by omega) (by omega)) ?_
      refine e_nm ?_
      refine e_nm ?_
      rw [addR, nI_or (by omega) (by omega)]
      unfold rq at ih
      rw [if_pos z] at ih
      exact ih.trans (by
        conv => rhs; rw [fld, rq, if_pos z]
        rfl)
    · have z0 : bt code (bx q p) = 0 := (bt_01 _ _).elim id (fun w => absurd w z)
      refine e_t (by rw [and_bt code hc _ hb]; exact z0) ?_
      refine e_nm ?_
      rw [addR]
      unfold rq at ih
      rw [if_neg z] at ih
      exact ih.trans (by
        conv => rhs; rw [fld, rq, if_neg z]
        rfl)
theorem c_ren_l (hN : 100 ≤ N) (hs : size < 5) (hc : code < 64) (hr : ren < 256) : ∀ (d p n x : Nat), p + d = size → d < n → x < 256 → H_X1_renamed_5 N n (nI size) (nI code) (nI ren) (nI x) (nI p) s = some (nI (fld (rp code (dg ren)) d p x), s)
  | _, _, 0, _, _, h, _ => by omega
  | 0, p, n + 1, x, hp, _, _ => by
    refine Eq.trans u_H_X1_renamed_5 ?_
    exact e_t (by rw [nI_leI (by omega) (by omega)]; omega) rfl
  | d + 1, p, n + 1, x, hp, hd, hx => by
    refine Eq.trans u_H_X1_renamed_5 ?_
    refine e_f (by rw [nI_leI (by omega) (by omega)]; omega) ?_
    refine Eq.trans (c_ren_i (N := N) hc hr (show p < 4 by omega) p 0 N x (by omega) (by omega) hx) ?_
    exact c_ren_l hN hs hc hr d (p + 1) n (rp code (dg ren) p x) (by omega) (by omega) (rqs_lt (fun i _ => dg_lt ren i) (by omega) p 0 x (by omega) hx)
theorem c_renamed (hN : 100 ≤ N) (hs : size < 5) (hc : code < 64) (hr : ren < 256) : F_X1_renamed N (nI size) (nI code) (nI ren) s = some (nI (rnC size code (dg ren)), s) := by
  unfold F_X1_renamed
  by_cases z : size = 0
  · subst z
    obtain ⟨N', rfl⟩ : ∃ N', N = N' + 1 := ⟨N - 1, by omega⟩
    refine Eq.trans u_H_X1_renamed_5 ?_
    exact e_t (by decide) rfl
  · exact c_ren_l (N := N) hN hs hc hr (size - 1) 1 N 0 (by omega) (by omega) (by omega)
def suF (ren : Nat) : Nat → Nat → Bool
  | 0, _ => true
  | d + 1, i => dg ren i == i && suF ren d (i + 1)
theorem c_suits_l (hT : Tab m) (hr : ren < 256) : ∀ (d i n : Nat), i + d = 4 → d < n → H_X1_suits_2 N n 1 (nI ren) (nI i) (S m) = some (b2 (suF ren d i = true), S m)
  | _, _, 0, _, h => by omega
  | 0, i, n + 1, hi, _ => by
    refine Eq.trans u_H_X1_suits_2 ?_
    refine e_t (by rw [leL (by decide) (by omega)]; show 4 ≤ i; omega) ?_
    refine e_ldIV ffO (hT.1 false).1 ?_
    exact e_t rfl rfl
  | d + 1, i, n + 1, hi, hd => by
    have hd4 := dg_lt ren i
    refine Eq.trans u_H_X1_suits_2 ?_
    refine e_f (by rw [leL (by decide) (by omega)]; show ¬ 4 ≤ i; omega) ?_
    refine e_bnd (c_newName hr (show i < 4 by omega)) ?_
    by_cases z : dg ren i = i
    · refine e_t (by rw [z]) ?_
      refine e_nm ?_
      rw [addR, c_suits_l hT hr d (i + 1) n (by omega) (by omega)]
      rw [suF, z, beq_self_eq_true, Bool.true_and]
    · refine e_f (by rw [nI_eq (by omega) (by omega)]; exact z) ?_
      rw [b2_f (show ¬ suF ren (d + 1) i = true from fun w => z (eq_of_beq (Bool.and_eq_true _ _ ▸ w : dg ren i == i ∧ suF ren d (i + 1) = true).1))]
      rfl
abbrev Sy (k j : Nat) : Prop := suF (reL.getD j 0) (4 - sz_ false k) (sz_ false k) = true ∧ rnC (sz_ false k) (cd_ false k) (dg (reL.getD j 0)) = cd_ false k
theorem re256 : ∀ j, j < 24 → reL.getD j 0 < 256 := by decide
theorem rn256 : ∀ k, k < 19 → ∀ j, j < 256 → rnC (sz_ false k) (cd_ false k) (dg j) < 256 := by decide +kernel
theorem c_sym_l {k : Nat} (hN : 100 ≤ N) (hT : Tab m) (hk : k < 19) : ∀ (d j n : Nat), j + d = 24 → d < n → H_X1_symmetriesOf_14 N n 1 (nI k) (nI (cnt (Sy k) j)) 9 24 (nI j) (S m) = some (nI (cnt (Sy k) 24), S m)
  | _, _, 0, _, h => by omega
  | 0, j, n + 1, hj, _ => by
    obtain rfl : j = 24 := by omega
    refine Eq.trans u_H_X1_symmetriesOf_14 ?_
    exact e_t (by decide) rfl
  | d + 1, j, n + 1, hj, hd => by
    have ih := c_sym_l hN hT hk d (j + 1) n (by omega) (by omega)
    have hz := szc false k hk
    have hr := re256 j (by omega)
    have t := hT.2.1 false k hk
    have t1 : rI m 10 k = nI (sz_ false k) := t.1
    have t2 : rI m 11 k = nI (cd_ false k) := t.2.1
    have hrn := rn256 k hk _ hr
    rw [cnt] at ih
    refine Eq.trans u_H_X1_symmetriesOf_14 ?_
    refine e_f (by rw [leL (by decide) (by omega)]; show ¬ 24 ≤ j; omega) ?_
    refine e_alIV ffA9 rfl (by omega) (show rI m 9 j = _ from hT.2.2.2.2.2.1 false j (by omega)) ?_
    refine e_ldR ffO ffR3 ?_
    refine e_alIV ffA3 rfl (by omega) t1 ?_
    refine e_bnd (r := b2 (suF (reL.getD j 0) (4 - sz_ false k) (sz_ false k) = true)) (s' := S m) ?_ ?_
    · unfold F_X1_suits
      refine e_rcv ffO ?_
      exact c_suits_l (N := N) hT hr (4 - sz_ false k) (sz_ false k) N (by omega) (by omega)
    · by_cases z1 : suF (reL.getD j 0) (4 - sz_ false k) (sz_ false k) = true
      · refine e_f (by rw [b2_t z1]; decide) ?_
        refine e_ldR ffO ffR3 ?_
        refine e_alIV ffA3 rfl (by omega) t1 ?_
        refine e_ldR ffO ffR4 ?_
        refine e_alIV ffA4 rfl (by omega) t2 ?_
        refine e_bnd (c_renamed hN (by omega) (by omega) hr) ?_
        refine e_ldR ffO ffR4 ?_
        refine e_alIV ffA4 rfl (by omega) t2 ?_
        by_cases z2 : rnC (sz_ false k) (cd_ false k) (dg (reL.getD j 0)) = cd_ false k
        · refine e_t (by rw [z2]) ?_
          refine e_nm ?_
          refine e_nm ?_
          rw [addR, addR]
          rw [if_pos (show Sy k j from ⟨z1, z2⟩)] at ih
          exact ih
        · refine e_f (by rw [nI_eq (by omega) (by omega)]; exact z2) ?_
          refine e_nm ?_
          rw [addR]
          rw [if_neg (show ¬ Sy k j from fun w => z2 w.2)] at ih
          exact ih
      · refine e_t (by rw [b2_f z1]) ?_
        refine e_nm ?_
        rw [addR]
        rw [if_neg (show ¬ Sy k j from fun w => z1 w.1)] at ih
        exact ih
end CLS
section MDL
variable {size code : Nat} {nm' : Nat → Nat}
theorem m_ren_i {k5 : Nat → Int32 → Int32 → Int32 → Int32 → vS → Option (Int32 × vS)} {p : Nat} (hc : code < 64) (hs : size < 5) (hn : ∀ i, i < size → rI m 327 i = nI (nm' i)) (h4 : ∀ i, i < 4 → nm' i < 4) (hp : p < size) : ∀ (d q n x : Nat), q + d = p → d < n → x < 256 → H_X9_renamedCode_14 N k5 n 322 (nI code) (nI size) (nI x) (nI p) (nI q) (S m) = k5 322 (nI code) (nI size) (nI (fld (rq code nm' p) d q x)) (nI (p + 1)) (S m)
  | _, _, 0, _, _, h, _ => by omega
  | 0, q, n + 1, x, hq, _, hx => by
    refine Eq.trans u_H_X9_renamedCode_14 ?_
    refine e_t (by rw [nI_leI (by omega) (by omega)]; omega) ?_
    refine e_nm ?_
    rw [addR]
    rfl
  | d + 1, q, n + 1, x, hq, hd, hx => by
    have ih := m_ren_i (k5 := k5) hc hs hn h4 hp d (q + 1) n (rq code nm' p q x) (by omega) (by omega) (rq_lt h4 (by omega) (by omega) hx)
    have hb := bx8 q (by omega) p (by omega)
    have d1 := h4 q (by omega)
    have d2 := h4 p (by omega)
    have hb2 := bx8 (nm' q) d1 (nm' p) d2
    have h2 : (2 : Nat) ^ bx (nm' q) (nm' p) ≤ 2 ^ 8 := Nat.pow_le_pow_right (by decide) (by omega)
    refine Eq.trans u_H_X9_renamedCode_14 ?_
    refine e_f (by rw [nI_leI (by omega) (by omega)]; omega) ?_
    refine e_bnd (m_bit (show q < 8 by omega) (show p < 8 by omega)) ?_
    rw [shr_and (by omega) (by omega)]
    by_cases z : bt code (bx q p) = 1
    · refine e_t (by rw [z]; rfl) ?_
      refine e_ldR fmO fmR4 ?_
      refine e_alIV fmA4 rfl (by omega) (hn q (by omega)) ?_
      refine e_ldR fmO fmR4 ?_
      refine e_alIV fmA4 rfl (by omega) (hn p hp) ?_
      refine e_bnd (m_bit (by omega) (by omega)) ?_
      refine e_nm ?_
      refine e_nm ?_
      rw [addR, shl1 _ (by omega), nI_or (by omega) (by omega)]
      unfold rq at ih
      rw [if_pos z] at ih
      exact ih.trans (by
        conv => rhs; rw [fld, rq, if_pos z]
        rfl)
    · have z0 : bt code (bx q p) = 0 := (bt_01 _ _).elim id (fun w => absurd w z)
      refine e_f (by rw [z0]; decide) ?_
      refine e_nm ?_
      refine e_nm ?_
      rw [addR, show nI x ||| 0 = nI x from nI_or (b := 0) (by omega) (by decide) |>.trans (by rw [Nat.or_zero])]
      unfold rq at ih
      rw [if_neg z] at ih
      exact ih.trans (by
        conv => rhs; rw [fld, rq, if_neg z]
        rfl)
theorem m_ren_l (hN : 100 ≤ N) (hs : size < 5) (hc : code < 64) (hn : ∀ i, i < size → rI m 327 i = nI (nm' i)) (h4 : ∀ i, i < 4 → nm' i < 4) : ∀ (d p n x : Nat), p + d = size → d < n → x < 256 → H_X9_renamedCode_5 N n 322 (nI code) (nI size) (nI x) (nI p) (S m) = some (nI (fld (rp code nm') d p x), S m)
  | _, _, 0, _, _, h, _ => by omega
  | 0, p, n + 1, x, hp, _, _ => by
    refine Eq.trans u_H_X9_renamedCode_5 ?_
    exact e_t (by rw [nI_leI (by omega) (by omega)]; omega) rfl
  | d + 1, p, n + 1, x, hp, hd, hx => by
    refine Eq.trans u_H_X9_renamedCode_5 ?_
    refine e_f (by rw [nI_leI (by omega) (by omega)]; omega) ?_
    refine Eq.trans (m_ren_i (N := N) hc hs hn h4 (show p < size by omega) p 0 N x (by omega) (by omega) hx) ?_
    exact m_ren_l hN hs hc hn h4 d (p + 1) n (rp code nm' p x) (by omega) (by omega) (rqs_lt h4 (by omega) p 0 x (by omega) hx)
theorem m_renamed (hN : 100 ≤ N) (hs : size < 5) (hc : code < 64) (hn : ∀ i, i < size → rI m 327 i = nI (nm' i)) (h4 : ∀ i, i < 4 → nm' i < 4) : F_X9_renamedCode N 322 (nI code) (nI size) (S m) = some (nI (rnC size code nm'), S m) := by
  unfold F_X9_renamedCode
  refine e_rcv fmO ?_
  by_cases z : size = 0
  · subst z
    obtain ⟨N', rfl⟩ : ∃ N', N = N' + 1 := ⟨N - 1, by omega⟩
    refine Eq.trans u_H_X9_renamedCode_5 ?_
    exact e_t (by decide) rfl
  · exact m_ren_l (N := N) hN hs hc hn h4 (size - 1) 1 N 0 (by omega) (by omega) (by omega)
def mkF (size x : Nat) (i mv : Nat) : Nat := if dg x i < size then mv ||| 2 ^ dg x i else mv
def isRn (size x : Nat) : Bool := decide (x / 4 ^ size = 0) && decide (fld (mkF size x) size 0 0 = 2 ^ size - 1)
theorem mkF_lt {size x i mv : Nat} (h : mv < 256) : mkF size x i mv < 256 := by
  unfold mkF
  have := dg_lt x i
  split
  · exact or8 h (by omega)
  · exact h
theorem mkFs_lt {size x : Nat} : ∀ (d i mv : Nat), mv < 256 → fld (mkF size x) d i mv < 256
  | 0, _, _, h => h
  | d + 1, i, mv, h => mkFs_lt d (i + 1) _ (mkF_lt h)
theorem m_isRen_l {x : Nat} (hs : size < 5) (hx : x < 256) : ∀ (d i n mv : Nat) (m : vM), i + d = size → d < n → mv < 256 → (∀ j, j < i → rI m 327 j = nI (dg x j)) →
    ∃ m', H_X9_isRenaming_8 N n 322 (nI size) (nI (x / 4 ^ i)) (nI mv) (nI i) (S m) = some (b2 ((decide (x / 4 ^ size = 0) && decide (fld (mkF size x) d i mv = 2 ^ size - 1)) = true), S m') ∧ Fr (fun b _ => b = 327) m m' ∧ ∀ j, j < size → rI m' 327 j = nI (dg x j)
  | _, _, 0, _, _, _, h, _, _ => by omega
  | 0, i, n + 1, mv, m, hi, _, hm, h => by
    obtain rfl : i = size := by omega
    have h2 : (2 : Nat) ^ i ≤ 2 ^ 4 := Nat.pow_le_pow_right (by decide) (by omega)
    have h1 : 1 ≤ (2 : Nat) ^ i := Nat.one_le_two_pow
    have hd := Nat.div_le_self x (4 ^ i)
    refine ⟨m, ?_, Fr.rf, h⟩
    refine Eq.trans u_H_X9_isRenaming_8 ?_
    refine e_t (by rw [nI_leI (by omega) (by omega)]; omega) ?_
    by_cases z1 : x / 4 ^ i = 0
    · refine e_t (by rw [z1]; rfl) ?_
      rw [shl1 _ (by omega), subR (by show 1 ≤ _; omega)]
      by_cases z2 : mv = 2 ^ i - 1
      · refine e_t (by rw [z2]) ?_
        rw [b2_t (by rw [Bool.and_eq_true, decide_eq_true_iff, decide_eq_true_iff]; exact ⟨z1, z2⟩)]
        rfl
      · refine e_f (by rw [nI_eq (by omega) (by show 2 ^ i - 1 < _; omega)]; exact z2) ?_
        rw [b2_f (by rw [Bool.and_eq_true, decide_eq_true_iff, decide_eq_true_iff]; exact fun w => z2 w.2)]
        rfl
    · refine e_f (by rw [eqR (by decide) (by omega)]; exact z1) ?_
      rw [b2_f (by rw [Bool.and_eq_true, decide_eq_true_iff, decide_eq_true_iff]; exact fun w => z1 w.1)]
      rfl
  | d + 1, i, n + 1, mv, m, hi, hd, hm, h => by
    have hdl := Nat.div_le_self x (4 ^ i)
    have d4 := dg_lt x i
    have hnext : x / 4 ^ i / 4 = x / 4 ^ (i + 1) := by rw [Nat.div_div_eq_div_mul, Nat.pow_succ]
    obtain ⟨m', g1, g2, g3⟩ := m_isRen_l hs hx d (i + 1) n (mkF size x i mv) (wI m 327 i (nI (dg x i))) (by omega) (by omega) (mkF_lt hm) (fun j hj => by
      by_cases z : j = i
      · rw [z, rI_s]
      · rw [rI_n _ _ (by omega)]; exact h j (by omega))
    refine ⟨m', ?_, g2.pI rfl, g3⟩
    refine Eq.trans u_H_X9_isRenaming_8 ?_
    refine e_f (by rw [nI_leI (by omega) (by omega)]; omega) ?_
    refine e_ldR fmO fmR4 ?_
    refine e_nzI (by decide) ?_
    rw [remR (by omega) (by decide) (by decide)]
    refine e_asI fmA4 rfl (by omega) ?_
    refine e_ldR fmO fmR4 ?_
    refine e_alIV fmA4 rfl (by omega) (show _ = nI (dg x i) from rI_s _ _ _ _) ?_
    by_cases z : dg x i < size
    · refine e_f (by rw [nI_leI (by omega) (by omega)]; omega) ?_
      refine e_ldR fmO fmR4 ?_
      refine e_alIV fmA4 rfl (by omega) (show _ = nI (dg x i) from rI_s _ _ _ _) ?_
      refine e_nm ?_
      refine e_nzI (by decide) ?_
      refine e_nm ?_
      refine e_nm ?_
      have h2 : (2 : Nat) ^ dg x i ≤ 2 ^ 4 := Nat.pow_le_pow_right (by decide) (by omega)
      rw [addR, divR (by omega) (by decide) (by decide), shl1 _ (by omega), nI_or (by omega) (by omega), show x / 4 ^ i / (OfNat.ofNat 4 : Nat) = x / 4 ^ (i + 1) from hnext]
      have e : mkF size x i mv = mv ||| 2 ^ dg x i := if_pos z
      rw [e] at g1
      conv => rhs; rw [fld, e]
      exact g1
    · refine e_t (by rw [nI_leI (by omega) (by omega)]; omega) ?_
      refine e_nm ?_
      refine e_nzI (by decide) ?_
      refine e_nm ?_
      refine e_nm ?_
      rw [addR, divR (by omega) (by decide) (by decide), show nI mv ||| 0 = nI mv from (nI_or (b := 0) (by omega) (by decide)).trans (by rw [Nat.or_zero]), show x / 4 ^ i / (OfNat.ofNat 4 : Nat) = x / 4 ^ (i + 1) from hnext]
      have e : mkF size x i mv = mv := if_neg z
      rw [e] at g1
      conv => rhs; rw [fld, e]
      exact g1
theorem m_isRen {x : Nat} (hN : 100 ≤ N) (hs : size < 5) (hx : x < 256) : ∃ m', F_X9_isRenaming N 322 (nI x) (nI size) (S m) = some (b2 (isRn size x = true), S m') ∧ Fr (fun b _ => b = 327) m m' ∧ ∀ j, j < size → rI m' 327 j = nI (dg x j) := by
  obtain ⟨m', g1, g2, g3⟩ := m_isRen_l (N := N) (x := x) hs hx size 0 N 0 m (by omega) (by omega) (by omega) (fun j hj => absurd hj (Nat.not_lt_zero _))
  rw [Nat.pow_zero, Nat.div_one] at g1
  refine ⟨m', ?_, g2, g3⟩
  unfold F_X9_isRenaming
  exact e_rcv fmO g1
abbrev Sz (k x : Nat) : Prop := isRn (sz_ false k) x = true ∧ rnC (sz_ false k) (cd_ false k) (dg x) = cd_ false k
theorem sym_eq : ∀ k, k < 19 → cnt (Sy k) 24 = cnt (Sz k) 256 := by decide +kernel
theorem m_sym_l {k : Nat} (hN : 1000 ≤ N) (hk : k < 19) : ∀ (d x n : Nat) (m : vM), x + d = 256 → d < n → Tab m → ∃ m', H_X9_flag_97 N n 322 (nI k) (nI (sz_ false k)) (nI (cnt (Sz k) x)) (nI x) (S m) = some (nI (cnt (Sz k) 256), S m') ∧ Fr (fun b _ => b = 327) m m'
  | _, _, 0, _, _, h, _ => by omega
  | 0, x, n + 1, m, hx, _, _ => by
    obtain rfl : x = 256 := by omega
    refine ⟨m, ?_, Fr.rf⟩
    refine Eq.trans u_H_X9_flag_97 ?_
    exact e_t (by decide) rfl
  | d + 1, x, n + 1, m, hx, hd, hT => by
    have hz := szc false k hk
    obtain ⟨m1, g1, g2, g3⟩ := m_isRen (N := N) (m := m) (x := x) (size := sz_ false k) (by omega) (by omega) (by omega)
    have hT1 : Tab m1 := hT.fr (fun b j hb => g2 b j (by unfold tabP at hb; omega))
    obtain ⟨m', j1, j2⟩ := m_sym_l hN hk d (x + 1) n m1 (by omega) (by omega) hT1
    have t2 := (tabF hT1 hk).2
    have hrn := rn256 k hk x (by omega)
    rw [cnt] at j1
    refine ⟨m', ?_, g2.tr j2⟩
    refine Eq.trans u_H_X9_flag_97 ?_
    refine e_f (by rw [leL (by decide) (by omega)]; show ¬ 256 ≤ x; omega) ?_
    refine e_bnd g1 ?_
    by_cases z1 : isRn (sz_ false k) x = true
    · refine e_f (by rw [b2_t z1]; decide) ?_
      refine e_ldR fmO fmR1 ?_
      refine e_alIV fmA1 rfl (by omega) t2 ?_
      refine e_bnd (m_renamed (N := N) (by omega) (by omega) (by omega) g3 (fun i _ => dg_lt x i)) ?_
      refine e_ldR fmO fmR1 ?_
      refine e_alIV fmA1 rfl (by omega) t2 ?_
      by_cases z2 : rnC (sz_ false k) (cd_ false k) (dg x) = cd_ false k
      · refine e_t (by rw [z2]) ?_
        refine e_nm ?_
        refine e_nm ?_
        rw [addR, addR]
        rw [if_pos (show Sz k x from ⟨z1, z2⟩)] at j1
        exact j1
      · refine e_f (by rw [nI_eq (by omega) (by omega)]; exact z2) ?_
        refine e_nm ?_
        refine e_nm ?_
        refine e_nm ?_
        rw [addR, addR]
        rw [if_neg (show ¬ Sz k x from fun w => z2 w.2)] at j1
        exact j1
    · refine e_t (by rw [b2_f z1]) ?_
      refine e_nm ?_
      refine e_nm ?_
      refine e_nm ?_
      rw [addR, addR]
      rw [if_neg (show ¬ Sz k x from fun w => z1 w.1)] at j1
      exact j1
end MDL
theorem call_flag (hN : 1000 ≤ N) (hR : Rel m) (x y : Int32) : SameI (F_X8_flag N 0 x y) (F_X9_flag N 322 x y) m := by
  have hT := hR.1
  rcases rng x (n := 19) (by decide) with ⟨k, hk, rfl⟩ | hx
  · have hz := szc false k hk
    have t := hT.2.1 false k hk
    have t1 : rI m 10 k = nI (sz_ false k) := t.1
    have t2 : rI m 11 k = nI (cd_ false k) := t.2.1
    have u1 := (tabF hT hk).1
    have u2 := (tabF hT hk).2
    have cC : ∀ (y : Int32) R, ¬ y < 0 → y ≤ 4 → (if y = 0 then (ldR (S m) 0 8 0 (fun r14 => ldR (S m) r14 1 3 (fun r15 => alI (S m) r15 (nI k) (fun v16 => some (v16, S m))))) else (if y = 1 then (ldR (S m) 0 8 0 (fun r11 => ldR (S m) r11 1 4 (fun r12 => alI (S m) r12 (nI k) (fun v13 => some (v13, S m))))) else (if y = 2 then (ldR (S m) 0 8 0 (fun r7 => ldR (S m) r7 1 4 (fun r8 => alI (S m) r8 (nI k) (fun v9 => bnd (F_J6_bitCount_0f7a4 N v9 (S m)) (fun v10 s => some (v10, s)))))) else (if y = 3 then (ldR (S m) 0 8 0 (fun r5 => bnd (F_X1_symmetriesOf N r5 (nI k) (S m)) (fun v6 s => some (v6, s)))) else (ldR (S m) 0 8 0 (fun r3 => bnd (F_X1_oppositeOf N r3 (nI k) (S m)) (fun v4 s => some (v4, s)))))))) = R → F_X8_flag N 0 (nI k) y (S m) = R := fun y R h1 h2 hR' => by
      unfold F_X8_flag
      refine e_rcv fxO ?_
      refine e_ldR fxO fxR0 ?_
      refine g_y (c_famHas (q := false) hT _) (inr hk (by decide)) ?_
      refine e_f h1 ?_
      refine e_t h2 ?_
      exact hR'
    have cM : ∀ (m1 : vM) (y : Nat) R, Tab m1 → y < 5 → (if (3 : Int32) ≤ nI y then (if nI y = 4 then (ldR (S m1) 322 9 2 (fun r5 => bnd (F_X9_codes N (nI (sz_ false k)) (S m1)) (fun v6 s => ldR s 322 9 1 (fun r7 => alI s r7 (nI k) (fun v8 => alI s r5 (((((64) * nI (sz_ false k)) + v6) - (1)) - v8) (fun v9 => some (v9, s))))))) else (H_X9_flag_97 N N 322 (nI k) (nI (sz_ false k)) (0) (0) (S m1))) else (if nI y = 0 then (J_X9_flag_61 N (nI (sz_ false k)) (S m1)) else (if nI y = 1 then (ldR (S m1) 322 9 1 (fun r13 => alI (S m1) r13 (nI k) (fun v14 => J_X9_flag_61 N v14 (S m1)))) else (ldR (S m1) 322 9 1 (fun r10 => alI (S m1) r10 (nI k) (fun v11 => bnd (F_X9_ones N v11 (S m1)) (fun v12 s => J_X9_flag_61 N v12 s))))))) = R → F_X9_flag N 322 (nI k) (nI y) (S m1) = R := fun m1 y R hT1 h1 hR' => by
      unfold F_X9_flag
      refine e_rcv fmO ?_
      refine g_y (m_isFlagR _) (inr hk (by decide)) ?_
      refine g_y (m_inR (n := 4) _ (by decide)) (inr h1 (by decide)) ?_
      refine e_ldR fmO fmR0 ?_
      refine e_alIV fmA0 rfl (by omega) (tabF hT1 hk).1 ?_
      exact hR'
    rcases rng y (n := 5) (by decide) with ⟨j, hj, rfl⟩ | hy
    · rcases (show j = 0 ∨ j = 1 ∨ j = 2 ∨ j = 3 ∨ j = 4 by omega) with rfl | rfl | rfl | rfl | rfl
      · refine SameI.ro (nI (sz_ false k)) hR (cC _ _ (by decide) (by decide) ?_) (cM m _ _ hT (by decide) ?_)
        · refine e_t rfl ?_
          refine e_ldR fxO fxR0 ?_
          refine e_ldR ffO ffR3 ?_
          exact e_alIV ffA3 rfl (by omega) t1 rfl
        · refine e_f (by decide) ?_
          exact e_t rfl rfl
      · refine SameI.ro (nI (cd_ false k)) hR (cC _ _ (by decide) (by decide) ?_) (cM m _ _ hT (by decide) ?_)
        · refine e_f (by decide) ?_
          refine e_t rfl ?_
          refine e_ldR fxO fxR0 ?_
          refine e_ldR ffO ffR4 ?_
          exact e_alIV ffA4 rfl (by omega) t2 rfl
        · refine e_f (by decide) ?_
          refine e_f (by decide) ?_
          refine e_t rfl ?_
          refine e_ldR fmO fmR1 ?_
          exact e_alIV fmA1 rfl (by omega) u2 rfl
      · refine SameI.ro (nI (pop (cd_ false k))) hR (cC _ _ (by decide) (by decide) ?_) (cM m _ _ hT (by decide) ?_)
        · refine e_f (by decide) ?_
          refine e_f (by decide) ?_
          refine e_t rfl ?_
          refine e_ldR fxO fxR0 ?_
          refine e_ldR ffO ffR4 ?_
          refine e_alIV ffA4 rfl (by omega) t2 ?_
          exact e_bnd (c_bits (by omega)) rfl
        · refine e_f (by decide) ?_
          refine e_f (by decide) ?_
          refine e_f (by decide) ?_
          refine e_ldR fmO fmR1 ?_
          refine e_alIV fmA1 rfl (by omega) u2 ?_
          exact e_bnd (m_ones (by omega) (by omega)) rfl
      · obtain ⟨m1, g1, g2⟩ := m_sym_l (N := N) hN hk 256 0 N m (by omega) (by omega) hT
        refine ⟨nI (cnt (Sz k) 256), m, m1, (cC _ _ (by decide) (by decide) ?_), (cM m _ _ hT (by decide) ?_), hR.fr g2 (fun a j hp => by unfold prP tabP hanP stoP tapP imgP at hp; omega)⟩
        · refine e_f (by decide) ?_
          refine e_f (by decide) ?_
          refine e_f (by decide) ?_
          refine e_t rfl ?_
          refine e_ldR fxO fxR0 ?_
          refine e_bnd (r := nI (cnt (Sz k) 256)) (s' := S m) ?_ rfl
          unfold F_X1_symmetriesOf
          refine e_rcv ffO ?_
          refine e_ldR ffO ffR9 ?_
          refine e_aln (by decide) ?_
          rw [← sym_eq k hk]
          exact c_sym_l (N := N) (by omega) hT hk 24 0 N (by omega) (by omega)
        · refine e_t (by decide) ?_
          refine e_f (by decide) ?_
          exact g1
      · have hcd : cd_ false k < cds (sz_ false k) := hz.2.2.1
        have h64 := cds_64 (sz_ false k) (by omega)
        have hcl : cds (sz_ false k) - 1 - cd_ false k < cds (sz_ false k) := by omega
        have tn := hT.2.2.1 false (sz_ false k) (cds (sz_ false k) - 1 - cd_ false k) (by omega) (Nat.zero_le _) hcl
        refine SameI.ro (nI (nu_ false (sz_ false k) (cds (sz_ false k) - 1 - cd_ false k))) hR (cC _ _ (by decide) (by decide) ?_) (cM m _ _ hT (by decide) ?_)
        · refine e_f (by decide) ?_
          refine e_f (by decide) ?_
          refine e_f (by decide) ?_
          refine e_f (by decide) ?_
          refine e_ldR fxO fxR0 ?_
          refine e_bnd ?_ rfl
          unfold F_X1_oppositeOf
          refine e_rcv ffO ?_
          refine e_ldR ffO ffR3 ?_
          refine e_alIV ffA3 rfl (by omega) t1 ?_
          refine e_ldR (gO (q := false)) (gR7 (q := false)) ?_
          refine e_alR (gNn (q := false)) (by decide) rfl (by omega) (gNnR false (sz_ false k) (by omega)) ?_
          refine e_bnd (c_codesOf (by omega)) ?_
          refine e_ldR ffO ffR4 ?_
          refine e_alIV ffA4 rfl (by omega) t2 ?_
          rw [subR (by show 1 ≤ _; omega), nI_subN (by show _ ≤ cds (sz_ false k) - 1; omega)]
          exact e_alIV (gNu (q := false) (by omega)) rfl (by omega) tn.1 rfl
        · refine e_t (by decide) ?_
          refine e_t rfl ?_
          refine e_ldR fmO fmR2 ?_
          refine e_bnd (m_codes (by omega)) ?_
          refine e_ldR fmO fmR1 ?_
          refine e_alIV fmA1 rfl (by omega) u2 ?_
          rw [mulL, nI_add, subR (by show 1 ≤ _; omega), nI_subN (by show _ ≤ OfNat.ofNat 64 * sz_ false k + cds (sz_ false k) - 1; omega)]
          refine e_alIV fmA2 (j := 64 * sz_ false k + (cds (sz_ false k) - 1 - cd_ false k)) (congrArg nI (by show 64 * sz_ false k + cds (sz_ false k) - 1 - cd_ false k = _; omega)) (by omega) tn.2 ?_
          rfl
    · have hy' : y < 0 ∨ (¬ y < 0 ∧ ¬ y ≤ 4) := by
        by_cases h0 : y < 0
        · exact Or.inl h0
        · exact Or.inr ⟨h0, fun w => hy ((in_r y (n := 4) (by decide)).mp ⟨Int32.not_lt.mp h0, w⟩)⟩
      refine SameI.ro (-1) hR ?_ ?_
      · unfold F_X8_flag
        refine e_rcv fxO ?_
        refine e_ldR fxO fxR0 ?_
        refine g_y (c_famHas (q := false) hT _) (inr hk (by decide)) ?_
        rcases hy' with h | ⟨h1, h2⟩
        · exact e_t h rfl
        · refine e_f h1 ?_
          exact e_f h2 rfl
      · unfold F_X9_flag
        refine e_rcv fmO ?_
        refine g_y (m_isFlagR _) (inr hk (by decide)) ?_
        exact g_n (m_inR (n := 4) _ (by decide)) hy rfl
  · refine SameI.ro (-1) hR ?_ ?_
    · unfold F_X8_flag
      refine e_rcv fxO ?_
      refine e_ldR fxO fxR0 ?_
      exact g_n (c_famHas (q := false) hT _) hx rfl
    · unfold F_X9_flag
      refine e_rcv fmO ?_
      exact g_n (m_isFlagR _) hx rfl
end FLAG
