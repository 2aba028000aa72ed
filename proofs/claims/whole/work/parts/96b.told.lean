section UROWS
theorem u_J_X9_told_188 {N : Nat} {k0 : Int32} {s : vS} : J_X9_told_188 N k0 s = (some (k0, s)) := rfl
theorem u_J_X9_told_134 {N : Nat} {k21 : Nat → Int32 → Int32 → Int32 → Int32 → Int32 → vS → Option (Int32 × vS)} {k63 : Nat → Int32 → Int32 → Int32 → Int32 → Int32 → Int32 → vS → Option (Int32 × vS)} {k73 : Nat → Int32 → Int32 → Int32 → Int32 → Int32 → Int32 → Int32 → vS → Option (Int32 × vS)} {a0 : Nat} {l1 : Int32} {l2 : Int32} {l3 : Int32} {l5 : Int32} {l7 : Int32} {l8 : Int32} {k0 : Int32} {k1 : Int32} {s : vS} : J_X9_told_134 N k21 k63 k73 a0 l1 l2 l3 l5 l7 l8 k0 k1 s = (nm ((k0 + k1)) (fun l4_17 => nm (l8 + (1 : Int32)) (fun l8_18 => k73 a0 l1 l2 l3 l4_17 l5 l7 l8_18 s))) := rfl
theorem u_H_X9_told_73 {N : Nat} {k21 : Nat → Int32 → Int32 → Int32 → Int32 → Int32 → vS → Option (Int32 × vS)} {k63 : Nat → Int32 → Int32 → Int32 → Int32 → Int32 → Int32 → vS → Option (Int32 × vS)} {n : Nat} {a0 : Nat} {l1 : Int32} {l2 : Int32} {l3 : Int32} {l4 : Int32} {l5 : Int32} {l7 : Int32} {l8 : Int32} {s : vS} : H_X9_told_73 N k21 k63 (n + 1) a0 l1 l2 l3 l4 l5 l7 l8 s = (if l7 ≤ l8 then (nm (l7 + (1 : Int32)) (fun l7_9 => k63 a0 l1 l2 l3 l4 l5 l7_9 s)) else (ldR s a0 9 6 (fun r10 => alI s r10 l5 (fun v11 => ldR s a0 9 6 (fun r12 => alI s r12 l5 (fun v13 => ldR s a0 9 6 (fun r14 => alI s r14 l7 (fun v15 => nm (((((v11 >>> (l7 &&& 31)) &&& (1 : Int32)) + ((v13 >>> (l8 &&& 31)) &&& (1 : Int32))) + ((v15 >>> (l8 &&& 31)) &&& (1 : Int32)))) (fun l9_16 => nzI (3 : Int32) (if (l9_16 - l9_16 / (3 : Int32) * (3 : Int32)) = (0 : Int32) then (J_X9_told_134 N k21 k63 (H_X9_told_73 N k21 k63 n) a0 l1 l2 l3 l5 l7 l8 l4 (1 : Int32) s) else (J_X9_told_134 N k21 k63 (H_X9_told_73 N k21 k63 n) a0 l1 l2 l3 l5 l7 l8 l4 (0 : Int32) s))))))))))) := rfl
theorem u_H_X9_told_63 {N : Nat} {k21 : Nat → Int32 → Int32 → Int32 → Int32 → Int32 → vS → Option (Int32 × vS)} {n : Nat} {a0 : Nat} {l1 : Int32} {l2 : Int32} {l3 : Int32} {l4 : Int32} {l5 : Int32} {l7 : Int32} {s : vS} : H_X9_told_63 N k21 (n + 1) a0 l1 l2 l3 l4 l5 l7 s = (if l5 ≤ l7 then (nm (l5 + (1 : Int32)) (fun l5_8 => k21 a0 l1 l2 l3 l4 l5_8 s)) else (H_X9_told_73 N k21 (H_X9_told_63 N k21 n) N a0 l1 l2 l3 l4 l5 l7 (0 : Int32) s)) := rfl
theorem u_J_X9_told_59 {N : Nat} {k21 : Nat → Int32 → Int32 → Int32 → Int32 → Int32 → vS → Option (Int32 × vS)} {a0 : Nat} {l1 : Int32} {l2 : Int32} {l4 : Int32} {l5 : Int32} {k0 : Int32} {s : vS} : J_X9_told_59 N k21 a0 l1 l2 l4 l5 k0 s = (H_X9_told_63 N k21 N a0 l1 l2 k0 l4 l5 (0 : Int32) s) := rfl
theorem u_H_X9_told_21 {N : Nat} {n : Nat} {a0 : Nat} {l1 : Int32} {l2 : Int32} {l3 : Int32} {l4 : Int32} {l5 : Int32} {s : vS} : H_X9_told_21 N (n + 1) a0 l1 l2 l3 l4 l5 s = (ldI s a0 9 5 (fun v2 => if v2 ≤ l5 then (if l1 = (0 : Int32) then (ldI s a0 9 5 (fun v3 => J_X9_told_188 N v3 s)) else (if l1 = (1 : Int32) then (nzI (2 : Int32) (J_X9_told_188 N (l2 / (2 : Int32)) s)) else (if l1 = (2 : Int32) then (J_X9_told_188 N l3 s) else (J_X9_told_188 N l4 s)))) else (ldR s a0 9 6 (fun r4 => alI s r4 l5 (fun v5 => bnd (F_X9_ones N v5 s) (fun v6 s => nm ((l2 + v6)) (fun l2_7 => if v6 ≤ l3 then (J_X9_told_59 N (H_X9_told_21 N n) a0 l1 l2_7 l4 l5 l3 s) else (J_X9_told_59 N (H_X9_told_21 N n) a0 l1 l2_7 l4 l5 v6 s)))))))) := rfl
theorem u_F_X9_told {N : Nat} {a0 : Nat} {l1 : Int32} {s : vS} : F_X9_told N a0 l1 s = (rcv s a0 9 (bnd (F_X9_in N l1 (0 : Int32) (3 : Int32) s) (fun v1 s => if v1 = (0 : Int32) then (some ((-1 : Int32), s)) else (H_X9_told_21 N N a0 l1 (0 : Int32) (0 : Int32) (0 : Int32) (0 : Int32) s)))) := rfl
theorem u_H_X3_lines_4 {N : Nat} {n : Nat} {a0 : Nat} {l1 : Int32} {l2 : Int32} {s : vS} : H_X3_lines_4 N (n + 1) a0 l1 l2 s = (ldI s a0 3 0 (fun v1 => if v1 ≤ l2 then (nzI (2 : Int32) (some ((l1 / (2 : Int32)), s))) else (ldR s a0 3 1 (fun r2 => alI s r2 l2 (fun v3 => bnd (F_J6_bitCount_0f7a4 N v3 s) (fun v4 s => nm ((l1 + v4)) (fun l1_5 => nm (l2 + (1 : Int32)) (fun l2_6 => H_X3_lines_4 N n a0 l1_5 l2_6 s)))))))) := rfl
theorem u_F_X3_lines {N : Nat} {a0 : Nat} {s : vS} : F_X3_lines N a0 s = (rcv s a0 3 (H_X3_lines_4 N N a0 (0 : Int32) (0 : Int32) s)) := rfl
theorem u_H_X3_mostLines_4 {N : Nat} {n : Nat} {a0 : Nat} {l1 : Int32} {l2 : Int32} {s : vS} : H_X3_mostLines_4 N (n + 1) a0 l1 l2 s = (ldI s a0 3 0 (fun v1 => if v1 ≤ l2 then (some (l1, s)) else (ldR s a0 3 1 (fun r2 => alI s r2 l2 (fun v3 => bnd (F_J6_bitCount_0f7a4 N v3 s) (fun v4 s => bnd (F_J9_max_7cf53 N l1 v4 s) (fun v5 s => nm (l2 + (1 : Int32)) (fun l2_6 => H_X3_mostLines_4 N n a0 v5 l2_6 s)))))))) := rfl
theorem u_F_X3_mostLines {N : Nat} {a0 : Nat} {s : vS} : F_X3_mostLines N a0 s = (rcv s a0 3 (H_X3_mostLines_4 N N a0 (0 : Int32) (0 : Int32) s)) := rfl
theorem u_J_X3_evenTriples_64 {N : Nat} {k4 : Nat → Int32 → Int32 → vS → Option (Int32 × vS)} {k14 : Nat → Int32 → Int32 → Int32 → vS → Option (Int32 × vS)} {k22 : Nat → Int32 → Int32 → Int32 → Int32 → vS → Option (Int32 × vS)} {a0 : Nat} {l1 : Int32} {l2 : Int32} {l3 : Int32} {l4 : Int32} {s : vS} : J_X3_evenTriples_64 N k4 k14 k22 a0 l1 l2 l3 l4 s = (nm (l4 + (1 : Int32)) (fun l4_9 => k22 a0 l1 l2 l3 l4_9 s)) := rfl
theorem u_H_X3_evenTriples_22 {N : Nat} {k4 : Nat → Int32 → Int32 → vS → Option (Int32 × vS)} {k14 : Nat → Int32 → Int32 → Int32 → vS → Option (Int32 × vS)} {n : Nat} {a0 : Nat} {l1 : Int32} {l2 : Int32} {l3 : Int32} {l4 : Int32} {s : vS} : H_X3_evenTriples_22 N k4 k14 (n + 1) a0 l1 l2 l3 l4 s = (if l3 ≤ l4 then (nm (l3 + (1 : Int32)) (fun l3_3 => k14 a0 l1 l2 l3_3 s)) else (bnd (F_X3_joins N a0 l4 l3 s) (fun v4 s => bnd (F_X3_joins N a0 l4 l2 s) (fun v5 s => if v4 = v5 then (bnd (F_X3_joins N a0 l4 l2 s) (fun v6 s => bnd (F_X3_joins N a0 l3 l2 s) (fun v7 s => if v6 = v7 then (nm (l1 + (1 : Int32)) (fun l1_8 => J_X3_evenTriples_64 N k4 k14 (H_X3_evenTriples_22 N k4 k14 n) a0 l1_8 l2 l3 l4 s)) else (J_X3_evenTriples_64 N k4 k14 (H_X3_evenTriples_22 N k4 k14 n) a0 l1 l2 l3 l4 s)))) else (J_X3_evenTriples_64 N k4 k14 (H_X3_evenTriples_22 N k4 k14 n) a0 l1 l2 l3 l4 s))))) := rfl
theorem u_H_X3_evenTriples_14 {N : Nat} {k4 : Nat → Int32 → Int32 → vS → Option (Int32 × vS)} {n : Nat} {a0 : Nat} {l1 : Int32} {l2 : Int32} {l3 : Int32} {s : vS} : H_X3_evenTriples_14 N k4 (n + 1) a0 l1 l2 l3 s = (if l2 ≤ l3 then (nm (l2 + (1 : Int32)) (fun l2_2 => k4 a0 l1 l2_2 s)) else (H_X3_evenTriples_22 N k4 (H_X3_evenTriples_14 N k4 n) N a0 l1 l2 l3 (0 : Int32) s)) := rfl
theorem u_H_X3_evenTriples_4 {N : Nat} {n : Nat} {a0 : Nat} {l1 : Int32} {l2 : Int32} {s : vS} : H_X3_evenTriples_4 N (n + 1) a0 l1 l2 s = (ldI s a0 3 0 (fun v1 => if v1 ≤ l2 then (some (l1, s)) else (H_X3_evenTriples_14 N (H_X3_evenTriples_4 N n) N a0 l1 l2 (1 : Int32) s))) := rfl
theorem u_F_X3_evenTriples {N : Nat} {a0 : Nat} {s : vS} : F_X3_evenTriples N a0 s = (rcv s a0 3 (H_X3_evenTriples_4 N N a0 (0 : Int32) (2 : Int32) s)) := rfl
end UROWS
section TOLD
variable {N : Nat} {m m' : vM} {s : vS}
def ev (r : Nat → Nat) (i j k : Nat) : Nat := if (bt (r i) j + bt (r i) k + bt (r j) k) % 3 = 0 then 1 else 0
def E3 (r : Nat → Nat) (i j x : Nat) : Nat := fld (fun k x => x + ev r i j k) j 0 x
def E2 (r : Nat → Nat) (i x : Nat) : Nat := fld (E3 r i) i 0 x
def spop (r : Nat → Nat) (i x : Nat) : Nat := x + pop (r i)
def mpop (r : Nat → Nat) (i x : Nat) : Nat := max x (pop (r i))
theorem ev_sym {nn : Nat} {r : Nat → Nat} (hy : Sym nn r) {i j k : Nat} (hi : i < nn) (hj : j < i) (hk : k < j) : (bt (r k) j = bt (r k) i ∧ bt (r k) i = bt (r j) i) ↔ (bt (r i) j + bt (r i) k + bt (r j) k) % 3 = 0 := by
  rw [hy k j (by omega) (by omega), hy k i (by omega) (by omega), hy j i (by omega) (by omega)]
  have h1 := bt_lt (r i) j
  have h2 := bt_lt (r i) k
  have h3 := bt_lt (r j) k
  omega
theorem c_mx {a b : Nat} (ha : a < 2 ^ 31) (hb : b < 2 ^ 31) : F_J9_max_7cf53 N (nI a) (nI b) s = some (nI (max a b), s) := by
  unfold F_J9_max_7cf53
  by_cases z : a < b
  · refine e_t (by rw [nI_ltI (by omega) (by omega)]; exact z) ?_
    rw [show max a b = b by omega]
    rfl
  · refine e_f (by rw [nI_ltI (by omega) (by omega)]; exact z) ?_
    rw [show max a b = a by omega]
    rfl
section CLASS
variable {nn : Nat} {r : Nat → Nat}
theorem c_lines_l (hn : NetIs m 286 nn r) : ∀ (d i n x : Nat), i + d = nn → d < n → x ≤ 9 * i → H_X3_lines_4 N n 286 (nI x) (nI i) (S m) = some (nI (fld (spop r) d i x / 2), S m)
  | _, _, 0, _, _, h, _ => by omega
  | 0, i, n + 1, x, hi, _, hx => by
    have h8 := hn.2.1
    refine Eq.trans u_H_X3_lines_4 ?_
    refine e_ldIV net286.o hn.1 ?_
    refine e_t (by rw [nI_leI (by omega) (by omega)]; omega) ?_
    refine e_nzI (by decide) ?_
    rw [divR (by omega) (by decide) (by decide)]
    rfl
  | d + 1, i, n + 1, x, hi, hd, hx => by
    have h8 := hn.2.1
    have hr := hn.2.2 i (by omega)
    have h2 : (2 : Nat) ^ nn ≤ 2 ^ 8 := Nat.pow_le_pow_right (by decide) h8
    have hp := pop_le (r i)
    refine Eq.trans u_H_X3_lines_4 ?_
    refine e_ldIV net286.o hn.1 ?_
    refine e_f (by rw [nI_leI (by omega) (by omega)]; omega) ?_
    refine e_ldR net286.o net286.r1 ?_
    refine e_alIV net286.a1 rfl (by omega) hr.1 ?_
    refine e_bnd (c_bits (by omega)) ?_
    refine e_nm ?_
    refine e_nm ?_
    rw [addR, nI_add]
    exact c_lines_l hn d (i + 1) n (x + pop (r i)) (by omega) (by omega) (by omega)
theorem c_most_l (hn : NetIs m 286 nn r) : ∀ (d i n x : Nat), i + d = nn → d < n → x ≤ 9 → H_X3_mostLines_4 N n 286 (nI x) (nI i) (S m) = some (nI (fld (mpop r) d i x), S m)
  | _, _, 0, _, _, h, _ => by omega
  | 0, i, n + 1, x, hi, _, hx => by
    have h8 := hn.2.1
    refine Eq.trans u_H_X3_mostLines_4 ?_
    refine e_ldIV net286.o hn.1 ?_
    exact e_t (by rw [nI_leI (by omega) (by omega)]; omega) rfl
  | d + 1, i, n + 1, x, hi, hd, hx => by
    have h8 := hn.2.1
    have hr := hn.2.2 i (by omega)
    have h2 : (2 : Nat) ^ nn ≤ 2 ^ 8 := Nat.pow_le_pow_right (by decide) h8
    have hp := pop_le (r i)
    refine Eq.trans u_H_X3_mostLines_4 ?_
    refine e_ldIV net286.o hn.1 ?_
    refine e_f (by rw [nI_leI (by omega) (by omega)]; omega) ?_
    refine e_ldR net286.o net286.r1 ?_
    refine e_alIV net286.a1 rfl (by omega) hr.1 ?_
    refine e_bnd (c_bits (by omega)) ?_
    refine e_bnd (c_mx (by omega) (by omega)) ?_
    refine e_nm ?_
    rw [addR]
    exact c_most_l hn d (i + 1) n (max x (pop (r i))) (by omega) (by omega) (by omega)
theorem c_ev3 {k4 : Nat → Int32 → Int32 → vS → Option (Int32 × vS)} {k14 : Nat → Int32 → Int32 → Int32 → vS → Option (Int32 × vS)} (hn : NetIs m 286 nn r) (hy : Sym nn r) {i j : Nat} (hi : i < nn) (hj : j < i) : ∀ (d k n x : Nat), k + d = j → d < n → H_X3_evenTriples_22 N k4 k14 n 286 (nI x) (nI i) (nI j) (nI k) (S m) = k14 286 (nI (fld (fun k x => x + ev r i j k) d k x)) (nI i) (nI (j + 1)) (S m)
  | _, _, 0, _, _, h => by omega
  | 0, k, n + 1, x, hk, _ => by
    have h8 := hn.2.1
    refine Eq.trans u_H_X3_evenTriples_22 ?_
    refine e_t (by rw [nI_leI (by omega) (by omega)]; omega) ?_
    refine e_nm ?_
    rw [addR]
    rfl
  | d + 1, k, n + 1, x, hk, hd => by
    have h8 := hn.2.1
    have hs := ev_sym hy hi hj (show k < j by omega)
    have b1 := bt_01 (r k) j
    have b2' := bt_01 (r k) i
    have b3 := bt_01 (r j) i
    refine Eq.trans u_H_X3_evenTriples_22 ?_
    refine e_f (by rw [nI_leI (by omega) (by omega)]; omega) ?_
    refine e_bnd (c_joinsH hn (show k < nn by omega) (show j < nn by omega)) ?_
    refine e_bnd (c_joinsH hn (show k < nn by omega) hi) ?_
    by_cases z1 : bt (r k) j = bt (r k) i
    · refine e_t (by rw [z1]) ?_
      refine e_bnd (c_joinsH hn (show k < nn by omega) hi) ?_
      refine e_bnd (c_joinsH hn (show j < nn by omega) hi) ?_
      by_cases z2 : bt (r k) i = bt (r j) i
      · refine e_t (by rw [z2]) ?_
        refine e_nm ?_
        refine e_nm ?_
        rw [addR, addR, c_ev3 hn hy hi hj d (k + 1) n (x + 1) (by omega) (by omega)]
        conv => rhs; rw [fld]
        rw [show ev r i j k = 1 from if_pos (hs.mp ⟨z1, z2⟩)]
      · refine e_f (fun w => z2 (by
          rcases b2' with e | e <;> rcases b3 with f | f <;> rw [e, f] at w ⊢ <;> exact absurd w (by decide))) ?_
        refine e_nm ?_
        rw [addR, c_ev3 hn hy hi hj d (k + 1) n x (by omega) (by omega)]
        conv => rhs; rw [fld]
        rw [show ev r i j k = 0 from if_neg (fun w => z2 (hs.mpr w).2)]
        rfl
    · refine e_f (fun w => z1 (by
        rcases b1 with e | e <;> rcases b2' with f | f <;> rw [e, f] at w ⊢ <;> exact absurd w (by decide))) ?_
      refine e_nm ?_
      rw [addR, c_ev3 hn hy hi hj d (k + 1) n x (by omega) (by omega)]
      conv => rhs; rw [fld]
      rw [show ev r i j k = 0 from if_neg (fun w => z1 (hs.mpr w).1)]
      rfl
theorem c_ev2 {k4 : Nat → Int32 → Int32 → vS → Option (Int32 × vS)} (hN : 100 ≤ N) (hn : NetIs m 286 nn r) (hy : Sym nn r) {i : Nat} (hi : i < nn) : ∀ (d j n x : Nat), j + d = i → d < n → H_X3_evenTriples_14 N k4 n 286 (nI x) (nI i) (nI j) (S m) = k4 286 (nI (fld (E3 r i) d j x)) (nI (i + 1)) (S m)
  | _, _, 0, _, _, h => by omega
  | 0, j, n + 1, x, hj, _ => by
    have h8 := hn.2.1
    refine Eq.trans u_H_X3_evenTriples_14 ?_
    refine e_t (by rw [nI_leI (by omega) (by omega)]; omega) ?_
    refine e_nm ?_
    rw [addR]
    rfl
  | d + 1, j, n + 1, x, hj, hd => by
    have h8 := hn.2.1
    refine Eq.trans u_H_X3_evenTriples_14 ?_
    refine e_f (by rw [nI_leI (by omega) (by omega)]; omega) ?_
    refine Eq.trans (c_ev3 (N := N) hn hy hi (show j < i by omega) j 0 N x (by omega) (by omega)) ?_
    exact c_ev2 hN hn hy hi d (j + 1) n (E3 r i j x) (by omega) (by omega)
theorem c_ev1 (hN : 100 ≤ N) (hn : NetIs m 286 nn r) (hy : Sym nn r) : ∀ (d i n x : Nat), i + d = nn → d < n → 1 ≤ i → H_X3_evenTriples_4 N n 286 (nI x) (nI i) (S m) = some (nI (fld (E2 r) d i x), S m)
  | _, _, 0, _, _, h, _ => by omega
  | 0, i, n + 1, x, hi, _, _ => by
    have h8 := hn.2.1
    refine Eq.trans u_H_X3_evenTriples_4 ?_
    refine e_ldIV net286.o hn.1 ?_
    exact e_t (by rw [nI_leI (by omega) (by omega)]; omega) rfl
  | d + 1, i, n + 1, x, hi, hd, h1 => by
    have h8 := hn.2.1
    obtain ⟨i', rfl⟩ : ∃ i', i = i' + 1 := ⟨i - 1, by omega⟩
    refine Eq.trans u_H_X3_evenTriples_4 ?_
    refine e_ldIV net286.o hn.1 ?_
    refine e_f (by rw [nI_leI (by omega) (by omega)]; omega) ?_
    refine Eq.trans (c_ev2 (N := N) hN hn hy (show i' + 1 < nn by omega) i' 1 N x (by omega) (by omega)) ?_
    exact c_ev1 hN hn hy d (i' + 1 + 1) n (E2 r (i' + 1) x) (by omega) (by omega) (by omega)
end CLASS
section MODEL
variable {nn : Nat} {r : Nat → Nat}
theorem m_ev3 {k21 : Nat → Int32 → Int32 → Int32 → Int32 → Int32 → vS → Option (Int32 × vS)} {k63 : Nat → Int32 → Int32 → Int32 → Int32 → Int32 → Int32 → vS → Option (Int32 × vS)} {w y z : Int32} (hh : HandM m nn r) {i j : Nat} (hi : i < nn) (hj : j < i) : ∀ (d k n x : Nat), k + d = j → d < n → H_X9_told_73 N k21 k63 n 322 w y z (nI x) (nI i) (nI j) (nI k) (S m) = k63 322 w y z (nI (fld (fun k x => x + ev r i j k) d k x)) (nI i) (nI (j + 1)) (S m)
  | _, _, 0, _, _, h => by omega
  | 0, k, n + 1, x, hk, _ => by
    have h8 := hh.2.1
    refine Eq.trans u_H_X9_told_73 ?_
    refine e_t (by rw [nI_leI (by omega) (by omega)]; omega) ?_
    refine e_nm ?_
    rw [addR]
    rfl
  | d + 1, k, n + 1, x, hk, hd => by
    have h8 := hh.2.1
    have h2 : (2 : Nat) ^ nn ≤ 2 ^ 8 := Nat.pow_le_pow_right (by decide) h8
    have hi' := hh.2.2 i hi
    have hj' := hh.2.2 j (by omega)
    have b1 := bt_lt (r i) j
    have b2' := bt_lt (r i) k
    have b3 := bt_lt (r j) k
    refine Eq.trans u_H_X9_told_73 ?_
    refine e_f (by rw [nI_leI (by omega) (by omega)]; omega) ?_
    refine e_ldR fmO fmR6 ?_
    refine e_alIV fmA6 rfl (by omega) hi'.1 ?_
    refine e_ldR fmO fmR6 ?_
    refine e_alIV fmA6 rfl (by omega) hi'.1 ?_
    refine e_ldR fmO fmR6 ?_
    refine e_alIV fmA6 rfl (by omega) hj'.1 ?_
    refine e_nm ?_
    refine e_nzI (by decide) ?_
    rw [shr_and (by omega) (by omega), shr_and (by omega) (by omega), shr_and (by omega) (by omega), nI_add, nI_add, remR (by omega) (by decide) (by decide)]
    have e0 : fld (fun k x => x + ev r i j k) (d + 1) k x = fld (fun k x => x + ev r i j k) d (k + 1) (x + ev r i j k) := rfl
    rw [e0]
    by_cases e : (bt (r i) j + bt (r i) k + bt (r j) k) % 3 = 0
    · refine e_t (by rw [e]; rfl) ?_
      refine e_nm ?_
      refine e_nm ?_
      rw [addR, addR, show ev r i j k = 1 from if_pos e]
      exact m_ev3 hh hi hj d (k + 1) n (x + 1) (by omega) (by omega)
    · refine e_f (by rw [eqR (by decide) (by omega)]; exact e) ?_
      refine e_nm ?_
      refine e_nm ?_
      rw [show nI x + (0 : Int32) = nI x from Int32.add_zero _, addR, show ev r i j k = 0 from if_neg e]
      exact m_ev3 hh hi hj d (k + 1) n x (by omega) (by omega)
theorem m_ev2 {k21 : Nat → Int32 → Int32 → Int32 → Int32 → Int32 → vS → Option (Int32 × vS)} {w y z : Int32} (hN : 100 ≤ N) (hh : HandM m nn r) {i : Nat} (hi : i < nn) : ∀ (d j n x : Nat), j + d = i → d < n → H_X9_told_63 N k21 n 322 w y z (nI x) (nI i) (nI j) (S m) = k21 322 w y z (nI (fld (E3 r i) d j x)) (nI (i + 1)) (S m)
  | _, _, 0, _, _, h => by omega
  | 0, j, n + 1, x, hj, _ => by
    have h8 := hh.2.1
    refine Eq.trans u_H_X9_told_63 ?_
    refine e_t (by rw [nI_leI (by omega) (by omega)]; omega) ?_
    refine e_nm ?_
    rw [addR]
    rfl
  | d + 1, j, n + 1, x, hj, hd => by
    have h8 := hh.2.1
    refine Eq.trans u_H_X9_told_63 ?_
    refine e_f (by rw [nI_leI (by omega) (by omega)]; omega) ?_
    refine Eq.trans (m_ev3 (N := N) hh hi (show j < i by omega) j 0 N x (by omega) (by omega)) ?_
    exact m_ev2 hN hh hi d (j + 1) n (E3 r i j x) (by omega) (by omega)
def tv (w a b c e : Nat) : Nat := if w = 0 then a else if w = 1 then b / 2 else if w = 2 then c else e
theorem m_told_l {w : Nat} (hw : w < 4) (hN : 100 ≤ N) (hh : HandM m nn r) : ∀ (d i n x y z : Nat), i + d = nn → d < n → x ≤ 9 * i → y ≤ 9 → H_X9_told_21 N n 322 (nI w) (nI x) (nI y) (nI z) (nI i) (S m) = some (nI (tv w nn (fld (spop r) d i x) (fld (mpop r) d i y) (fld (E2 r) d i z)), S m)
  | _, _, 0, _, _, _, _, h, _, _ => by omega
  | 0, i, n + 1, x, y, z, hi, _, hx, hy => by
    have h8 := hh.2.1
    refine Eq.trans u_H_X9_told_21 ?_
    refine e_ldIV fmO hh.1 ?_
    refine e_t (by rw [nI_leI (by omega) (by omega)]; omega) ?_
    rcases (show w = 0 ∨ w = 1 ∨ w = 2 ∨ w = 3 by omega) with rfl | rfl | rfl | rfl
    · refine e_t rfl ?_
      exact e_ldIV fmO hh.1 rfl
    · refine e_f (by decide) ?_
      refine e_t rfl ?_
      refine e_nzI (by decide) ?_
      rw [divR (by omega) (by decide) (by decide)]
      rfl
    · refine e_f (by decide) ?_
      refine e_f (by decide) ?_
      exact e_t rfl rfl
    · refine e_f (by decide) ?_
      refine e_f (by decide) ?_
      exact e_f (by decide) rfl
  | d + 1, i, n + 1, x, y, z, hi, hd, hx, hy => by
    have h8 := hh.2.1
    have hr := hh.2.2 i (by omega)
    have h2 : (2 : Nat) ^ nn ≤ 2 ^ 8 := Nat.pow_le_pow_right (by decide) h8
    have hp := pop_le (r i)
    refine Eq.trans u_H_X9_told_21 ?_
    refine e_ldIV fmO hh.1 ?_
    refine e_f (by rw [nI_leI (by omega) (by omega)]; omega) ?_
    refine e_ldR fmO fmR6 ?_
    refine e_alIV fmA6 rfl (by omega) hr.1 ?_
    refine e_bnd (m_ones (by omega) (by omega)) ?_
    refine e_nm ?_
    rw [nI_add]
    have hrec := m_told_l hw hN hh d (i + 1) n (x + pop (r i)) (max y (pop (r i))) (E2 r i z) (by omega) (by omega) (by omega) (by omega)
    by_cases q : pop (r i) ≤ y
    · refine e_t (by rw [nI_leI (by omega) (by omega)]; exact q) ?_
      rw [show max y (pop (r i)) = y by omega] at hrec
      refine Eq.trans (m_ev2 (N := N) hN hh (show i < nn by omega) i 0 N z (by omega) (by omega)) ?_
      refine Eq.trans hrec ?_
      rw [show fld (mpop r) (d + 1) i y = fld (mpop r) d (i + 1) y from congrArg (fld (mpop r) d (i + 1)) (show max y (pop (r i)) = y by omega)]
      rfl
    · refine e_f (by rw [nI_leI (by omega) (by omega)]; exact q) ?_
      rw [show max y (pop (r i)) = pop (r i) by omega] at hrec
      refine Eq.trans (m_ev2 (N := N) hN hh (show i < nn by omega) i 0 N z (by omega) (by omega)) ?_
      refine Eq.trans hrec ?_
      rw [show fld (mpop r) (d + 1) i y = fld (mpop r) d (i + 1) (pop (r i)) from congrArg (fld (mpop r) d (i + 1)) (show max y (pop (r i)) = pop (r i) by omega)]
      rfl
end MODEL
theorem E2_start (r : Nat → Nat) {nn : Nat} (h : 2 ≤ nn) : fld (E2 r) nn 0 0 = fld (E2 r) (nn - 2) 2 0 := by
  obtain ⟨k, rfl⟩ : ∃ k, nn = k + 2 := ⟨nn - 2, by omega⟩
  rfl
theorem call_told (hN : 100 ≤ N) (hR : Rel m) (x : Int32) : SameI (F_X8_told N 0 x) (F_X9_told N 322 x) m := by
  obtain ⟨-, ⟨nn, r, hh⟩, -⟩ := id hR
  have hn := hh.net
  have hm := hh.mod
  have h8 := hn.2.1
  rcases rng x (n := 4) (by decide) with ⟨w, hw, rfl⟩ | hx
  · refine SameI.ro (nI (tv w nn (fld (spop r) nn 0 0) (fld (mpop r) nn 0 0) (fld (E2 r) nn 0 0))) hR ?_ ?_
    · unfold F_X8_told
      refine e_rcv fxO ?_
      rcases (show w = 0 ∨ w = 1 ∨ w = 2 ∨ w = 3 by omega) with rfl | rfl | rfl | rfl
      · refine e_t rfl ?_
        refine e_ldR fxO fxR7 ?_
        exact e_ldIV net286.o hn.1 rfl
      · refine e_f (by decide) ?_
        refine e_t rfl ?_
        refine e_ldR fxO fxR7 ?_
        refine e_bnd ?_ rfl
        unfold F_X3_lines
        refine e_rcv net286.o ?_
        exact c_lines_l (N := N) hn nn 0 N 0 (by omega) (by omega) (by omega)
      · refine e_f (by decide) ?_
        refine e_f (by decide) ?_
        refine e_t rfl ?_
        refine e_ldR fxO fxR7 ?_
        refine e_bnd ?_ rfl
        unfold F_X3_mostLines
        refine e_rcv net286.o ?_
        exact c_most_l (N := N) hn nn 0 N 0 (by omega) (by omega) (by omega)
      · refine e_f (by decide) ?_
        refine e_f (by decide) ?_
        refine e_f (by decide) ?_
        refine e_t rfl ?_
        refine e_ldR fxO fxR7 ?_
        refine e_bnd ?_ rfl
        unfold F_X3_evenTriples
        refine e_rcv net286.o ?_
        by_cases q : 2 ≤ nn
        · rw [E2_start r q]
          exact c_ev1 (N := N) hN hn hh.2.1 (nn - 2) 2 N 0 (by omega) (by omega) (by omega)
        · have e0 : fld (E2 r) nn 0 0 = 0 := by
            rcases (show nn = 0 ∨ nn = 1 by omega) with rfl | rfl <;> rfl
          rw [e0]
          obtain ⟨N', rfl⟩ : ∃ N', N = N' + 1 := ⟨N - 1, by omega⟩
          refine Eq.trans u_H_X3_evenTriples_4 ?_
          refine e_ldIV net286.o hn.1 ?_
          exact e_t (by rw [leR (by decide) (by omega)]; show nn ≤ 2; omega) rfl
    · unfold F_X9_told
      refine e_rcv fmO ?_
      refine g_y (m_inR (n := 3) _ (by decide)) (inr hw (by decide)) ?_
      exact m_told_l (N := N) hw hN hm nn 0 N 0 0 0 (by omega) (by omega) (by omega) (by omega)
  · have hne : ∀ k, k < 4 → x ≠ nI k := fun k hk e => hx (e ▸ inr hk (by decide))
    refine SameI.ro (-1) hR ?_ ?_
    · unfold F_X8_told
      refine e_rcv fxO ?_
      refine e_f (hne 0 (by omega)) ?_
      refine e_f (hne 1 (by omega)) ?_
      refine e_f (hne 2 (by omega)) ?_
      exact e_f (hne 3 (by omega)) rfl
    · unfold F_X9_told
      refine e_rcv fmO ?_
      exact g_n (m_inR (n := 3) _ (by decide)) hx rfl
end TOLD
