section UROWS
theorem u_J_X1_ranked_84 {N : Nat} {k7 : Nat → Int32 → Int32 → Int32 → vS → Option (Int32 × vS)} {k30 : Nat → Int32 → Int32 → Int32 → Int32 → Int32 → vS → Option (Int32 × vS)} {a0 : Nat} {l1 : Int32} {l2 : Int32} {l3 : Int32} {l4 : Int32} {l5 : Int32} {s : vS} : J_X1_ranked_84 N k7 k30 a0 l1 l2 l3 l4 l5 s = (nm (l5 + (1 : Int32)) (fun l5_19 => k30 a0 l1 l2 l3 l4 l5_19 s)) := rfl
theorem u_J_X1_ranked_81 {N : Nat} {k7 : Nat → Int32 → Int32 → Int32 → vS → Option (Int32 × vS)} {k30 : Nat → Int32 → Int32 → Int32 → Int32 → Int32 → vS → Option (Int32 × vS)} {a0 : Nat} {l1 : Int32} {l2 : Int32} {l3 : Int32} {l4 : Int32} {l5 : Int32} {s : vS} : J_X1_ranked_81 N k7 k30 a0 l1 l2 l3 l4 l5 s = (nm (l4 + (1 : Int32)) (fun l4_18 => J_X1_ranked_84 N k7 k30 a0 l1 l2 l3 l4_18 l5 s)) := rfl
theorem u_H_X1_ranked_30 {N : Nat} {k7 : Nat → Int32 → Int32 → Int32 → vS → Option (Int32 × vS)} {n : Nat} {a0 : Nat} {l1 : Int32} {l2 : Int32} {l3 : Int32} {l4 : Int32} {l5 : Int32} {s : vS} : H_X1_ranked_30 N k7 (n + 1) a0 l1 l2 l3 l4 l5 s = (ldR s a0 1 6 (fun r7 => alI s r7 (l1 + (1 : Int32)) (fun v8 => if v8 ≤ l5 then (if l4 = l2 then (some (l3, s)) else (nm (l3 + (1 : Int32)) (fun l3_9 => k7 a0 l1 l2 l3_9 s))) else (ldR s a0 1 10 (fun r10 => alI s r10 l5 (fun v11 => ldR s a0 1 10 (fun r12 => alI s r12 l3 (fun v13 => if v13 < v11 then (J_X1_ranked_81 N k7 (H_X1_ranked_30 N k7 n) a0 l1 l2 l3 l4 l5 s) else (ldR s a0 1 10 (fun r14 => alI s r14 l5 (fun v15 => ldR s a0 1 10 (fun r16 => alI s r16 l3 (fun v17 => if v15 = v17 then (if l3 ≤ l5 then (J_X1_ranked_84 N k7 (H_X1_ranked_30 N k7 n) a0 l1 l2 l3 l4 l5 s) else (J_X1_ranked_81 N k7 (H_X1_ranked_30 N k7 n) a0 l1 l2 l3 l4 l5 s)) else (J_X1_ranked_84 N k7 (H_X1_ranked_30 N k7 n) a0 l1 l2 l3 l4 l5 s)))))))))))))) := rfl
theorem u_H_X1_ranked_7 {N : Nat} {n : Nat} {a0 : Nat} {l1 : Int32} {l2 : Int32} {l3 : Int32} {s : vS} : H_X1_ranked_7 N (n + 1) a0 l1 l2 l3 s = (ldR s a0 1 6 (fun r3 => alI s r3 (l1 + (1 : Int32)) (fun v4 => if v4 ≤ l3 then (some ((-1 : Int32), s)) else (ldR s a0 1 6 (fun r5 => alI s r5 l1 (fun v6 => H_X1_ranked_30 N (H_X1_ranked_7 N n) N a0 l1 l2 l3 (0 : Int32) v6 s)))))) := rfl
theorem u_F_X1_ranked {N : Nat} {a0 : Nat} {l1 : Int32} {l2 : Int32} {s : vS} : F_X1_ranked N a0 l1 l2 s = (rcv s a0 1 (ldR s a0 1 6 (fun r1 => alI s r1 l1 (fun v2 => H_X1_ranked_7 N N a0 l1 l2 v2 s)))) := rfl
theorem u_J_X9_rank_205 {N : Nat} {k81 : Nat → Int32 → Int32 → Int32 → Int32 → vS → Option (Int32 × vS)} {a0 : Nat} {l1 : Int32} {l2 : Int32} {l5 : Int32} {k0 : Int32} {s : vS} : J_X9_rank_205 N k81 a0 l1 l2 l5 k0 s = (nm (l5 + (1 : Int32)) (fun l5_20 => k81 a0 l1 l2 k0 l5_20 s)) := rfl
theorem u_J_X9_rank_203 {N : Nat} {k81 : Nat → Int32 → Int32 → Int32 → Int32 → vS → Option (Int32 × vS)} {a0 : Nat} {l1 : Int32} {l2 : Int32} {l4 : Int32} {l5 : Int32} {s : vS} : J_X9_rank_203 N k81 a0 l1 l2 l4 l5 s = (J_X9_rank_205 N k81 a0 l1 l2 l5 l4 s) := rfl
theorem u_J_X9_rank_172 {N : Nat} {k81 : Nat → Int32 → Int32 → Int32 → Int32 → vS → Option (Int32 × vS)} {k94 : Nat → Int32 → Int32 → Int32 → Int32 → Int32 → Int32 → vS → Option (Int32 × vS)} {a0 : Nat} {l1 : Int32} {l2 : Int32} {l4 : Int32} {l5 : Int32} {l7 : Int32} {k0 : Int32} {k1 : Int32} {s : vS} : J_X9_rank_172 N k81 k94 a0 l1 l2 l4 l5 l7 k0 k1 s = (nm ((k0 + k1)) (fun l6_21 => nm (l7 + (1 : Int32)) (fun l7_22 => k94 a0 l1 l2 l4 l5 l6_21 l7_22 s))) := rfl
theorem u_J_X9_rank_158 {N : Nat} {k81 : Nat → Int32 → Int32 → Int32 → Int32 → vS → Option (Int32 × vS)} {k94 : Nat → Int32 → Int32 → Int32 → Int32 → Int32 → Int32 → vS → Option (Int32 × vS)} {a0 : Nat} {l1 : Int32} {l2 : Int32} {l4 : Int32} {l5 : Int32} {l6 : Int32} {l7 : Int32} {k0 : Int32} {s : vS} : J_X9_rank_158 N k81 k94 a0 l1 l2 l4 l5 l6 l7 k0 s = (if k0 = (0 : Int32) then (J_X9_rank_172 N k81 k94 a0 l1 l2 l4 l5 l7 l6 (0 : Int32) s) else (J_X9_rank_172 N k81 k94 a0 l1 l2 l4 l5 l7 l6 (1 : Int32) s)) := rfl
theorem u_J_X9_rank_157 {N : Nat} {k81 : Nat → Int32 → Int32 → Int32 → Int32 → vS → Option (Int32 × vS)} {k94 : Nat → Int32 → Int32 → Int32 → Int32 → Int32 → Int32 → vS → Option (Int32 × vS)} {a0 : Nat} {l1 : Int32} {l2 : Int32} {l4 : Int32} {l5 : Int32} {l6 : Int32} {l7 : Int32} {s : vS} : J_X9_rank_157 N k81 k94 a0 l1 l2 l4 l5 l6 l7 s = (J_X9_rank_158 N k81 k94 a0 l1 l2 l4 l5 l6 l7 (0 : Int32) s) := rfl
theorem u_J_X9_rank_153 {N : Nat} {k81 : Nat → Int32 → Int32 → Int32 → Int32 → vS → Option (Int32 × vS)} {k94 : Nat → Int32 → Int32 → Int32 → Int32 → Int32 → Int32 → vS → Option (Int32 × vS)} {a0 : Nat} {l1 : Int32} {l2 : Int32} {l4 : Int32} {l5 : Int32} {l6 : Int32} {l7 : Int32} {s : vS} : J_X9_rank_153 N k81 k94 a0 l1 l2 l4 l5 l6 l7 s = (J_X9_rank_158 N k81 k94 a0 l1 l2 l4 l5 l6 l7 (1 : Int32) s) := rfl
theorem u_H_X9_rank_94 {N : Nat} {k81 : Nat → Int32 → Int32 → Int32 → Int32 → vS → Option (Int32 × vS)} {n : Nat} {a0 : Nat} {l1 : Int32} {l2 : Int32} {l4 : Int32} {l5 : Int32} {l6 : Int32} {l7 : Int32} {s : vS} : H_X9_rank_94 N k81 (n + 1) a0 l1 l2 l4 l5 l6 l7 s = (if (19 : Int32) ≤ l7 then (ldR s a0 9 0 (fun r8 => alI s r8 l5 (fun v9 => if v9 = l1 then (if l6 = l2 then (J_X9_rank_205 N k81 a0 l1 l2 l5 l5 s) else (J_X9_rank_203 N k81 a0 l1 l2 l4 l5 s)) else (J_X9_rank_203 N k81 a0 l1 l2 l4 l5 s)))) else (ldR s a0 9 0 (fun r10 => alI s r10 l7 (fun v11 => if v11 = l1 then (ldR s a0 9 27 (fun r12 => alI s r12 l7 (fun v13 => ldR s a0 9 27 (fun r14 => alI s r14 l5 (fun v15 => if v15 < v13 then (J_X9_rank_153 N k81 (H_X9_rank_94 N k81 n) a0 l1 l2 l4 l5 l6 l7 s) else (ldR s a0 9 27 (fun r16 => alI s r16 l7 (fun v17 => ldR s a0 9 27 (fun r18 => alI s r18 l5 (fun v19 => if v17 = v19 then (if l5 ≤ l7 then (J_X9_rank_157 N k81 (H_X9_rank_94 N k81 n) a0 l1 l2 l4 l5 l6 l7 s) else (J_X9_rank_153 N k81 (H_X9_rank_94 N k81 n) a0 l1 l2 l4 l5 l6 l7 s)) else (J_X9_rank_157 N k81 (H_X9_rank_94 N k81 n) a0 l1 l2 l4 l5 l6 l7 s))))))))))) else (J_X9_rank_157 N k81 (H_X9_rank_94 N k81 n) a0 l1 l2 l4 l5 l6 l7 s))))) := rfl
theorem u_H_X9_rank_81 {N : Nat} {n : Nat} {a0 : Nat} {l1 : Int32} {l2 : Int32} {l4 : Int32} {l5 : Int32} {s : vS} : H_X9_rank_81 N (n + 1) a0 l1 l2 l4 l5 s = (if (19 : Int32) ≤ l5 then (some (l4, s)) else (H_X9_rank_94 N (H_X9_rank_81 N n) N a0 l1 l2 l4 l5 (0 : Int32) (0 : Int32) s)) := rfl
theorem u_J_X9_rank_44 {N : Nat} {k20 : Nat → Int32 → Int32 → Int32 → Int32 → vS → Option (Int32 × vS)} {a0 : Nat} {l1 : Int32} {l2 : Int32} {l4 : Int32} {k0 : Int32} {k1 : Int32} {s : vS} : J_X9_rank_44 N k20 a0 l1 l2 l4 k0 k1 s = (nm ((k0 + k1)) (fun l3_6 => nm (l4 + (1 : Int32)) (fun l4_7 => k20 a0 l1 l2 l3_6 l4_7 s))) := rfl
theorem u_H_X9_rank_20 {N : Nat} {n : Nat} {a0 : Nat} {l1 : Int32} {l2 : Int32} {l3 : Int32} {l4 : Int32} {s : vS} : H_X9_rank_20 N (n + 1) a0 l1 l2 l3 l4 s = (if (19 : Int32) ≤ l4 then (if l2 < l3 then (ldI s a0 9 5 (fun v2 => if l1 ≤ v2 then (bnd (F_X9_countAll N a0 l1 s) (fun v3 s => H_X9_rank_81 N N a0 l1 l2 (-1 : Int32) (0 : Int32) s)) else (some ((-3 : Int32), s)))) else (some ((-1 : Int32), s))) else (ldR s a0 9 0 (fun r4 => alI s r4 l4 (fun v5 => if v5 = l1 then (J_X9_rank_44 N (H_X9_rank_20 N n) a0 l1 l2 l4 l3 (1 : Int32) s) else (J_X9_rank_44 N (H_X9_rank_20 N n) a0 l1 l2 l4 l3 (0 : Int32) s))))) := rfl
theorem u_J_X9_rank_13 {N : Nat} {s : vS} : J_X9_rank_13 N s = (some ((-1 : Int32), s)) := rfl
theorem u_F_X9_rank {N : Nat} {a0 : Nat} {l1 : Int32} {l2 : Int32} {s : vS} : F_X9_rank N a0 l1 l2 s = (rcv s a0 9 (bnd (F_X9_in N l1 (0 : Int32) (4 : Int32) s) (fun v1 s => if v1 = (0 : Int32) then (J_X9_rank_13 N  s) else (if (0 : Int32) ≤ l2 then (H_X9_rank_20 N N a0 l1 l2 (0 : Int32) (0 : Int32) s) else (J_X9_rank_13 N  s))))) := rfl
end UROWS
section RANK
variable {N : Nat} {m m' : vM} {s : vS}
theorem nI_subN {a b : Nat} (h : b ≤ a) : nI a - nI b = nI (a - b) := by
  have e := nI_add (a - b) b
  rw [show a - b + b = a by omega] at e
  rw [← e, Int32.add_sub_cancel]
theorem c_sizeR (hT : Tab m) (x : Int32) : F_X1_hasSize N 1 x (S m) = some (b2 ((0 : Int32) ≤ x ∧ x < nI 5), S m) := (c_hasSize (q := false) hT x).trans (congrArg (fun t => some (t, S m)) (b2_c (in_r x (n := 4) (by decide))))
section PUR
variable {t : Nat → Nat} {size k : Nat}
abbrev Pk (t : Nat → Nat) (size k j : Nat) : Prop := sz_ false j = size ∧ (t k < t j ∨ (t j = t k ∧ j < k))
def rk (t : Nat → Nat) (size k : Nat) : Nat := cnt (Pk t size k) 19
theorem rk_lt {k' : Nat} (hk : k < 19) (h1 : sz_ false k = size) (hb : t k' < t k ∨ (t k = t k' ∧ k < k')) : rk t size k < rk t size k' := by
  refine cnt_ltm (k0 := k) 19 (fun j hj w => ?_) hk ⟨h1, hb⟩ (fun w => ?_)
  · obtain ⟨w1, w2⟩ := w
    exact ⟨w1, by omega⟩
  · obtain ⟨w1, w2⟩ := w
    omega
theorem rk_inj {k' : Nat} (hk : k < 19) (hk' : k' < 19) (h1 : sz_ false k = size) (h2 : sz_ false k' = size) (h : rk t size k = rk t size k') : k = k' := by
  rcases (show (t k' < t k ∨ (t k = t k' ∧ k < k')) ∨ (t k < t k' ∨ (t k' = t k ∧ k' < k)) ∨ k = k' by omega) with z | z | z
  · exact absurd (rk_lt hk h1 z) (by omega)
  · exact absurd (rk_lt hk' h2 z) (by omega)
  · exact z
/-- the first one of that rank, if there is one -/
def Rk (t : Nat → Nat) (size y : Nat) (e : Nat) (v : Int32) : Prop := (∃ k, k < e ∧ sz_ false k = size ∧ rk t size k = y ∧ v = nI k) ∨ (v = -1 ∧ ∀ k, k < e → sz_ false k = size → rk t size k ≠ y)
theorem Rk_u {y : Nat} {v w : Int32} (h1 : Rk t size y 19 v) (h2 : Rk t size y 19 w) : v = w := by
  rcases h1 with ⟨k, a1, a2, a3, a4⟩ | ⟨a1, a2⟩ <;> rcases h2 with ⟨l, b1, b2', b3, b4⟩ | ⟨b1, b2'⟩
  · rw [a4, b4, rk_inj a1 b1 a2 b2' (a3.trans b3.symm)]
  · exact absurd a3 (b2' k a1 a2)
  · exact absurd b3 (a2 l b1 b2')
  · rw [a1, b1]
theorem fs5 : ∀ size, size < 5 → fs_ false size ≤ fs_ false (size + 1) ∧ fs_ false (size + 1) ≤ 19 ∧ (∀ k, k < 19 → ((fs_ false size ≤ k ∧ k < fs_ false (size + 1)) ↔ sz_ false k = size)) ∧ cnt (fun k => sz_ false k = size) 19 = fs_ false (size + 1) - fs_ false size := by decide +kernel
theorem cnt_ext {p : Nat → Prop} [DecidablePred p] {a : Nat} : ∀ b, a ≤ b → (∀ k, a ≤ k → k < b → ¬ p k) → cnt p b = cnt p a
  | 0, h, _ => by rw [show a = 0 by omega]
  | b + 1, h, hp => by
    by_cases z : a = b + 1
    · rw [z]
    · rw [cnt, if_neg (hp b (by omega) (by omega)), cnt_ext b (by omega) (fun k h1 h2 => hp k h1 (by omega))]
      rfl
end PUR
section CLS
variable {t : Nat → Nat} {size : Nat}
theorem c_rk_i {k7 : Nat → Int32 → Int32 → Int32 → vS → Option (Int32 × vS)} {k y : Nat} (hs : size < 5) (hT : Tab m) (ht : ∀ j, j < 19 → rI m 33 j = nI (t j) ∧ t j < 1000) (hk : k < 19) (hy : y < 100) : ∀ (d j n : Nat), j + d = fs_ false (size + 1) → d < n → fs_ false size ≤ j → H_X1_ranked_30 N k7 n 1 (nI size) (nI y) (nI k) (nI (cnt (Pk t size k) j)) (nI j) (S m) = if cnt (Pk t size k) (fs_ false (size + 1)) = y then some (nI k, S m) else k7 1 (nI size) (nI y) (nI (k + 1)) (S m)
  | _, _, 0, _, h, _ => by omega
  | 0, j, n + 1, hj, _, _ => by
    obtain ⟨f1, f2, f3, -⟩ := fs5 size hs
    have hcl := cnt_le (Pk t size k) j
    obtain rfl : j = fs_ false (size + 1) := by omega
    refine Eq.trans u_H_X1_ranked_30 ?_
    refine e_ldR ffO ffR6 ?_
    refine e_alIV ffA6 (show nI size + 1 = nI (size + 1) by rw [addR]) (by omega) (hT.2.2.2.1 false (size + 1) (by omega)) ?_
    refine e_t (by rw [nI_leI (by omega) (by omega)]; omega) ?_
    by_cases z : cnt (Pk t size k) (fs_ false (size + 1)) = y
    · rw [if_pos z]
      exact e_t (by rw [z]) rfl
    · rw [if_neg z]
      refine e_f (by rw [nI_eq (by omega) (by omega)]; exact z) ?_
      refine e_nm ?_
      rw [addR]
  | d + 1, j, n + 1, hj, hd, hf => by
    obtain ⟨f1, f2, f3, -⟩ := fs5 size hs
    have ih := c_rk_i (k7 := k7) hs hT ht hk hy d (j + 1) n (by omega) (by omega) (by omega)
    have hzj : sz_ false j = size := (f3 j (by omega)).mp ⟨hf, by omega⟩
    have htj := ht j (by omega)
    have htk := ht k hk
    rw [cnt] at ih
    refine Eq.trans u_H_X1_ranked_30 ?_
    refine e_ldR ffO ffR6 ?_
    refine e_alIV ffA6 (show nI size + 1 = nI (size + 1) by rw [addR]) (by omega) (hT.2.2.2.1 false (size + 1) (by omega)) ?_
    refine e_f (by rw [nI_leI (by omega) (by omega)]; omega) ?_
    refine e_ldR ffO ffR10 ?_
    refine e_alIV ffA10 rfl (by omega) htj.1 ?_
    refine e_ldR ffO ffR10 ?_
    refine e_alIV ffA10 rfl (by omega) htk.1 ?_
    by_cases z1 : t k < t j
    · refine e_t (by rw [nI_ltI (by omega) (by omega)]; exact z1) ?_
      refine e_nm ?_
      refine e_nm ?_
      rw [addR, addR]
      rw [if_pos (show Pk t size k j from ⟨hzj, Or.inl z1⟩)] at ih
      exact ih
    · refine e_f (by rw [nI_ltI (by omega) (by omega)]; exact z1) ?_
      refine e_ldR ffO ffR10 ?_
      refine e_alIV ffA10 rfl (by omega) htj.1 ?_
      refine e_ldR ffO ffR10 ?_
      refine e_alIV ffA10 rfl (by omega) htk.1 ?_
      by_cases z2 : t j = t k
      · refine e_t (by rw [z2]) ?_
        by_cases z3 : k ≤ j
        · refine e_t (by rw [nI_leI (by omega) (by omega)]; exact z3) ?_
          refine e_nm ?_
          rw [addR]
          rw [if_neg (show ¬ Pk t size k j from fun w => by obtain ⟨w1, w2⟩ := w; omega)] at ih
          exact ih
        · refine e_f (by rw [nI_leI (by omega) (by omega)]; exact z3) ?_
          refine e_nm ?_
          refine e_nm ?_
          rw [addR, addR]
          rw [if_pos (show Pk t size k j from ⟨hzj, Or.inr ⟨z2, by omega⟩⟩)] at ih
          exact ih
      · refine e_f (by rw [nI_eq (by omega) (by omega)]; exact z2) ?_
        refine e_nm ?_
        rw [addR]
        rw [if_neg (show ¬ Pk t size k j from fun w => by obtain ⟨w1, w2⟩ := w; omega)] at ih
        exact ih
theorem c_rk_l {y : Nat} (hN : 100 ≤ N) (hs : size < 5) (hT : Tab m) (ht : ∀ j, j < 19 → rI m 33 j = nI (t j) ∧ t j < 1000) (hy : y < 100) : ∀ (d k n : Nat), k + d = fs_ false (size + 1) → d < n → fs_ false size ≤ k → (∀ k', k' < k → sz_ false k' = size → rk t size k' ≠ y) → ∃ v, H_X1_ranked_7 N n 1 (nI size) (nI y) (nI k) (S m) = some (v, S m) ∧ Rk t size y 19 v
  | _, _, 0, _, h, _, _ => by omega
  | 0, k, n + 1, hj, _, _, hno => by
    obtain ⟨f1, f2, f3, -⟩ := fs5 size hs
    refine ⟨-1, ?_, Or.inr ⟨rfl, fun k' h1 h2 => hno k' (by have := (f3 k' h1).mpr h2; omega) h2⟩⟩
    refine Eq.trans u_H_X1_ranked_7 ?_
    refine e_ldR ffO ffR6 ?_
    refine e_alIV ffA6 (show nI size + 1 = nI (size + 1) by rw [addR]) (by omega) (hT.2.2.2.1 false (size + 1) (by omega)) ?_
    exact e_t (by rw [nI_leI (by omega) (by omega)]; omega) rfl
  | d + 1, k, n + 1, hj, hd, hf, hno => by
    obtain ⟨f1, f2, f3, -⟩ := fs5 size hs
    have hzk : sz_ false k = size := (f3 k (by omega)).mp ⟨hf, by omega⟩
    have e0 : cnt (Pk t size k) (fs_ false size) = 0 := cnt_0 _ (fun j hj w => by
      have := (f3 j (by omega)).mpr w.1
      omega)
    have e1 : cnt (Pk t size k) (fs_ false (size + 1)) = rk t size k := (cnt_ext 19 f2 (fun j h1 h2 w => by
      have := (f3 j h2).mpr w.1
      omega)).symm
    have inner := c_rk_i (N := N) (k7 := H_X1_ranked_7 N n) (y := y) hs hT ht (show k < 19 by omega) hy (fs_ false (size + 1) - fs_ false size) (fs_ false size) N (by omega) (by omega) (by omega)
    rw [e0, e1] at inner
    have start : ∀ R, H_X1_ranked_30 N (H_X1_ranked_7 N n) N 1 (nI size) (nI y) (nI k) 0 (nI (fs_ false size)) (S m) = R → H_X1_ranked_7 N (n + 1) 1 (nI size) (nI y) (nI k) (S m) = R := fun R hR => by
      refine Eq.trans u_H_X1_ranked_7 ?_
      refine e_ldR ffO ffR6 ?_
      refine e_alIV ffA6 (show nI size + 1 = nI (size + 1) by rw [addR]) (by omega) (hT.2.2.2.1 false (size + 1) (by omega)) ?_
      refine e_f (by rw [nI_leI (by omega) (by omega)]; omega) ?_
      refine e_ldR ffO ffR6 ?_
      refine e_alIV ffA6 rfl (by omega) (hT.2.2.2.1 false size (by omega)) ?_
      exact hR
    by_cases z : rk t size k = y
    · rw [if_pos z] at inner
      exact ⟨nI k, start _ inner, Or.inl ⟨k, by omega, hzk, z, rfl⟩⟩
    · rw [if_neg z] at inner
      obtain ⟨v, g1, g2⟩ := c_rk_l hN hs hT ht hy d (k + 1) n (by omega) (by omega) (by omega) (fun k' h1 h2 => by
        by_cases w : k' = k
        · rw [w]; exact z
        · exact hno k' (by omega) h2)
      exact ⟨v, start _ (inner.trans g1), g2⟩
end CLS
section MDL
variable {t : Nat → Nat} {size : Nat}
theorem m_rk_i {k81 : Nat → Int32 → Int32 → Int32 → Int32 → vS → Option (Int32 × vS)} {k y : Nat} {x : Int32} (hT : Tab m) (hs : size < 5) (ht : ∀ j, j < 19 → rI m 342 j = nI (t j) ∧ t j < 1000) (hk : k < 19) (hy : y < 100) : ∀ (d j n : Nat), j + d = 19 → d < n → H_X9_rank_94 N k81 n 322 (nI size) (nI y) x (nI k) (nI (cnt (Pk t size k) j)) (nI j) (S m) = k81 322 (nI size) (nI y) (if sz_ false k = size ∧ rk t size k = y then nI k else x) (nI (k + 1)) (S m)
  | _, _, 0, _, h => by omega
  | 0, j, n + 1, hj, _ => by
    have hcl := cnt_le (Pk t size k) j
    obtain rfl : j = 19 := by omega
    have hz := szc false k hk
    refine Eq.trans u_H_X9_rank_94 ?_
    refine e_t (by rw [leL (by decide) (by omega)]; show 19 ≤ 19; omega) ?_
    refine e_ldR fmO fmR0 ?_
    refine e_alIV fmA0 rfl (by omega) (tabF hT hk).1 ?_
    by_cases z1 : sz_ false k = size
    · refine e_t (by rw [z1]) ?_
      by_cases z2 : rk t size k = y
      · rw [if_pos (show sz_ false k = size ∧ rk t size k = y from ⟨z1, z2⟩)]
        refine e_t (by show nI (rk t size k) = _; rw [z2]) ?_
        refine e_nm ?_
        rw [addR]
      · rw [if_neg (show ¬ (sz_ false k = size ∧ rk t size k = y) from fun w => z2 w.2)]
        refine e_f (by rw [nI_eq (by omega) (by omega)]; exact z2) ?_
        refine e_nm ?_
        refine e_nm ?_
        rw [addR]
    · rw [if_neg (show ¬ (sz_ false k = size ∧ rk t size k = y) from fun w => z1 w.1)]
      refine e_f (by rw [nI_eq (by omega) (by omega)]; exact z1) ?_
      refine e_nm ?_
      refine e_nm ?_
      rw [addR]
  | d + 1, j, n + 1, hj, hd => by
    have ih := m_rk_i (k81 := k81) (x := x) hT hs ht hk hy d (j + 1) n (by omega) (by omega)
    have htj := ht j (by omega)
    have htk := ht k hk
    have hz := szc false j (show j < 19 by omega)
    rw [cnt] at ih
    refine Eq.trans u_H_X9_rank_94 ?_
    refine e_f (by rw [leL (by decide) (by omega)]; show ¬ 19 ≤ j; omega) ?_
    refine e_ldR fmO fmR0 ?_
    refine e_alIV fmA0 rfl (by omega) (tabF hT (show j < 19 by omega)).1 ?_
    by_cases z0 : sz_ false j = size
    · refine e_t (by rw [z0]) ?_
      refine e_ldR fmO fmR27 ?_
      refine e_alIV fmA27 rfl (by omega) htj.1 ?_
      refine e_ldR fmO fmR27 ?_
      refine e_alIV fmA27 rfl (by omega) htk.1 ?_
      by_cases z1 : t k < t j
      · refine e_t (by rw [nI_ltI (by omega) (by omega)]; exact z1) ?_
        refine e_nm ?_
        refine e_f (by decide) ?_
        refine e_nm ?_
        refine e_nm ?_
        rw [addR, addR]
        rw [if_pos (show Pk t size k j from ⟨z0, Or.inl z1⟩)] at ih
        exact ih
      · refine e_f (by rw [nI_ltI (by omega) (by omega)]; exact z1) ?_
        refine e_ldR fmO fmR27 ?_
        refine e_alIV fmA27 rfl (by omega) htj.1 ?_
        refine e_ldR fmO fmR27 ?_
        refine e_alIV fmA27 rfl (by omega) htk.1 ?_
        by_cases z2 : t j = t k
        · refine e_t (by rw [z2]) ?_
          by_cases z3 : k ≤ j
          · refine e_t (by rw [nI_leI (by omega) (by omega)]; exact z3) ?_
            refine e_nm ?_
            refine e_t rfl ?_
            refine e_nm ?_
            refine e_nm ?_
            rw [Int32.add_zero, addR]
            rw [if_neg (show ¬ Pk t size k j from fun w => by obtain ⟨w1, w2⟩ := w; omega)] at ih
            exact ih
          · refine e_f (by rw [nI_leI (by omega) (by omega)]; exact z3) ?_
            refine e_nm ?_
            refine e_f (by decide) ?_
            refine e_nm ?_
            refine e_nm ?_
            rw [addR, addR]
            rw [if_pos (show Pk t size k j from ⟨z0, Or.inr ⟨z2, by omega⟩⟩)] at ih
            exact ih
        · refine e_f (by rw [nI_eq (by omega) (by omega)]; exact z2) ?_
          refine e_nm ?_
          refine e_t rfl ?_
          refine e_nm ?_
          refine e_nm ?_
          rw [Int32.add_zero, addR]
          rw [if_neg (show ¬ Pk t size k j from fun w => by obtain ⟨w1, w2⟩ := w; omega)] at ih
          exact ih
    · refine e_f (by rw [nI_eq (by omega) (by omega)]; exact z0) ?_
      refine e_nm ?_
      refine e_t rfl ?_
      refine e_nm ?_
      refine e_nm ?_
      rw [Int32.add_zero, addR]
      rw [if_neg (show ¬ Pk t size k j from fun w => by obtain ⟨w1, w2⟩ := w; omega)] at ih
      exact ih
theorem m_rk_l {y : Nat} (hN : 100 ≤ N) (hT : Tab m) (hs : size < 5) (ht : ∀ j, j < 19 → rI m 342 j = nI (t j) ∧ t j < 1000) (hy : y < 100) : ∀ (d k n : Nat) (x : Int32), k + d = 19 → d < n → Rk t size y k x → ∃ v, H_X9_rank_81 N n 322 (nI size) (nI y) x (nI k) (S m) = some (v, S m) ∧ Rk t size y 19 v
  | _, _, 0, _, _, h, _ => by omega
  | 0, k, n + 1, x, hk, _, hx => by
    obtain rfl : k = 19 := by omega
    refine ⟨x, ?_, hx⟩
    refine Eq.trans u_H_X9_rank_81 ?_
    exact e_t (by rw [leL (by decide) (by omega)]; show 19 ≤ 19; omega) rfl
  | d + 1, k, n + 1, x, hk, hd, hx => by
    have inner := m_rk_i (N := N) (k81 := H_X9_rank_81 N n) (x := x) (y := y) hT hs ht (show k < 19 by omega) hy 19 0 N (by omega) (by omega)
    obtain ⟨v, g1, g2⟩ := m_rk_l hN hT hs ht hy d (k + 1) n (if sz_ false k = size ∧ rk t size k = y then nI k else x) (by omega) (by omega) (by
      by_cases z : sz_ false k = size ∧ rk t size k = y
      · rw [if_pos z]
        exact Or.inl ⟨k, by omega, z.1, z.2, rfl⟩
      · rw [if_neg z]
        rcases hx with ⟨l, a1, a2, a3, a4⟩ | ⟨a1, a2⟩
        · exact Or.inl ⟨l, by omega, a2, a3, a4⟩
        · refine Or.inr ⟨a1, fun l h1 h2 h3 => ?_⟩
          by_cases w : l = k
          · subst w
            exact z ⟨h2, h3⟩
          · exact a2 l (by omega) h2 h3)
    refine ⟨v, ?_, g2⟩
    refine Eq.trans u_H_X9_rank_81 ?_
    refine e_f (by rw [leL (by decide) (by omega)]; show ¬ 19 ≤ k; omega) ?_
    exact inner.trans g1
theorem m_rk_c {y : Int32} (hT : Tab m) (hs : size < 5) : ∀ (d k n : Nat), k + d = 19 → d < n → H_X9_rank_20 N n 322 (nI size) y (nI (cnt (fun k => sz_ false k = size) k)) (nI k) (S m) = H_X9_rank_20 N (n - d) 322 (nI size) y (nI (cnt (fun k => sz_ false k = size) 19)) (nI 19) (S m)
  | _, _, 0, _, h => by omega
  | 0, k, n + 1, hk, _ => by
    obtain rfl : k = 19 := by omega
    rfl
  | d + 1, k, n + 1, hk, hd => by
    have ih := m_rk_c (y := y) hT hs d (k + 1) n (by omega) (by omega)
    have hz := szc false k (show k < 19 by omega)
    rw [cnt] at ih
    rw [show n + 1 - (d + 1) = n - d by omega]
    refine Eq.trans ?_ ih
    refine Eq.trans u_H_X9_rank_20 ?_
    refine e_f (by rw [leL (by decide) (by omega)]; show ¬ 19 ≤ k; omega) ?_
    refine e_ldR fmO fmR0 ?_
    refine e_alIV fmA0 rfl (by omega) (tabF hT (show k < 19 by omega)).1 ?_
    by_cases z : sz_ false k = size
    · rw [if_pos z]
      refine e_t (by rw [z]) ?_
      refine e_nm ?_
      refine e_nm ?_
      rw [addR, addR]
    · rw [if_neg z]
      refine e_f (by rw [nI_eq (by omega) (by omega)]; exact z) ?_
      refine e_nm ?_
      refine e_nm ?_
      rw [Int32.add_zero, addR]
      rfl
end MDL
end RANK
