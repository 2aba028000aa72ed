section UROWS
theorem u_J_X3_keepsLines_110 {N : Nat} {k53 : Nat → Nat → Int32 → vS → Option (Int32 × vS)} {k65 : Nat → Nat → Int32 → Int32 → vS → Option (Int32 × vS)} {a0 : Nat} {a1 : Nat} {l4 : Int32} {l5 : Int32} {s : vS} : J_X3_keepsLines_110 N k53 k65 a0 a1 l4 l5 s = (nm (l5 + (1 : Int32)) (fun l5_17 => k65 a0 a1 l4 l5_17 s)) := rfl
theorem u_H_X3_keepsLines_65 {N : Nat} {k53 : Nat → Nat → Int32 → vS → Option (Int32 × vS)} {n : Nat} {a0 : Nat} {a1 : Nat} {l4 : Int32} {l5 : Int32} {s : vS} : H_X3_keepsLines_65 N k53 (n + 1) a0 a1 l4 l5 s = (if l4 ≤ l5 then (nm (l4 + (1 : Int32)) (fun l4_9 => k53 a0 a1 l4_9 s)) else (bnd (F_X3_joins N a1 l5 l4 s) (fun v10 s => if v10 = (0 : Int32) then (J_X3_keepsLines_110 N k53 (H_X3_keepsLines_65 N k53 n) a0 a1 l4 l5 s) else (ldR s a0 3 1 (fun r11 => ldR s a0 3 2 (fun r12 => alI s r12 l4 (fun v13 => alI s r11 v13 (fun v14 => ldR s a0 3 2 (fun r15 => alI s r15 l5 (fun v16 => if ((v14 >>> (v16 &&& 31)) &&& (1 : Int32)) = (0 : Int32) then (rtZ (0 : Int32) s) else (J_X3_keepsLines_110 N k53 (H_X3_keepsLines_65 N k53 n) a0 a1 l4 l5 s))))))))))) := rfl
theorem u_H_X3_keepsLines_53 {N : Nat} {n : Nat} {a0 : Nat} {a1 : Nat} {l4 : Int32} {s : vS} : H_X3_keepsLines_53 N (n + 1) a0 a1 l4 s = (ldI s a1 3 0 (fun v8 => if v8 ≤ l4 then (rtZ (1 : Int32) s) else (H_X3_keepsLines_65 N (H_X3_keepsLines_53 N n) N a0 a1 l4 (0 : Int32) s))) := rfl
theorem u_H_X3_keepsLines_5 {N : Nat} {n : Nat} {a0 : Nat} {a1 : Nat} {l3 : Int32} {l4 : Int32} {s : vS} : H_X3_keepsLines_5 N (n + 1) a0 a1 l3 l4 s = (ldI s a1 3 0 (fun v1 => if v1 ≤ l4 then (H_X3_keepsLines_53 N N a0 a1 (1 : Int32) s) else (ldI s a0 3 0 (fun v2 => if (1 : Int32) ≤ v2 then (ldR s a0 3 2 (fun r3 => ldI s a0 3 0 (fun v4 => nzI v4 (asI s r3 l4 (l3 - l3 / v4 * v4) (fun s => ldI s a0 3 0 (fun v5 => nzI v5 (nm ((l3 / v5)) (fun l3_6 => nm (l4 + (1 : Int32)) (fun l4_7 => H_X3_keepsLines_5 N n a0 a1 l3_6 l4_7 s))))))))) else (rtZ (0 : Int32) s))))) := rfl
theorem u_F_X3_keepsLines {N : Nat} {a0 : Nat} {a1 : Nat} {l2 : Int32} {s : vS} : F_X3_keepsLines N a0 a1 l2 s = (rcv s a0 3 (H_X3_keepsLines_5 N N a0 a1 l2 (0 : Int32) s)) := rfl
theorem u_J_X3_mapsFrom_49 {N : Nat} {k30 : Nat → Nat → Int32 → Int32 → Int32 → vS → Option (Int32 × vS)} {a0 : Nat} {a1 : Nat} {l2 : Int32} {l3 : Int32} {l4 : Int32} {s : vS} : J_X3_mapsFrom_49 N k30 a0 a1 l2 l3 l4 s = (nm (l4 + (1 : Int32)) (fun l4_7 => k30 a0 a1 l2 l3 l4_7 s)) := rfl
theorem u_H_X3_mapsFrom_30 {N : Nat} {n : Nat} {a0 : Nat} {a1 : Nat} {l2 : Int32} {l3 : Int32} {l4 : Int32} {s : vS} : H_X3_mapsFrom_30 N (n + 1) a0 a1 l2 l3 l4 s = (if l2 ≤ l4 then (some (l3, s)) else (bnd (F_X3_keepsLines N a0 a1 l4 s) (fun v5 s => if v5 = (0 : Int32) then (J_X3_mapsFrom_49 N (H_X3_mapsFrom_30 N n) a0 a1 l2 l3 l4 s) else (nm (l3 + (1 : Int32)) (fun l3_6 => J_X3_mapsFrom_49 N (H_X3_mapsFrom_30 N n) a0 a1 l2 l3_6 l4 s))))) := rfl
theorem u_H_X3_mapsFrom_4 {N : Nat} {n : Nat} {a0 : Nat} {a1 : Nat} {l2 : Int32} {l3 : Int32} {s : vS} : H_X3_mapsFrom_4 N (n + 1) a0 a1 l2 l3 s = (ldI s a1 3 0 (fun v1 => if v1 ≤ l3 then (H_X3_mapsFrom_30 N N a0 a1 l2 (0 : Int32) (0 : Int32) s) else (ldI s a0 3 0 (fun v2 => nm ((l2 * v2)) (fun l2_3 => nm (l3 + (1 : Int32)) (fun l3_4 => H_X3_mapsFrom_4 N n a0 a1 l2_3 l3_4 s)))))) := rfl
theorem u_F_X3_mapsFrom {N : Nat} {a0 : Nat} {a1 : Nat} {s : vS} : F_X3_mapsFrom N a0 a1 s = (rcv s a0 3 (H_X3_mapsFrom_4 N N a0 a1 (1 : Int32) (0 : Int32) s)) := rfl
theorem u_J_X9_isMap_125 {N : Nat} {k57 : Nat → Int32 → Int32 → vS → Option (Int32 × vS)} {k71 : Nat → Int32 → Int32 → Int32 → vS → Option (Int32 × vS)} {a0 : Nat} {l1 : Int32} {l4 : Int32} {l5 : Int32} {s : vS} : J_X9_isMap_125 N k57 k71 a0 l1 l4 l5 s = (nm (l5 + (1 : Int32)) (fun l5_21 => k71 a0 l1 l4 l5_21 s)) := rfl
theorem u_H_X9_isMap_71 {N : Nat} {k57 : Nat → Int32 → Int32 → vS → Option (Int32 × vS)} {n : Nat} {a0 : Nat} {l1 : Int32} {l4 : Int32} {l5 : Int32} {s : vS} : H_X9_isMap_71 N k57 (n + 1) a0 l1 l4 l5 s = (if l4 ≤ l5 then (nm (l4 + (1 : Int32)) (fun l4_11 => k57 a0 l1 l4_11 s)) else (ldR s a0 9 1 (fun r12 => alI s r12 l1 (fun v13 => bnd (F_X9_bit N l5 l4 s) (fun v14 s => if ((v13 >>> (v14 &&& 31)) &&& (1 : Int32)) = (1 : Int32) then (ldR s a0 9 6 (fun r15 => ldR s a0 9 22 (fun r16 => alI s r16 l5 (fun v17 => alI s r15 v17 (fun v18 => ldR s a0 9 22 (fun r19 => alI s r19 l4 (fun v20 => if ((v18 >>> (v20 &&& 31)) &&& (1 : Int32)) = (0 : Int32) then (rtZ (0 : Int32) s) else (J_X9_isMap_125 N k57 (H_X9_isMap_71 N k57 n) a0 l1 l4 l5 s)))))))) else (J_X9_isMap_125 N k57 (H_X9_isMap_71 N k57 n) a0 l1 l4 l5 s)))))) := rfl
theorem u_H_X9_isMap_57 {N : Nat} {n : Nat} {a0 : Nat} {l1 : Int32} {l4 : Int32} {s : vS} : H_X9_isMap_57 N (n + 1) a0 l1 l4 s = (ldR s a0 9 0 (fun r9 => alI s r9 l1 (fun v10 => if v10 ≤ l4 then (rtZ (1 : Int32) s) else (H_X9_isMap_71 N (H_X9_isMap_57 N n) N a0 l1 l4 (0 : Int32) s)))) := rfl
theorem u_H_X9_isMap_5 {N : Nat} {n : Nat} {a0 : Nat} {l1 : Int32} {l3 : Int32} {l4 : Int32} {s : vS} : H_X9_isMap_5 N (n + 1) a0 l1 l3 l4 s = (ldR s a0 9 0 (fun r1 => alI s r1 l1 (fun v2 => if v2 ≤ l4 then (H_X9_isMap_57 N N a0 l1 (1 : Int32) s) else (ldR s a0 9 22 (fun r3 => nzI (8 : Int32) (asI s r3 l4 (l3 - l3 / (8 : Int32) * (8 : Int32)) (fun s => nzI (8 : Int32) (nm ((l3 / (8 : Int32))) (fun l3_4 => ldR s a0 9 22 (fun r5 => alI s r5 l4 (fun v6 => ldI s a0 9 5 (fun v7 => if v6 < v7 then (nm (l4 + (1 : Int32)) (fun l4_8 => H_X9_isMap_5 N n a0 l1 l3_4 l4_8 s)) else (rtZ (0 : Int32) s))))))))))))) := rfl
theorem u_F_X9_isMap {N : Nat} {a0 : Nat} {l1 : Int32} {l2 : Int32} {s : vS} : F_X9_isMap N a0 l1 l2 s = (rcv s a0 9 (H_X9_isMap_5 N N a0 l1 l2 (0 : Int32) s)) := rfl
theorem u_J_X9_maps_42 {N : Nat} {k13 : Nat → Int32 → Int32 → Int32 → vS → Option (Int32 × vS)} {a0 : Nat} {l1 : Int32} {l3 : Int32} {k0 : Int32} {k1 : Int32} {s : vS} : J_X9_maps_42 N k13 a0 l1 l3 k0 k1 s = (nm ((k0 + k1)) (fun l2_5 => nm (l3 + (1 : Int32)) (fun l3_6 => k13 a0 l1 l2_5 l3_6 s))) := rfl
theorem u_H_X9_maps_13 {N : Nat} {n : Nat} {a0 : Nat} {l1 : Int32} {l2 : Int32} {l3 : Int32} {s : vS} : H_X9_maps_13 N (n + 1) a0 l1 l2 l3 s = (ldR s a0 9 0 (fun r2 => alI s r2 l1 (fun v3 => if ((1 : Int32) <<< (((3 : Int32) * v3) &&& 31)) ≤ l3 then (some (l2, s)) else (bnd (F_X9_isMap N a0 l1 l3 s) (fun v4 s => if v4 = (0 : Int32) then (J_X9_maps_42 N (H_X9_maps_13 N n) a0 l1 l3 l2 (0 : Int32) s) else (J_X9_maps_42 N (H_X9_maps_13 N n) a0 l1 l3 l2 (1 : Int32) s)))))) := rfl
theorem u_F_X9_maps {N : Nat} {a0 : Nat} {l1 : Int32} {s : vS} : F_X9_maps N a0 l1 s = (rcv s a0 9 (bnd (F_X9_isFlag N l1 s) (fun v1 s => if v1 = (0 : Int32) then (some ((-1 : Int32), s)) else (H_X9_maps_13 N N a0 l1 (0 : Int32) (0 : Int32) s)))) := rfl
end UROWS
section MAPS
variable {N : Nat} {m m' : vM} {s : vS}
/-! counting functions by their digits -/
def sm (g : Nat → Nat) : Nat → Nat
  | 0 => 0
  | n + 1 => sm g n + g n
theorem sm_c {g g' : Nat → Nat} : ∀ n, (∀ i, i < n → g i = g' i) → sm g n = sm g' n
  | 0, _ => rfl
  | n + 1, h => by
    show sm g n + g n = sm g' n + g' n
    rw [sm_c n (fun i hi => h i (by omega)), h n (by omega)]
theorem sm_0 : ∀ n, sm (fun _ => 0) n = 0
  | 0 => rfl
  | n + 1 => by
    show sm (fun _ => 0) n + 0 = 0
    rw [sm_0 n]
theorem sm_add (g h : Nat → Nat) : ∀ n, sm (fun i => g i + h i) n = sm g n + sm h n
  | 0 => rfl
  | n + 1 => by
    show sm (fun i => g i + h i) n + (g n + h n) = sm g n + g n + (sm h n + h n)
    rw [sm_add g h n]
    omega
theorem sm_split (g : Nat → Nat) (a : Nat) : ∀ b, sm g (a + b) = sm g a + sm (fun i => g (a + i)) b
  | 0 => rfl
  | b + 1 => by
    show sm g (a + b) + g (a + b) = sm g a + (sm (fun i => g (a + i)) b + g (a + b))
    rw [sm_split g a b]
    omega
theorem sm_swap (g : Nat → Nat → Nat) (b : Nat) : ∀ M, sm (fun y => sm (fun a => g y a) b) M = sm (fun a => sm (fun y => g y a) M) b
  | 0 => (sm_0 b).symm
  | M + 1 => by
    show sm (fun y => sm (fun a => g y a) b) M + sm (fun a => g M a) b = sm (fun a => sm (fun y => g y a) M + g M a) b
    rw [sm_swap g b M, sm_add]
theorem sm_mul (g : Nat → Nat) (b : Nat) : ∀ M, sm g (M * b) = sm (fun y => sm (fun a => g (y * b + a)) b) M
  | 0 => by rw [Nat.zero_mul]; rfl
  | M + 1 => by
    rw [Nat.succ_mul, sm_split, sm_mul g b M]
    rfl
def cns (a : Nat) (f : Nat → Nat) : Nat → Nat
  | 0 => a
  | j + 1 => f j
def okD (h b : Nat) : Nat → Nat → Bool
  | 0, _ => true
  | n + 1, x => decide (x % b < h) && okD h b n (x / b)
def dgs (b : Nat) : Nat → Nat → Nat → Nat
  | 0, _ => fun _ => 0
  | n + 1, x => cns (x % b) (dgs b n (x / b))
def tot (h : Nat) : Nat → ((Nat → Nat) → Nat) → Nat
  | 0, f => f (fun _ => 0)
  | n + 1, f => sm (fun a => tot h n (fun g => f (cns a g))) h
theorem tot_eq {h b : Nat} (hb : h ≤ b) : ∀ (n : Nat) (f : (Nat → Nat) → Nat), sm (fun x => if okD h b n x = true then f (dgs b n x) else 0) (b ^ n) = tot h n f
  | 0, f => by
    show 0 + (if true = true then f (fun _ => 0) else 0) = f (fun _ => 0)
    rw [if_pos rfl, Nat.zero_add]
  | n + 1, f => by
    rw [Nat.pow_succ, sm_mul, sm_swap]
    show _ = sm (fun a => tot h n (fun g => f (cns a g))) h
    have e : ∀ a, a < b → sm (fun y => if okD h b (n + 1) (y * b + a) = true then f (dgs b (n + 1) (y * b + a)) else 0) (b ^ n) = if a < h then tot h n (fun g => f (cns a g)) else 0 := fun a ha => by
      have e1 : ∀ y, (y * b + a) % b = a := fun y => by rw [Nat.mul_comm, Nat.mul_add_mod, Nat.mod_eq_of_lt ha]
      have e2 : ∀ y, (y * b + a) / b = y := fun y => by rw [Nat.mul_comm, Nat.mul_add_div (by omega), Nat.div_eq_of_lt ha, Nat.add_zero]
      by_cases z : a < h
      · rw [if_pos z, ← tot_eq hb n]
        refine sm_c _ (fun y _ => ?_)
        show (if (decide ((y * b + a) % b < h) && okD h b n ((y * b + a) / b)) = true then f (cns ((y * b + a) % b) (dgs b n ((y * b + a) / b))) else 0) = _
        rw [e1, e2, decide_eq_true z, Bool.true_and]
      · rw [if_neg z]
        refine Eq.trans ?_ (sm_0 (b ^ n))
        refine sm_c _ (fun y _ => ?_)
        show (if (decide ((y * b + a) % b < h) && okD h b n ((y * b + a) / b)) = true then f (cns ((y * b + a) % b) (dgs b n ((y * b + a) / b))) else 0) = _
        rw [e1, e2, decide_eq_false z, Bool.false_and, if_neg (by decide)]
    rw [sm_c b e]
    obtain ⟨c, rfl⟩ : ∃ c, b = h + c := ⟨b - h, by omega⟩
    rw [sm_split, sm_c (g := fun i => if h + i < h then tot h n (fun g => f (cns (h + i) g)) else 0) (g' := fun _ => 0) c (fun i _ => if_neg (by omega)), sm_0, Nat.add_zero]
    exact sm_c h (fun i hi => if_pos hi)
theorem cnt_sm (p : Nat → Prop) [DecidablePred p] : ∀ n, cnt p n = sm (fun i => if p i then 1 else 0) n
  | 0 => rfl
  | n + 1 => by
    show cnt p n + _ = sm _ n + _
    rw [cnt_sm p n]
theorem okD_all {h : Nat} (h0 : 0 < h) : ∀ n x, okD h h n x = true
  | 0, _ => rfl
  | n + 1, x => by rw [okD, decide_eq_true (Nat.mod_lt _ h0), okD_all h0 n (x / h)]; rfl
theorem dgs_lt {h b : Nat} : ∀ n x, okD h b n x = true → ∀ j, j < n → dgs b n x j < h
  | 0, _, _, j, hj => absurd hj (Nat.not_lt_zero _)
  | n + 1, x, ho, j, hj => by
    rw [okD, Bool.and_eq_true, decide_eq_true_iff] at ho
    cases j with
    | zero => exact ho.1
    | succ j => exact dgs_lt n (x / b) ho.2 j (by omega)
/-! lines that are kept -/
def allB (g : Nat → Bool) : Nat → Nat → Bool
  | 0, _ => true
  | d + 1, i => g i && allB g d (i + 1)
def kP (k : Nat) (r f : Nat → Nat) (p q : Nat) : Bool := !(bt (cd_ false k) (bx q p) == 1) || bt (r (f p)) (f q) == 1
def kI (k : Nat) (r f : Nat → Nat) (p : Nat) : Bool := allB (kP k r f p) p 0
def kA (k : Nat) (r f : Nat → Nat) : Bool := allB (kI k r f) (sz_ false k - 1) 1
theorem rowT_bt : ∀ k, k < 19 → ∀ p, p < 4 → ∀ q, q < 4 → (q < p ∧ p < sz_ false k) → (bt (rowT false k q) p = 1 ↔ bt (cd_ false k) (bx q p) = 1) := by decide +kernel
theorem bmul (a b : Nat) : nI a * nI b = nI (a * b) := pk_mul a b
theorem c_joinsG {a nn : Nat} {r : Nat → Nat} {i j : Nat} (ha : NetAt a) (hn : NetIs m a nn r) (hi : i < nn) (hj : j < nn) : F_X3_joins N a (nI i) (nI j) (S m) = some (b2 (bt (r i) j = 1), S m) := by
  obtain ⟨h1, h2, h3⟩ := hn
  have hr := h3 i hi
  have h8 : (2 : Nat) ^ nn ≤ 2 ^ 8 := Nat.pow_le_pow_right (by decide) h2
  have hb := bt_lt (r i) j
  unfold F_X3_joins
  refine e_rcv ha.o ?_
  refine g_y (c_hasH ha h1 _) (inr hi (by omega)) ?_
  refine g_y (c_hasH ha h1 _) (inr hj (by omega)) ?_
  refine e_ldR ha.o ha.r1 ?_
  refine e_alIV ha.a1 rfl (by omega) hr.1 ?_
  rw [shr_and (by omega) (by omega)]
  by_cases z : bt (r i) j = 1
  · refine e_f (by rw [z]; decide) ?_
    rw [b2_t z]
    rfl
  · refine e_t (by rw [show bt (r i) j = 0 by omega]; rfl) ?_
    rw [b2_f z]
    rfl
section CLS
variable {k nn : Nat} {r f : Nat → Nat}
theorem c_keep_i {k53 : Nat → Nat → Int32 → vS → Option (Int32 × vS)} {p : Nat} (hk : k < 19) (hn : NetIs m 286 nn r) (ha : NetIs m (35 + 3 * k) (sz_ false k) (rowT false k)) (hf : ∀ j, j < sz_ false k → rI m 288 j = nI (f j) ∧ f j < nn) (hp : p < sz_ false k) : ∀ (d q n : Nat), q + d = p → d < n → H_X3_keepsLines_65 N k53 n 286 (35 + 3 * k) (nI p) (nI q) (S m) = if allB (kP k r f p) d q = true then k53 286 (35 + 3 * k) (nI (p + 1)) (S m) else some (0, S m)
  | _, _, 0, _, h => by omega
  | 0, q, n + 1, hq, _ => by
    have z := szc false k hk
    refine Eq.trans u_H_X3_keepsLines_65 ?_
    refine e_t (by rw [nI_leI (by omega) (by omega)]; omega) ?_
    refine e_nm ?_
    rw [addR]
    rfl
  | d + 1, q, n + 1, hq, hd => by
    have z := szc false k hk
    have na : NetAt (35 + 3 * k) := netF (q := false) hk
    have ih := c_keep_i (k53 := k53) hk hn ha hf hp d (q + 1) n (by omega) (by omega)
    have fp := hf p hp
    have fq := hf q (by omega)
    have n8 := hn.2.1
    have rp := hn.2.2 (f p) fp.2
    have h8 : (2 : Nat) ^ nn ≤ 2 ^ 8 := Nat.pow_le_pow_right (by decide) n8
    have rb := rowT_bt k hk p (by omega) q (by omega) ⟨by omega, hp⟩
    have hb := bt_lt (r (f p)) (f q)
    refine Eq.trans u_H_X3_keepsLines_65 ?_
    refine e_f (by rw [nI_leI (by omega) (by omega)]; omega) ?_
    refine e_bnd (c_joinsG na ha (show q < sz_ false k by omega) hp) ?_
    by_cases z1 : bt (cd_ false k) (bx q p) = 1
    · refine e_f (by rw [b2_t (rb.mpr z1)]; decide) ?_
      refine e_ldR net286.o net286.r1 ?_
      refine e_ldR net286.o net286.r2 ?_
      refine e_alIV net286.a2 rfl (by omega) fp.1 ?_
      refine e_alIV net286.a1 rfl (by omega) rp.1 ?_
      refine e_ldR net286.o net286.r2 ?_
      refine e_alIV net286.a2 rfl (by omega) fq.1 ?_
      rw [shr_and (by omega) (by omega)]
      by_cases z2 : bt (r (f p)) (f q) = 1
      · refine e_f (by rw [z2]; decide) ?_
        refine e_nm ?_
        rw [addR, ih]
        rw [show allB (kP k r f p) (d + 1) q = allB (kP k r f p) d (q + 1) by
          rw [allB, kP, z2]
          simp]
      · refine e_t (by rw [show bt (r (f p)) (f q) = 0 by omega]; rfl) ?_
        rw [if_neg (show ¬ allB (kP k r f p) (d + 1) q = true by
          rw [allB, kP, show bt (r (f p)) (f q) = 0 by omega, z1]
          simp)]
        rfl
    · refine e_t (by rw [b2_f (fun w => z1 (rb.mp w))]) ?_
      refine e_nm ?_
      rw [addR, ih]
      rw [show allB (kP k r f p) (d + 1) q = allB (kP k r f p) d (q + 1) by
        rw [allB, kP, beq_false_of_ne z1]
        simp]
theorem c_keep_l (hN : 100 ≤ N) (hk : k < 19) (hn : NetIs m 286 nn r) (ha : NetIs m (35 + 3 * k) (sz_ false k) (rowT false k)) (hf : ∀ j, j < sz_ false k → rI m 288 j = nI (f j) ∧ f j < nn) : ∀ (d p n : Nat), (p + d = sz_ false k ∨ (d = 0 ∧ sz_ false k ≤ p ∧ p < 9)) → d < n → H_X3_keepsLines_53 N n 286 (35 + 3 * k) (nI p) (S m) = some (b2 (allB (kI k r f) d p = true), S m)
  | _, _, 0, _, h => by omega
  | 0, p, n + 1, hp, _ => by
    have z := szc false k hk
    have na : NetAt (35 + 3 * k) := netF (q := false) hk
    refine Eq.trans u_H_X3_keepsLines_53 ?_
    refine e_ldIV na.o ha.1 ?_
    exact e_t (by rw [nI_leI (by omega) (by omega)]; omega) rfl
  | d + 1, p, n + 1, hp, hd => by
    have z := szc false k hk
    have na : NetAt (35 + 3 * k) := netF (q := false) hk
    have hp' : p < sz_ false k := by omega
    refine Eq.trans u_H_X3_keepsLines_53 ?_
    refine e_ldIV na.o ha.1 ?_
    refine e_f (by rw [nI_leI (by omega) (by omega)]; omega) ?_
    refine Eq.trans (c_keep_i (N := N) hk hn ha hf hp' p 0 N (by omega) (by omega)) ?_
    by_cases w : kI k r f p = true
    · rw [if_pos (show allB (kP k r f p) p 0 = true from w), c_keep_l hN hk hn ha hf d (p + 1) n (by omega) (by omega)]
      rw [show allB (kI k r f) (d + 1) p = allB (kI k r f) d (p + 1) by rw [allB, w, Bool.true_and]]
    · rw [if_neg (show ¬ allB (kP k r f p) p 0 = true from w), b2_f (show ¬ allB (kI k r f) (d + 1) p = true by
        rw [allB, Bool.and_eq_true]
        exact fun v => w v.1)]
theorem c_dig_l (hN : 100 ≤ N) (hk : k < 19) (h0 : 0 < nn) : ∀ (d i n x : Nat) (m : vM), i + d = sz_ false k → d < n → x < 2 ^ 31 → NetIs m 286 nn r → NetIs m (35 + 3 * k) (sz_ false k) (rowT false k) → (∀ j, j < i → rI m 288 j = nI (f j)) → (∀ j, j < d → f (i + j) = dgs nn d x j) → (∀ j, j < sz_ false k → f j < nn) →
    ∃ m', H_X3_keepsLines_5 N n 286 (35 + 3 * k) (nI x) (nI i) (S m) = some (b2 (kA k r f = true), S m') ∧ Fr (fun b _ => b = 288) m m'
  | _, _, 0, _, _, _, h, _, _, _, _, _, _ => by omega
  | 0, i, n + 1, x, m, hi, _, hx, hn, ha, h1, h2, h3 => by
    have z := szc false k hk
    have na : NetAt (35 + 3 * k) := netF (q := false) hk
    refine ⟨m, ?_, Fr.rf⟩
    refine Eq.trans u_H_X3_keepsLines_5 ?_
    refine e_ldIV na.o ha.1 ?_
    refine e_t (by rw [nI_leI (by omega) (by omega)]; omega) ?_
    exact c_keep_l (N := N) hN hk hn ha (fun j hj => ⟨h1 j (by omega), h3 j hj⟩) (sz_ false k - 1) 1 N (by omega) (by omega)
  | d + 1, i, n + 1, x, m, hi, hd, hx, hn, ha, h1, h2, h3 => by
    have z := szc false k hk
    have n8 := hn.2.1
    have na : NetAt (35 + 3 * k) := netF (q := false) hk
    have hdl := Nat.div_le_self x nn
    have hfi : f i = x % nn := h2 0 (by omega)
    obtain ⟨m', g1, g2⟩ := c_dig_l hN hk h0 d (i + 1) n (x / nn) (wI m 288 i (nI (x % nn))) (by omega) (by omega) (by omega) ⟨by rw [rI_n _ _ (by omega)]; exact hn.1, hn.2.1, fun i hi => by rw [rI_n _ _ (by omega)]; exact hn.2.2 i hi⟩ ⟨by rw [rI_n _ _ (by omega)]; exact ha.1, ha.2.1, fun i hi => by rw [rI_n _ _ (by omega)]; exact ha.2.2 i hi⟩ (fun j hj => by
      by_cases w : j = i
      · rw [w, rI_s, hfi]
      · rw [rI_n _ _ (by omega)]; exact h1 j (by omega)) (fun j hj => by
      have := h2 (j + 1) (by omega)
      rw [show i + 1 + j = i + (j + 1) by omega]
      exact this) h3
    refine ⟨m', ?_, g2.pI rfl⟩
    have nz : ¬ nI nn = 0 := fun w => by
      have := (eqR (n := 0) (by decide) (by omega)).mp w
      have : nn = 0 := this
      omega
    refine Eq.trans u_H_X3_keepsLines_5 ?_
    refine e_ldIV na.o ha.1 ?_
    refine e_f (by rw [nI_leI (by omega) (by omega)]; omega) ?_
    refine e_ldIV net286.o hn.1 ?_
    refine e_t (by rw [leL (by decide) (by omega)]; show 1 ≤ nn; omega) ?_
    refine e_ldR net286.o net286.r2 ?_
    refine e_ldIV net286.o hn.1 ?_
    refine e_nzI nz ?_
    rw [show nI x - nI x / nI nn * nI nn = nI (x % nn) from pk_rem (by omega) h0 (by omega)]
    refine e_asI net286.a2 rfl (by omega) ?_
    refine e_ldIV net286.o (show rI (wI m 288 i (nI (x % nn))) 286 0 = nI nn by rw [rI_n _ _ (by omega)]; exact hn.1) ?_
    refine e_nzI nz ?_
    refine e_nm ?_
    refine e_nm ?_
    rw [addR, show nI x / nI nn = nI (x / nn) from pk_div (by omega) h0 (by omega)]
    exact g1
theorem pw_le {nn : Nat} (h : nn ≤ 8) {d : Nat} (hd : d ≤ 4) : nn ^ d ≤ 4096 := by
  refine Nat.le_trans (Nat.pow_le_pow_left h d) ?_
  exact Nat.le_trans (Nat.pow_le_pow_right (by decide) hd) (by decide)
theorem c_keeps (hN : 100 ≤ N) (hk : k < 19) (hn : NetIs m 286 nn r) (ha : NetIs m (35 + 3 * k) (sz_ false k) (rowT false k)) {x : Nat} (hx : x < nn ^ sz_ false k) : ∃ m', F_X3_keepsLines N 286 (35 + 3 * k) (nI x) (S m) = some (b2 (kA k r (dgs nn (sz_ false k) x) = true), S m') ∧ Fr (fun b _ => b = 288) m m' := by
  have z := szc false k hk
  have na : NetAt (35 + 3 * k) := netF (q := false) hk
  have hp := pw_le hn.2.1 (show sz_ false k ≤ 4 by omega)
  by_cases h0 : 0 < nn
  · obtain ⟨m', g1, g2⟩ := c_dig_l (N := N) (f := dgs nn (sz_ false k) x) hN hk h0 (sz_ false k) 0 N x m (by omega) (by omega) (by omega) hn ha (fun j hj => absurd hj (Nat.not_lt_zero _)) (fun j hj => by rw [Nat.zero_add]) (fun j hj => dgs_lt _ x (okD_all h0 _ x) j hj)
    refine ⟨m', ?_, g2⟩
    unfold F_X3_keepsLines
    exact e_rcv net286.o g1
  · obtain rfl : nn = 0 := by omega
    have z0 : sz_ false k = 0 := by
      by_cases w : sz_ false k = 0
      · exact w
      · rw [Nat.zero_pow (by omega)] at hx
        omega
    refine ⟨m, ?_, Fr.rf⟩
    unfold F_X3_keepsLines
    refine e_rcv net286.o ?_
    obtain ⟨N', rfl⟩ : ∃ N', N = N' + 1 := ⟨N - 1, by omega⟩
    refine Eq.trans u_H_X3_keepsLines_5 ?_
    refine e_ldIV na.o ha.1 ?_
    refine e_t (by rw [z0]; decide) ?_
    refine Eq.trans (c_keep_l (N := N' + 1) (f := dgs 0 (sz_ false k) x) hN hk hn ha (fun j hj => by omega) 0 1 (N' + 1) (by omega) (by omega)) ?_
    unfold kA
    rw [z0]
abbrev Kc (k : Nat) (r : Nat → Nat) (nn : Nat) (x : Nat) : Prop := kA k r (dgs nn (sz_ false k) x) = true
theorem c_maps_l (hN : 5000 ≤ N) (hk : k < 19) : ∀ (d x n : Nat) (m : vM), x + d = nn ^ sz_ false k → d < n → NetIs m 286 nn r → NetIs m (35 + 3 * k) (sz_ false k) (rowT false k) →
    ∃ m', H_X3_mapsFrom_30 N n 286 (35 + 3 * k) (nI (nn ^ sz_ false k)) (nI (cnt (Kc k r nn) x)) (nI x) (S m) = some (nI (cnt (Kc k r nn) (nn ^ sz_ false k)), S m') ∧ Fr (fun b _ => b = 288) m m'
  | _, _, 0, _, _, h, _, _ => by omega
  | 0, x, n + 1, m, hx, _, hn, ha => by
    have z := szc false k hk
    have hp := pw_le hn.2.1 (show sz_ false k ≤ 4 by omega)
    have hx : x = nn ^ sz_ false k := by omega
    refine ⟨m, ?_, Fr.rf⟩
    refine Eq.trans u_H_X3_mapsFrom_30 ?_
    rw [hx]
    exact e_t (by rw [nI_leI (by omega) (by omega)]; omega) rfl
  | d + 1, x, n + 1, m, hx, hd, hn, ha => by
    have z := szc false k hk
    have hp := pw_le hn.2.1 (show sz_ false k ≤ 4 by omega)
    obtain ⟨m1, g1, g2⟩ := c_keeps (N := N) (m := m) (by omega) hk hn ha (show x < nn ^ sz_ false k by omega)
    obtain ⟨m', j1, j2⟩ := c_maps_l hN hk d (x + 1) n m1 (by omega) (by omega) ⟨by rw [g2.i (by omega)]; exact hn.1, hn.2.1, fun i hi => by rw [g2.i (by omega)]; exact hn.2.2 i hi⟩ ⟨by rw [g2.i (by omega)]; exact ha.1, ha.2.1, fun i hi => by rw [g2.i (by omega)]; exact ha.2.2 i hi⟩
    rw [cnt] at j1
    refine ⟨m', ?_, g2.tr j2⟩
    refine Eq.trans u_H_X3_mapsFrom_30 ?_
    refine e_f (by rw [nI_leI (by omega) (by omega)]; omega) ?_
    refine e_bnd g1 ?_
    by_cases w : kA k r (dgs nn (sz_ false k) x) = true
    · refine e_f (by rw [b2_t w]; decide) ?_
      refine e_nm ?_
      refine e_nm ?_
      rw [addR, addR]
      rw [if_pos (show Kc k r nn x from w)] at j1
      exact j1
    · refine e_t (by rw [b2_f w]) ?_
      refine e_nm ?_
      rw [addR]
      rw [if_neg (show ¬ Kc k r nn x from w)] at j1
      exact j1
theorem c_pow_l (hk : k < 19) (hn : NetIs m 286 nn r) (ha : NetIs m (35 + 3 * k) (sz_ false k) (rowT false k)) : ∀ (d i n : Nat), i + d = sz_ false k → d < n → H_X3_mapsFrom_4 N n 286 (35 + 3 * k) (nI (nn ^ i)) (nI i) (S m) = H_X3_mapsFrom_30 N N 286 (35 + 3 * k) (nI (nn ^ sz_ false k)) 0 0 (S m)
  | _, _, 0, _, h => by omega
  | 0, i, n + 1, hi, _ => by
    have z := szc false k hk
    have na : NetAt (35 + 3 * k) := netF (q := false) hk
    obtain rfl : i = sz_ false k := by omega
    refine Eq.trans u_H_X3_mapsFrom_4 ?_
    refine e_ldIV na.o ha.1 ?_
    exact e_t (by rw [nI_leI (by omega) (by omega)]; omega) rfl
  | d + 1, i, n + 1, hi, hd => by
    have z := szc false k hk
    have na : NetAt (35 + 3 * k) := netF (q := false) hk
    refine Eq.trans u_H_X3_mapsFrom_4 ?_
    refine e_ldIV na.o ha.1 ?_
    refine e_f (by rw [nI_leI (by omega) (by omega)]; omega) ?_
    refine e_ldIV net286.o hn.1 ?_
    refine e_nm ?_
    refine e_nm ?_
    rw [addR, bmul, ← Nat.pow_succ]
    exact c_pow_l hk hn ha d (i + 1) n (by omega) (by omega)
end CLS
section MDL
variable {k nn : Nat} {r f : Nat → Nat}
theorem m_keep_i {k57 : Nat → Int32 → Int32 → vS → Option (Int32 × vS)} {p : Nat} (hk : k < 19) (hT : Tab m) (hh : HandM m nn r) (hy : Sym nn r) (hf : ∀ j, j < sz_ false k → rI m 340 j = nI (f j) ∧ f j < nn) (hp : p < sz_ false k) : ∀ (d q n : Nat), q + d = p → d < n → H_X9_isMap_71 N k57 n 322 (nI k) (nI p) (nI q) (S m) = if allB (kP k r f p) d q = true then k57 322 (nI k) (nI (p + 1)) (S m) else some (0, S m)
  | _, _, 0, _, h => by omega
  | 0, q, n + 1, hq, _ => by
    have z := szc false k hk
    refine Eq.trans u_H_X9_isMap_71 ?_
    refine e_t (by rw [nI_leI (by omega) (by omega)]; omega) ?_
    refine e_nm ?_
    rw [addR]
    rfl
  | d + 1, q, n + 1, hq, hd => by
    have z := szc false k hk
    have ih := m_keep_i (k57 := k57) hk hT hh hy hf hp d (q + 1) n (by omega) (by omega)
    have fp := hf p hp
    have fq := hf q (by omega)
    have n8 := hh.2.1
    have rq := hh.2.2 (f q) fq.2
    have h8 : (2 : Nat) ^ nn ≤ 2 ^ 8 := Nat.pow_le_pow_right (by decide) n8
    have hb := bt_lt (r (f p)) (f q)
    have hbx := bx8 q (by omega) p (by omega)
    have t2 := (tabF hT hk).2
    refine Eq.trans u_H_X9_isMap_71 ?_
    refine e_f (by rw [nI_leI (by omega) (by omega)]; omega) ?_
    refine e_ldR fmO fmR1 ?_
    refine e_alIV fmA1 rfl (by omega) t2 ?_
    refine e_bnd (m_bit (show q < 8 by omega) (show p < 8 by omega)) ?_
    rw [shr_and (by omega) (by omega)]
    by_cases z1 : bt (cd_ false k) (bx q p) = 1
    · refine e_t (by rw [z1]; rfl) ?_
      refine e_ldR fmO fmR6 ?_
      refine e_ldR fmO fmR22 ?_
      refine e_alIV fmA22 rfl (by omega) fq.1 ?_
      refine e_alIV fmA6 rfl (by omega) rq.1 ?_
      refine e_ldR fmO fmR22 ?_
      refine e_alIV fmA22 rfl (by omega) fp.1 ?_
      rw [shr_and (by omega) (by omega), ← hy (f p) (f q) fp.2 fq.2]
      by_cases z2 : bt (r (f p)) (f q) = 1
      · refine e_f (by rw [z2]; decide) ?_
        refine e_nm ?_
        rw [addR, ih]
        rw [show allB (kP k r f p) (d + 1) q = allB (kP k r f p) d (q + 1) by
          rw [allB, kP, z2]
          simp]
      · refine e_t (by rw [show bt (r (f p)) (f q) = 0 by omega]; rfl) ?_
        rw [if_neg (show ¬ allB (kP k r f p) (d + 1) q = true by
          rw [allB, kP, show bt (r (f p)) (f q) = 0 by omega, z1]
          simp)]
        rfl
    · have z0 : bt (cd_ false k) (bx q p) = 0 := (bt_01 _ _).elim id (fun w => absurd w z1)
      refine e_f (by rw [z0]; decide) ?_
      refine e_nm ?_
      rw [addR, ih]
      rw [show allB (kP k r f p) (d + 1) q = allB (kP k r f p) d (q + 1) by
        rw [allB, kP, beq_false_of_ne z1]
        simp]
theorem m_keep_l (hN : 100 ≤ N) (hk : k < 19) (hT : Tab m) (hh : HandM m nn r) (hy : Sym nn r) (hf : ∀ j, j < sz_ false k → rI m 340 j = nI (f j) ∧ f j < nn) : ∀ (d p n : Nat), (p + d = sz_ false k ∨ (d = 0 ∧ sz_ false k ≤ p ∧ p < 9)) → d < n → H_X9_isMap_57 N n 322 (nI k) (nI p) (S m) = some (b2 (allB (kI k r f) d p = true), S m)
  | _, _, 0, _, h => by omega
  | 0, p, n + 1, hp, _ => by
    have z := szc false k hk
    refine Eq.trans u_H_X9_isMap_57 ?_
    refine e_ldR fmO fmR0 ?_
    refine e_alIV fmA0 rfl (by omega) (tabF hT hk).1 ?_
    exact e_t (by rw [nI_leI (by omega) (by omega)]; omega) rfl
  | d + 1, p, n + 1, hp, hd => by
    have z := szc false k hk
    have hp' : p < sz_ false k := by omega
    refine Eq.trans u_H_X9_isMap_57 ?_
    refine e_ldR fmO fmR0 ?_
    refine e_alIV fmA0 rfl (by omega) (tabF hT hk).1 ?_
    refine e_f (by rw [nI_leI (by omega) (by omega)]; omega) ?_
    refine Eq.trans (m_keep_i (N := N) hk hT hh hy hf hp' p 0 N (by omega) (by omega)) ?_
    by_cases w : kI k r f p = true
    · rw [if_pos (show allB (kP k r f p) p 0 = true from w), m_keep_l hN hk hT hh hy hf d (p + 1) n (by omega) (by omega)]
      rw [show allB (kI k r f) (d + 1) p = allB (kI k r f) d (p + 1) by rw [allB, w, Bool.true_and]]
    · rw [if_neg (show ¬ allB (kP k r f p) p 0 = true from w), b2_f (show ¬ allB (kI k r f) (d + 1) p = true by
        rw [allB, Bool.and_eq_true]
        exact fun v => w v.1)]
theorem m_dig_l (hN : 100 ≤ N) (hk : k < 19) (hy : Sym nn r) : ∀ (d i n x : Nat) (m : vM), i + d = sz_ false k → d < n → x < 2 ^ 31 → Tab m → HandM m nn r → (∀ j, j < i → rI m 340 j = nI (f j) ∧ f j < nn) → (∀ j, j < d → f (i + j) = dgs 8 d x j) →
    ∃ m', H_X9_isMap_5 N n 322 (nI k) (nI x) (nI i) (S m) = some (b2 ((okD nn 8 d x && kA k r f) = true), S m') ∧ Fr (fun b _ => b = 340) m m'
  | _, _, 0, _, _, _, h, _, _, _, _, _ => by omega
  | 0, i, n + 1, x, m, hi, _, hx, hT, hh, h1, h2 => by
    have z := szc false k hk
    refine ⟨m, ?_, Fr.rf⟩
    refine Eq.trans u_H_X9_isMap_5 ?_
    refine e_ldR fmO fmR0 ?_
    refine e_alIV fmA0 rfl (by omega) (tabF hT hk).1 ?_
    refine e_t (by rw [nI_leI (by omega) (by omega)]; omega) ?_
    rw [okD, Bool.true_and]
    exact m_keep_l (N := N) hN hk hT hh hy (fun j hj => h1 j (by omega)) (sz_ false k - 1) 1 N (by omega) (by omega)
  | d + 1, i, n + 1, x, m, hi, hd, hx, hT, hh, h1, h2 => by
    have z := szc false k hk
    have n8 := hh.2.1
    have hdl := Nat.div_le_self x 8
    have hml := Nat.mod_lt x (show 0 < 8 by decide)
    have hfi : f i = x % 8 := h2 0 (by omega)
    have hT1 : Tab (wI m 340 i (nI (x % 8))) := hT.fr (fun b j hb => by
      rw [rI_n _ _ (by unfold tabP at hb; omega)]
      exact ⟨rfl, rfl⟩)
    have hh1 : HandM (wI m 340 i (nI (x % 8))) nn r := ⟨by rw [rI_n _ _ (by omega)]; exact hh.1, n8, fun i hi => by rw [rI_n _ _ (by omega)]; exact hh.2.2 i hi⟩
    have start : ∀ R, (if nI (x % 8) < nI nn then (nm (nI i + (1)) (fun l4_8 => H_X9_isMap_5 N n 322 (nI k) (nI (x / 8)) l4_8 (S (wI m 340 i (nI (x % 8)))))) else (rtZ (0) (S (wI m 340 i (nI (x % 8)))))) = R → H_X9_isMap_5 N (n + 1) 322 (nI k) (nI x) (nI i) (S m) = R := fun R hR => by
      refine Eq.trans u_H_X9_isMap_5 ?_
      refine e_ldR fmO fmR0 ?_
      refine e_alIV fmA0 rfl (by omega) (tabF hT hk).1 ?_
      refine e_f (by rw [nI_leI (by omega) (by omega)]; omega) ?_
      refine e_ldR fmO fmR22 ?_
      refine e_nzI (by decide) ?_
      rw [remR (by omega) (by decide) (by decide)]
      refine e_asI fmA22 rfl (by omega) ?_
      refine e_nzI (by decide) ?_
      refine e_nm ?_
      rw [divR (by omega) (by decide) (by decide)]
      refine e_ldR fmO fmR22 ?_
      refine e_alIV fmA22 rfl (by omega) (show _ = nI (x % 8) from rI_s _ _ _ _) ?_
      refine e_ldIV fmO hh1.1 ?_
      exact hR
    by_cases w : x % 8 < nn
    · obtain ⟨m', g1, g2⟩ := m_dig_l hN hk hy d (i + 1) n (x / 8) (wI m 340 i (nI (x % 8))) (by omega) (by omega) (by omega) hT1 hh1 (fun j hj => by
        by_cases v : j = i
        · rw [v, rI_s, hfi]
          exact ⟨rfl, w⟩
        · rw [rI_n _ _ (by omega)]; exact h1 j (by omega)) (fun j hj => by
        have := h2 (j + 1) (by omega)
        rw [show i + 1 + j = i + (j + 1) by omega]
        exact this)
      refine ⟨m', start _ ?_, g2.pI rfl⟩
      refine e_t (by rw [nI_ltI (by omega) (by omega)]; exact w) ?_
      refine e_nm ?_
      rw [addR, g1, okD, decide_eq_true w, Bool.true_and]
    · refine ⟨wI m 340 i (nI (x % 8)), start _ ?_, Fr.rf.sI rfl⟩
      refine e_f (by rw [nI_ltI (by omega) (by omega)]; exact w) ?_
      rw [okD, decide_eq_false w, Bool.false_and, Bool.false_and]
      rfl
theorem m_isMap (hN : 100 ≤ N) (hk : k < 19) (hT : Tab m) (hh : HandM m nn r) (hy : Sym nn r) {x : Nat} (hx : x < 2 ^ 31) : ∃ m', F_X9_isMap N 322 (nI k) (nI x) (S m) = some (b2 ((okD nn 8 (sz_ false k) x && kA k r (dgs 8 (sz_ false k) x)) = true), S m') ∧ Fr (fun b _ => b = 340) m m' := by
  have z := szc false k hk
  obtain ⟨m', g1, g2⟩ := m_dig_l (N := N) (f := dgs 8 (sz_ false k) x) hN hk hy (sz_ false k) 0 N x m (by omega) (by omega) hx hT hh (fun j hj => absurd hj (Nat.not_lt_zero _)) (fun j hj => by rw [Nat.zero_add])
  refine ⟨m', ?_, g2⟩
  unfold F_X9_isMap
  exact e_rcv fmO g1
abbrev Km (k : Nat) (r : Nat → Nat) (nn : Nat) (x : Nat) : Prop := (okD nn 8 (sz_ false k) x && kA k r (dgs 8 (sz_ false k) x)) = true
theorem sh3 : ∀ z, z < 5 → (1 : Int32) <<< ((3 * nI z) &&& 31) = nI (8 ^ z) := by decide +kernel
theorem m_maps_l (hN : 5000 ≤ N) (hk : k < 19) (hy : Sym nn r) : ∀ (d x n : Nat) (m : vM), x + d = 8 ^ sz_ false k → d < n → Tab m → HandM m nn r →
    ∃ m', H_X9_maps_13 N n 322 (nI k) (nI (cnt (Km k r nn) x)) (nI x) (S m) = some (nI (cnt (Km k r nn) (8 ^ sz_ false k)), S m') ∧ Fr (fun b _ => b = 340) m m'
  | _, _, 0, _, _, h, _, _ => by omega
  | 0, x, n + 1, m, hx, _, hT, hh => by
    have z := szc false k hk
    have hp := pw_le (nn := 8) (by omega) (show sz_ false k ≤ 4 by omega)
    have hx : x = 8 ^ sz_ false k := by omega
    refine ⟨m, ?_, Fr.rf⟩
    refine Eq.trans u_H_X9_maps_13 ?_
    refine e_ldR fmO fmR0 ?_
    refine e_alIV fmA0 rfl (by omega) (tabF hT hk).1 ?_
    rw [sh3 _ (by omega), hx]
    exact e_t (by rw [nI_leI (by omega) (by omega)]; omega) rfl
  | d + 1, x, n + 1, m, hx, hd, hT, hh => by
    have z := szc false k hk
    have hp := pw_le (nn := 8) (by omega) (show sz_ false k ≤ 4 by omega)
    obtain ⟨m1, g1, g2⟩ := m_isMap (N := N) (m := m) (by omega) hk hT hh hy (show x < 2 ^ 31 by omega)
    obtain ⟨m', j1, j2⟩ := m_maps_l hN hk hy d (x + 1) n m1 (by omega) (by omega) (hT.fr (fun b j hb => g2 b j (by unfold tabP at hb; omega))) ⟨by rw [g2.i (by omega)]; exact hh.1, hh.2.1, fun i hi => by rw [g2.i (by omega)]; exact hh.2.2 i hi⟩
    rw [cnt] at j1
    refine ⟨m', ?_, g2.tr j2⟩
    refine Eq.trans u_H_X9_maps_13 ?_
    refine e_ldR fmO fmR0 ?_
    refine e_alIV fmA0 rfl (by omega) (tabF hT hk).1 ?_
    rw [sh3 _ (by omega)]
    refine e_f (by rw [nI_leI (by omega) (by omega)]; omega) ?_
    refine e_bnd g1 ?_
    by_cases w : Km k r nn x
    · refine e_f (by rw [b2_t w]; decide) ?_
      refine e_nm ?_
      refine e_nm ?_
      rw [addR, addR]
      rw [if_pos w] at j1
      exact j1
    · refine e_t (by rw [b2_f w]) ?_
      refine e_nm ?_
      refine e_nm ?_
      rw [addR, addR]
      rw [if_neg w] at j1
      exact j1
end MDL
theorem maps_eq {k nn : Nat} {r : Nat → Nat} (h8 : nn ≤ 8) : cnt (Kc k r nn) (nn ^ sz_ false k) = cnt (Km k r nn) (8 ^ sz_ false k) := by
  have a := tot_eq (h := nn) (b := nn) (Nat.le_refl _) (sz_ false k) (fun f => if kA k r f = true then 1 else 0)
  have b := tot_eq (h := nn) (b := 8) h8 (sz_ false k) (fun f => if kA k r f = true then 1 else 0)
  rw [cnt_sm, cnt_sm]
  refine Eq.trans (Eq.trans ?_ (a.trans b.symm)) ?_
  · refine sm_c _ (fun x hx => ?_)
    have ho : okD nn nn (sz_ false k) x = true := by
      by_cases z : 0 < nn
      · exact okD_all z _ x
      · obtain rfl : nn = 0 := by omega
        by_cases w : sz_ false k = 0
        · rw [w]; rfl
        · rw [Nat.zero_pow (by omega)] at hx
          omega
    rw [if_pos ho]
  · refine sm_c _ (fun x hx => ?_)
    by_cases z : okD nn 8 (sz_ false k) x = true
    · rw [if_pos z]
      have e : Km k r nn x ↔ kA k r (dgs 8 (sz_ false k) x) = true := by
        show (okD nn 8 (sz_ false k) x && kA k r (dgs 8 (sz_ false k) x)) = true ↔ _
        rw [z, Bool.true_and]
      by_cases w : kA k r (dgs 8 (sz_ false k) x) = true
      · rw [if_pos w, if_pos (e.mpr w)]
      · rw [if_neg w, if_neg (fun v => w (e.mp v))]
    · rw [if_neg z, if_neg (fun v => z ((Bool.and_eq_true _ _ ▸ v : okD nn 8 (sz_ false k) x = true ∧ kA k r (dgs 8 (sz_ false k) x) = true).1))]
theorem nsR : ∀ k, k < 19 → RRf 12 k = some (35 + 3 * k) := by decide +kernel
theorem nsA (i : Int32) : isAc 12 4 i = inb i 19 := rfl
theorem call_maps (hN : 5000 ≤ N) (hR : Rel m) (x : Int32) : SameI (F_X8_maps N 0 x) (F_X9_maps N 322 x) m := by
  obtain ⟨hT, ⟨nn, r, hh⟩, -⟩ := id hR
  have n8 := hh.1
  rcases rng x (n := 19) (by decide) with ⟨k, hk, rfl⟩ | hx
  · have z := szc false k hk
    have ha : NetIs m (35 + 3 * k) (sz_ false k) (rowT false k) := (hT.2.1 false k hk).2.2.1
    have hp := pw_le n8 (show sz_ false k ≤ 4 by omega)
    have hp8 := pw_le (nn := 8) (by omega) (show sz_ false k ≤ 4 by omega)
    obtain ⟨m1, g1, g2⟩ := c_maps_l (N := N) hN hk (nn ^ sz_ false k) 0 N m (by omega) (by omega) hh.net ha
    have hR1 : Rel m1 := hR.fr g2 (fun a j hp => by unfold prP tabP hanP stoP tapP imgP at hp; omega)
    obtain ⟨m2, j1, j2⟩ := m_maps_l (N := N) (nn := nn) (r := r) hN hk hh.2.1 (8 ^ sz_ false k) 0 N m1 (by omega) (by omega) hR1.1 ⟨by rw [g2.i (by omega)]; exact hh.mod.1, n8, fun i hi => by rw [g2.i (by omega)]; exact hh.mod.2.2 i hi⟩
    refine ⟨nI (cnt (Kc k r nn) (nn ^ sz_ false k)), m1, m2, ?_, ?_, hR1.fr j2 (fun a j hp => by unfold prP tabP hanP stoP tapP imgP at hp; omega)⟩
    · unfold F_X8_maps
      refine e_rcv fxO ?_
      refine e_ldR fxO fxR0 ?_
      refine g_y (c_famHas (q := false) hT _) (inr hk (by decide)) ?_
      refine e_ldR fxO fxR7 ?_
      refine e_ldR fxO fxR0 ?_
      refine e_ldR ffO ffR5 ?_
      refine e_alR nsA (by decide) rfl (by omega) (nsR k hk) ?_
      refine e_bnd ?_ rfl
      unfold F_X3_mapsFrom
      refine e_rcv net286.o ?_
      exact (c_pow_l (N := N) hk hh.net ha (sz_ false k) 0 N (by omega) (by omega)).trans g1
    · unfold F_X9_maps
      refine e_rcv fmO ?_
      refine g_y (m_isFlagR _) (inr hk (by decide)) ?_
      rw [maps_eq n8]
      exact j1
  · refine SameI.ro (-1) hR ?_ ?_
    · unfold F_X8_maps
      refine e_rcv fxO ?_
      refine e_ldR fxO fxR0 ?_
      exact g_n (c_famHas (q := false) hT _) hx rfl
    · unfold F_X9_maps
      refine e_rcv fmO ?_
      exact g_n (m_isFlagR _) hx rfl
end MAPS
