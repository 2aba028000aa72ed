section UROWS
theorem u_J_X1_allRenamings_63 {N : Nat} {k9 : Nat → Int32 → Int32 → vS → Option (Nat × vS)} {a0 : Nat} {l1 : Int32} {l2 : Int32} {s : vS} : J_X1_allRenamings_63 N k9 a0 l1 l2 s = (nm (l2 + (1 : Int32)) (fun l2_7 => k9 a0 l1 l2_7 s)) := rfl
theorem u_H_X1_allRenamings_21 {N : Nat} {k9 : Nat → Int32 → Int32 → vS → Option (Nat × vS)} {n : Nat} {a0 : Nat} {l1 : Int32} {l2 : Int32} {l3 : Int32} {l4 : Int32} {s : vS} : H_X1_allRenamings_21 N k9 (n + 1) a0 l1 l2 l3 l4 s = (if (4 : Int32) ≤ l4 then (if l3 = (15 : Int32) then (aln s a0 (fun v2 => if v2 ≤ l1 then (J_X1_allRenamings_63 N k9 a0 l1 l2 s) else (asI s a0 l1 l2 (fun s => nm (l1 + (1 : Int32)) (fun l1_3 => J_X1_allRenamings_63 N k9 a0 l1_3 l2 s))))) else (J_X1_allRenamings_63 N k9 a0 l1 l2 s)) else (bnd (F_X1_newName N l2 l4 s) (fun v4 s => nm ((l3 ||| ((1 : Int32) <<< (v4 &&& 31)))) (fun l3_5 => nm (l4 + (1 : Int32)) (fun l4_6 => H_X1_allRenamings_21 N k9 n a0 l1 l2 l3_5 l4_6 s))))) := rfl
theorem u_H_X1_allRenamings_9 {N : Nat} {n : Nat} {a0 : Nat} {l1 : Int32} {l2 : Int32} {s : vS} : H_X1_allRenamings_9 N (n + 1) a0 l1 l2 s = (if (256 : Int32) ≤ l2 then (some (a0, s)) else (H_X1_allRenamings_21 N (H_X1_allRenamings_9 N n) N a0 l1 l2 (0 : Int32) (0 : Int32) s)) := rfl
theorem u_F_X1_allRenamings {N : Nat} {s : vS} : F_X1_allRenamings N s = (nwA s 1 (24 : Int32) (fun q1 s => H_X1_allRenamings_9 N N q1 (0 : Int32) (0 : Int32) s)) := rfl
theorem u_J_X1_leastCode_52 {N : Nat} {k16 : Nat → Int32 → Int32 → Int32 → Nat → Int32 → Int32 → vS → Option (Int32 × vS)} {a0 : Nat} {l1 : Int32} {l2 : Int32} {l3 : Int32} {a4 : Nat} {l5 : Int32} {l6 : Int32} {s : vS} : J_X1_leastCode_52 N k16 a0 l1 l2 l3 a4 l5 l6 s = (nm (l6 + (1 : Int32)) (fun l6_7 => k16 a0 l1 l2 l3 a4 l5 l6_7 s)) := rfl
theorem u_H_X1_leastCode_16 {N : Nat} {n : Nat} {a0 : Nat} {l1 : Int32} {l2 : Int32} {l3 : Int32} {a4 : Nat} {l5 : Int32} {l6 : Int32} {s : vS} : H_X1_leastCode_16 N (n + 1) a0 l1 l2 l3 a4 l5 l6 s = (if l5 ≤ l6 then (some (l3, s)) else (alI s a4 l6 (fun v3 => bnd (F_X1_suits N a0 v3 l1 s) (fun v4 s => if v4 = (0 : Int32) then (J_X1_leastCode_52 N (H_X1_leastCode_16 N n) a0 l1 l2 l3 a4 l5 l6 s) else (bnd (F_X1_renamed N l1 l2 v3 s) (fun v5 s => bnd (F_J9_min_7cf53 N l3 v5 s) (fun v6 s => J_X1_leastCode_52 N (H_X1_leastCode_16 N n) a0 l1 l2 v6 a4 l5 l6 s))))))) := rfl
theorem u_F_X1_leastCode {N : Nat} {a0 : Nat} {l1 : Int32} {l2 : Int32} {s : vS} : F_X1_leastCode N a0 l1 l2 s = (rcv s a0 1 (ldR s a0 1 9 (fun r1 => aln s r1 (fun v2 => H_X1_leastCode_16 N N a0 l1 l2 l2 r1 v2 (0 : Int32) s)))) := rfl
end UROWS
section REN
variable {N k : Nat} {m m' : vM} {s : vS} {κ κ' : (Nat × Nat) × (Nat → Nat × Nat) × (Nat → Nat → Option Nat)}
/-- new int[n][k] -/
def kM (κ : (Nat × Nat) × (Nat → Nat × Nat) × (Nat → Nat → Option Nat)) (n l : Nat) : (Nat × Nat) × (Nat → Nat × Nat) × (Nat → Nat → Option Nat) := ((κ.1.1 + (1 + n), κ.1.2 + (n + n * l)), (fun a => if a = κ.1.1 then (6, n) else if κ.1.1 < a ∧ a ≤ κ.1.1 + n then (1, l) else κ.2.1 a), (fun a => if a = κ.1.1 then (fun j => if j < n then some (κ.1.1 + 1 + j) else none) else if κ.1.1 < a ∧ a ≤ κ.1.1 + n then (fun _ => none) else κ.2.2 a))
def zMM (m : vM) (a n : Nat) : vM := ((fun b => if a ≤ b ∧ b ≤ a + n then (fun _ => 0) else m.1 b), (fun b => if a ≤ b ∧ b ≤ a + n then (fun _ => 0) else m.2 b))
theorem zMM_I (a n b j : Nat) : rI (zMM m a n) b j = if a ≤ b ∧ b ≤ a + n then 0 else rI m b j := by
  show (if a ≤ b ∧ b ≤ a + n then (fun _ => 0) else m.1 b) j = _
  split <;> rfl
theorem zMM_J (a n b j : Nat) : rJ (zMM m a n) b j = if a ≤ b ∧ b ≤ a + n then 0 else rJ m b j := by
  show (if a ≤ b ∧ b ≤ a + n then (fun _ => 0) else m.2 b) j = _
  split <;> rfl
theorem Fz_zz {a n : Nat} (h : k ≤ a) : Fz k m (zMM m a n) := fun b j hb => by
  rw [zMM_I, zMM_J, if_neg (by omega), if_neg (by omega)]
  exact ⟨rfl, rfl⟩
theorem k_nwM {ρ : Type} {R : Option ρ} {n l : Nat} {i i2 : Int32} {f : Nat → vS → Option ρ} (hi : i = nI n) (hi2 : i2 = nI l) (hn : n ≤ 100000 ∧ l ≤ 100000) (k : f κ.1.1 (G (kM κ n l) (zMM m κ.1.1 n)) = R) : nwM (G κ m) i i2 f = R := by
  have e : i.toNatClampNeg = n := by rw [hi]; exact nI_clamp (by omega)
  have e2 : i2.toNatClampNeg = l := by rw [hi2]; exact nI_clamp (by omega)
  unfold nwM
  rw [e, e2, if_pos ⟨⟨by rw [hi]; exact nI_pos (by omega), hn.1⟩, by rw [hi2]; exact nI_pos (by omega), hn.2⟩]
  exact k
theorem zz_add (k : Nat) (l : Nat) : ∀ n, (∀ j, j < n → wd (SHf (k + j)) = l) → zz (k + n) = zz k + n * l
  | 0, _ => by rw [Nat.zero_mul]; rfl
  | n + 1, h => by
    show zz (k + n) + wd (SHf (k + n)) = _
    rw [zz_add k l n (fun j hj => h j (by omega)), h n (by omega), Nat.succ_mul]
    omega
theorem Pr.newM (h : Pr k κ) {n l : Nat} (hd : SHf k = (6, n)) (hl : ∀ j, j < n → SHf (k + 1 + j) = (1, l)) (hr : ∀ j, j < n → RRf k j = some (k + 1 + j)) : Pr (k + (1 + n)) (kM κ n l) ∧ Kp κ (kM κ n l) ∧ ∀ j, j < n → (kM κ n l).2.2 k j = some (k + 1 + j) := by
  obtain ⟨h1, h2, h3, h4, h5⟩ := h
  have hn : κ.1.1 = k := by rw [h1]
  have hz : κ.1.2 = zz k := by rw [h1]
  have e1 : ∀ a, (kM κ n l).2.1 a = if a = k then (6, n) else if k < a ∧ a ≤ k + n then (1, l) else κ.2.1 a := fun a => by
    show (if a = κ.1.1 then (6, n) else if κ.1.1 < a ∧ a ≤ κ.1.1 + n then (1, l) else κ.2.1 a) = _
    rw [hn]
  have e2 : ∀ a j, (kM κ n l).2.2 a j = if a = k then (if j < n then some (k + 1 + j) else none) else if k < a ∧ a ≤ k + n then none else κ.2.2 a j := fun a j => by
    show (if a = κ.1.1 then (fun j => if j < n then some (κ.1.1 + 1 + j) else none) else if κ.1.1 < a ∧ a ≤ κ.1.1 + n then (fun _ => none) else κ.2.2 a) j = _
    rw [hn]
    split
    · rfl
    · split <;> rfl
  refine ⟨⟨?_, fun a ha => ?_, fun a ha => ?_, fun a j v e => ?_, fun a j ha => ?_⟩, fun a j v e => ?_, fun j hj => ?_⟩
  · show (κ.1.1 + (1 + n), κ.1.2 + (n + n * l)) = _
    have hw : zz (k + 1 + n) = zz (k + 1) + n * l := zz_add (k + 1) l n (fun j hj => by rw [hl j hj]; rfl)
    have hw2 : zz (k + 1) = zz k + n := by
      show zz k + wd (SHf k) = _
      rw [hd]
      rfl
    rw [hn, hz]
    refine Prod.ext rfl ?_
    show zz k + (n + n * l) = zz (k + (1 + n))
    rw [← Nat.add_assoc k 1 n, hw, hw2, Nat.add_assoc]
  · rw [e1]
    by_cases z : a = k
    · rw [if_pos z, z, hd]
    · rw [if_neg z]
      by_cases z2 : k < a ∧ a ≤ k + n
      · rw [if_pos z2]
        have := hl (a - k - 1) (by omega)
        rw [show k + 1 + (a - k - 1) = a by omega] at this
        exact this.symm
      · rw [if_neg z2]; exact h2 a (by omega)
  · rw [e1, if_neg (by omega), if_neg (by omega)]; exact h3 a (by omega)
  · rw [e2] at e
    by_cases z : a = k
    · rw [if_pos z] at e
      by_cases w : j < n
      · rw [if_pos w] at e
        rw [z, hr j w]
        exact e
      · rw [if_neg w] at e; cases e
    · rw [if_neg z] at e
      by_cases z2 : k < a ∧ a ≤ k + n
      · rw [if_pos z2] at e; cases e
      · rw [if_neg z2] at e; exact h4 a j v e
  · rw [e2, if_neg (by omega), if_neg (by omega)]; exact h5 a j (by omega)
  · rw [e2]
    by_cases z : k ≤ a
    · rw [h5 a j z] at e; cases e
    · rw [if_neg (by omega), if_neg (by omega)]; exact e
  · rw [e2, if_pos rfl, if_pos hj]
/-! all renamings -/
def mxF (x i mv : Nat) : Nat := mv ||| 2 ^ dg x i
def mx (x : Nat) : Nat := fld (mxF x) 4 0 0
abbrev Rn (x : Nat) : Prop := mx x = 15
theorem rn_ok : ∀ x, x < 256 → (Rn x → cnt Rn x < 24 ∧ reL.getD (cnt Rn x) 0 = x) := by decide +kernel
theorem rn_24 : cnt Rn 256 = 24 := by decide +kernel
theorem g_ren_i {k9 : Nat → Int32 → Int32 → vS → Option (Nat × vS)} {a x c : Nat} (ha : a < κ.1.1 ∧ κ.2.1 a = (1, 24)) (hx : x < 256) (hc : Rn x → c < 24) (hc2 : c ≤ 24) : ∀ (d i n mv : Nat), i + d = 4 → d < n → mv < 16 → H_X1_allRenamings_21 N k9 n a (nI c) (nI x) (nI mv) (nI i) (G κ m) = if fld (mxF x) d i mv = 15 then (if c < 24 then k9 a (nI (c + 1)) (nI (x + 1)) (G κ (wI m a c (nI x))) else k9 a (nI c) (nI (x + 1)) (G κ m)) else k9 a (nI c) (nI (x + 1)) (G κ m)
  | _, _, 0, _, _, h, _ => by omega
  | 0, i, n + 1, mv, hi, _, hm => by
    refine Eq.trans u_H_X1_allRenamings_21 ?_
    refine e_t (by rw [leL (by decide) (by omega)]; show 4 ≤ i; omega) ?_
    by_cases z : mv = 15
    · rw [if_pos (show fld (mxF x) 0 i mv = 15 from z)]
      refine e_t (by rw [z]; rfl) ?_
      refine k_aln ha (by decide) ?_
      by_cases w : c < 24
      · rw [if_pos w]
        refine e_f (by rw [nI_leI (by omega) (by omega)]; omega) ?_
        refine k_asI (aGat ha) rfl (by omega) ?_
        refine e_nm ?_
        refine e_nm ?_
        rw [addR, addR]
      · rw [if_neg w]
        refine e_t (by rw [nI_leI (by omega) (by omega)]; omega) ?_
        refine e_nm ?_
        rw [addR]
    · rw [if_neg (show ¬ fld (mxF x) 0 i mv = 15 from z)]
      refine e_f (by rw [eqR (by decide) (by omega)]; exact z) ?_
      refine e_nm ?_
      rw [addR]
  | d + 1, i, n + 1, mv, hi, hd, hm => by
    have d4 := dg_lt x i
    have h2 : (2 : Nat) ^ dg x i < 2 ^ 4 := Nat.pow_lt_pow_right (by decide) d4
    have ho : mv ||| 2 ^ dg x i < 2 ^ 4 := Nat.or_lt_two_pow hm h2
    have ih := g_ren_i (k9 := k9) ha hx hc hc2 d (i + 1) n (mxF x i mv) (by omega) (by omega) ho
    refine Eq.trans u_H_X1_allRenamings_21 ?_
    refine e_f (by rw [leL (by decide) (by omega)]; show ¬ 4 ≤ i; omega) ?_
    refine e_bnd (c_newName hx (by omega)) ?_
    refine e_nm ?_
    refine e_nm ?_
    rw [addR, shl1 _ (by omega), nI_or (by omega) (by omega)]
    exact ih
theorem g_ren_l {a : Nat} (hN : 100 ≤ N) (ha : a < κ.1.1 ∧ κ.2.1 a = (1, 24)) : ∀ (d x n : Nat) (m : vM), x + d = 256 → d < n → (∀ j, j < cnt Rn x → rI m a j = nI (reL.getD j 0)) → ∃ m', H_X1_allRenamings_9 N n a (nI (cnt Rn x)) (nI x) (G κ m) = some (a, G κ m') ∧ Fr (fun b _ => b = a) m m' ∧ ∀ j, j < 24 → rI m' a j = nI (reL.getD j 0)
  | _, _, 0, _, _, h, _ => by omega
  | 0, x, n + 1, m, hx, _, h => by
    obtain rfl : x = 256 := by omega
    refine ⟨m, ?_, Fr.rf, fun j hj => h j (by rw [rn_24]; exact hj)⟩
    refine Eq.trans u_H_X1_allRenamings_9 ?_
    exact e_t (by decide) rfl
  | d + 1, x, n + 1, m, hx, hd, h => by
    have ok := rn_ok x (by omega)
    have hle : cnt Rn x ≤ 256 := by have := cnt_le Rn x; omega
    have h24 : cnt Rn x ≤ 24 := by
      have e := rn_24
      by_cases w : cnt Rn x ≤ 24
      · exact w
      · exfalso
        have : ∀ y, y < 257 → cnt Rn y ≤ 24 := by decide +kernel
        exact w (this x (by omega))
    have inner := g_ren_i (N := N) (m := m) (k9 := H_X1_allRenamings_9 N n) ha (show x < 256 by omega) (fun w => (ok w).1) h24 4 0 N 0 rfl (by omega) (by omega)
    have start : ∀ R, H_X1_allRenamings_21 N (H_X1_allRenamings_9 N n) N a (nI (cnt Rn x)) (nI x) 0 0 (G κ m) = R → H_X1_allRenamings_9 N (n + 1) a (nI (cnt Rn x)) (nI x) (G κ m) = R := fun R hR => by
      refine Eq.trans u_H_X1_allRenamings_9 ?_
      refine e_f (by rw [leL (by decide) (by omega)]; show ¬ 256 ≤ x; omega) ?_
      exact hR
    by_cases z : Rn x
    · obtain ⟨e1, e2⟩ := ok z
      rw [if_pos (show fld (mxF x) 4 0 0 = 15 from z), if_pos e1] at inner
      have hcn : cnt Rn (x + 1) = cnt Rn x + 1 := by rw [cnt, if_pos z]
      obtain ⟨m', j1, j2, j3⟩ := g_ren_l hN ha d (x + 1) n (wI m a (cnt Rn x) (nI x)) (by omega) (by omega) (fun j hj => by
        rw [hcn] at hj
        by_cases w : j = cnt Rn x
        · rw [w, rI_s, e2]
        · rw [rI_n _ _ (by omega)]; exact h j (by omega))
      rw [hcn] at j1
      exact ⟨m', start _ (inner.trans j1), j2.pI rfl, j3⟩
    · rw [if_neg (show ¬ fld (mxF x) 4 0 0 = 15 from z)] at inner
      have hcn : cnt Rn (x + 1) = cnt Rn x := by rw [cnt, if_neg z]; rfl
      obtain ⟨m', j1, j2, j3⟩ := g_ren_l hN ha d (x + 1) n m (by omega) (by omega) (by rw [hcn]; exact h)
      rw [hcn] at j1
      exact ⟨m', start _ (inner.trans j1), j2, j3⟩
/-! the least code -/
theorem g_suits_l {q : Bool} {ren : Nat} (ho : oG κ (fo q) 1 = true) (h0 : rI m (fo q) 0 = nI (sh_ q)) (hr : ren < 256) : ∀ (d i n : Nat), i + d = 4 → d < n → H_X1_suits_2 N n (fo q) (nI ren) (nI i) (G κ m) = some (b2 ((suF ren d i && (!q || dg ren 0 == 0)) = true), G κ m)
  | _, _, 0, _, h => by omega
  | 0, i, n + 1, hi, _ => by
    have d4 := dg_lt ren 0
    refine Eq.trans u_H_X1_suits_2 ?_
    refine e_t (by rw [leL (by decide) (by omega)]; show 4 ≤ i; omega) ?_
    refine k_ldIV ho h0 ?_
    cases q with
    | false => exact e_t rfl rfl
    | true =>
      refine e_f (by decide) ?_
      refine e_bnd (c_newName (i := 0) hr (by omega)) ?_
      by_cases z : dg ren 0 = 0
      · refine e_t (by rw [z]; rfl) ?_
        rw [b2_t (by rw [z]; rfl)]
        rfl
      · refine e_f (by rw [eqR (by decide) (by omega)]; exact z) ?_
        rw [b2_f (by rw [beq_false_of_ne z, suF]; decide)]
        rfl
  | d + 1, i, n + 1, hi, hd => by
    have hd4 := dg_lt ren i
    refine Eq.trans u_H_X1_suits_2 ?_
    refine e_f (by rw [leL (by decide) (by omega)]; show ¬ 4 ≤ i; omega) ?_
    refine e_bnd (c_newName hr (show i < 4 by omega)) ?_
    by_cases z : dg ren i = i
    · refine e_t (by rw [z]) ?_
      refine e_nm ?_
      rw [addR, g_suits_l ho h0 hr d (i + 1) n (by omega) (by omega)]
      rw [suF, z, beq_self_eq_true, Bool.true_and]
    · refine e_f (by rw [nI_eq (by omega) (by omega)]; exact z) ?_
      rw [suF, beq_false_of_ne z, Bool.false_and, Bool.false_and]
      rfl
def lcst (q : Bool) (size code j b : Nat) : Nat := if (suF (reL.getD j 0) (4 - size) size && (!q || dg (reL.getD j 0) 0 == 0)) = true then min b (rnC size code (dg (reL.getD j 0))) else b
def lsC (q : Bool) (size code : Nat) : Nat := fld (lcst q size code) 24 0 code
theorem lcst_lt {q : Bool} {size code j b : Nat} (hs : size < 5) (hb : b < 256) : lcst q size code j b < 256 := by
  unfold lcst
  split
  · exact Nat.lt_of_le_of_lt (Nat.min_le_left _ _) hb
  · exact hb
theorem c_mn {a b : Nat} (ha : a < 2 ^ 31) (hb : b < 2 ^ 31) : F_J9_min_7cf53 N (nI a) (nI b) s = some (nI (min a b), s) := by
  unfold F_J9_min_7cf53
  by_cases z : b < a
  · refine e_t (by rw [nI_ltI (by omega) (by omega)]; exact z) ?_
    rw [show min a b = b by omega]
    rfl
  · refine e_f (by rw [nI_ltI (by omega) (by omega)]; exact z) ?_
    rw [show min a b = a by omega]
    rfl
theorem g_least_l {q : Bool} {size code : Nat} (hN : 100 ≤ N) (hs : size < 5) (hc : code < 64) (ho : oG κ (fo q) 1 = true) (h0 : rI m (fo q) 0 = nI (sh_ q)) (ha : aRe q < κ.1.1 ∧ κ.2.1 (aRe q) = (1, 24)) (hr : ∀ j, j < 24 → rI m (aRe q) j = nI (reL.getD j 0)) : ∀ (d j n b : Nat), j + d = 24 → d < n → b < 256 → H_X1_leastCode_16 N n (fo q) (nI size) (nI code) (nI b) (aRe q) 24 (nI j) (G κ m) = some (nI (fld (lcst q size code) d j b), G κ m)
  | _, _, 0, _, _, h, _ => by omega
  | 0, j, n + 1, b, hj, _, _ => by
    obtain rfl : j = 24 := by omega
    refine Eq.trans u_H_X1_leastCode_16 ?_
    exact e_t (by decide) rfl
  | d + 1, j, n + 1, b, hj, hd, hb => by
    have r256 := re256 j (by omega)
    have hrn := rnC_lt (code := code) (x := reL.getD j 0) hs
    have ih := g_least_l hN hs hc ho h0 ha hr d (j + 1) n (lcst q size code j b) (by omega) (by omega) (lcst_lt hs hb)
    have e0 : fld (lcst q size code) (d + 1) j b = fld (lcst q size code) d (j + 1) (lcst q size code j b) := rfl
    rw [e0, ← ih]
    refine Eq.trans u_H_X1_leastCode_16 ?_
    refine e_f (by rw [leL (by decide) (by omega)]; show ¬ 24 ≤ j; omega) ?_
    refine k_alIV (aGat ha) rfl (by omega) (hr j (by omega)) ?_
    refine e_bnd (r := b2 ((suF (reL.getD j 0) (4 - size) size && (!q || dg (reL.getD j 0) 0 == 0)) = true)) (s' := G κ m) ?_ ?_
    · unfold F_X1_suits
      refine k_rcv ho ?_
      exact g_suits_l (N := N) ho h0 r256 (4 - size) size N (by omega) (by omega)
    · by_cases z : (suF (reL.getD j 0) (4 - size) size && (!q || dg (reL.getD j 0) 0 == 0)) = true
      · refine e_f (by rw [b2_t z]; decide) ?_
        refine e_bnd (c_renamed hN hs hc r256) ?_
        refine e_bnd (c_mn (by omega) (by omega)) ?_
        refine e_nm ?_
        rw [addR, show lcst q size code j b = min b (rnC size code (dg (reL.getD j 0))) from if_pos z]
      · refine e_t (by rw [b2_f z]) ?_
        refine e_nm ?_
        rw [addR, show lcst q size code j b = b from if_neg z]
theorem ls_b : ∀ q size, size < 5 → ∀ code, code < 64 → (sh_ q ≤ size ∧ code < cds size) → nxB q size code (lsC q size code) = true := by decide +kernel
end REN
