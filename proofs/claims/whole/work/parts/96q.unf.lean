section UROWS
theorem u_J_X3_unfold_44 {N : Nat} {k7 : Nat → Int32 → Int32 → vS → Option (Unit × vS)} {k18 : Nat → Int32 → Int32 → Int32 → vS → Option (Unit × vS)} {a0 : Nat} {l2 : Int32} {l3 : Int32} {l4 : Int32} {k0 : Nat} {k1 : Int32} {k2 : Int32} {k3 : Int32} {s : vS} : J_X3_unfold_44 N k7 k18 a0 l2 l3 l4 k0 k1 k2 k3 s = (bnd (F_X3_draw N k0 k1 k2 k3 s) (fun v5 s => nm (l4 + (1 : Int32)) (fun l4_6 => k18 a0 l2 l3 l4_6 s))) := rfl
theorem u_H_X3_unfold_18 {N : Nat} {k7 : Nat → Int32 → Int32 → vS → Option (Unit × vS)} {n : Nat} {a0 : Nat} {l2 : Int32} {l3 : Int32} {l4 : Int32} {s : vS} : H_X3_unfold_18 N k7 (n + 1) a0 l2 l3 l4 s = (if l3 ≤ l4 then (nm (l3 + (1 : Int32)) (fun l3_3 => k7 a0 l2 l3_3 s)) else (bnd (F_X1_bitOf N l4 l3 s) (fun v4 s => if (l2 &&& v4) = (0 : Int32) then (J_X3_unfold_44 N k7 (H_X3_unfold_18 N k7 n) a0 l2 l3 l4 a0 l4 l3 (0 : Int32) s) else (J_X3_unfold_44 N k7 (H_X3_unfold_18 N k7 n) a0 l2 l3 l4 a0 l4 l3 (1 : Int32) s)))) := rfl
theorem u_H_X3_unfold_7 {N : Nat} {n : Nat} {a0 : Nat} {l2 : Int32} {l3 : Int32} {s : vS} : H_X3_unfold_7 N (n + 1) a0 l2 l3 s = (ldI s a0 3 0 (fun v2 => if v2 ≤ l3 then (some ((), s)) else (H_X3_unfold_18 N (H_X3_unfold_7 N n) N a0 l2 l3 (0 : Int32) s))) := rfl
theorem u_F_X3_unfold {N : Nat} {a0 : Nat} {l1 : Int32} {l2 : Int32} {s : vS} : F_X3_unfold N a0 l1 l2 s = (rcv s a0 3 (bnd (F_X3_startWith N a0 l1 s) (fun v1 s => H_X3_unfold_7 N N a0 l2 (1 : Int32) s))) := rfl
end UROWS
section UNF
variable {N k : Nat} {m m' : vM} {s : vS} {κ κ' : (Nat × Nat) × (Nat → Nat × Nat) × (Nat → Nat → Option Nat)}
theorem y_g {ρ : Type} {R : Option ρ} {o : Option (Int32 × vS)} {c : Prop} [Decidable c] {s' : vS} {A B : vS → Option ρ} (h : o = some (b2 c, s')) (hc : c) (k : B s' = R) : bnd o (fun v s => if v = 0 then A s else B s) = R := e_bnd h (e_f (by rw [b2_t hc]; decide) k)
theorem g_has {a nn : Nat} (ha : NetG κ a) (h : rI m a 0 = nI nn) (x : Int32) : F_X3_has N a x (G κ m) = some (b2 ((0 : Int32) ≤ x ∧ x < nI nn), G κ m) := by
  have e := gc_has (N := N) (m := m) ha.o x
  rw [h] at e
  exact e
theorem g_start_l {a n0 : Nat} (ha : NetG κ a) : ∀ (d i n : Nat) (m : vM), i + d = 8 → d < n → rI m a 0 = nI n0 → (∀ j, j < i → rI m (a + 1) j = 0) →
    ∃ m', H_X3_startWith_16 N n a (nI i) (G κ m) = some ((), G κ m') ∧ Fr (fun b _ => b = a + 1) m m' ∧ ∀ j, j < 8 → rI m' (a + 1) j = 0
  | _, _, 0, _, _, h, _, _ => by omega
  | 0, i, n + 1, m, hi, _, _, h => by
    refine ⟨m, ?_, Fr.rf, fun j hj => h j (by omega)⟩
    refine Eq.trans u_H_X3_startWith_16 ?_
    exact e_t (by rw [leL (by decide) (by omega)]; show 8 ≤ i; omega) rfl
  | d + 1, i, n + 1, m, hi, hd, h0, h => by
    obtain ⟨m', g1, g2, g3⟩ := g_start_l (n0 := n0) ha d (i + 1) n (wI m (a + 1) i 0) (by omega) (by omega) (by rw [rI_n _ _ (by omega)]; exact h0) (fun j hj => by
      by_cases z : j = i
      · rw [z, rI_s]
      · rw [rI_n _ _ (by omega)]; exact h j (by omega))
    refine ⟨m', ?_, g2.pI rfl, g3⟩
    refine Eq.trans u_H_X3_startWith_16 ?_
    refine e_f (by rw [leL (by decide) (by omega)]; show ¬ 8 ≤ i; omega) ?_
    refine k_ldR ha.o ha.r1 ?_
    refine k_asI ha.a1 rfl (by omega) ?_
    refine e_nm ?_
    rw [addR]
    exact g1
theorem g_draw {a nn i j b : Nat} {r : Nat → Nat} (ha : NetG κ a) (h8 : nn ≤ 8) (h0 : rI m a 0 = nI nn) (hi : i < nn) (hj : j < nn) (hij : i ≠ j) (hb : b < 2) (ri : rI m (a + 1) i = nI (r i)) (rj : rI m (a + 1) j = nI (r j)) (li : r i < 256) (lj : r j < 256) (bi : bt (r i) j = 0) (bj : bt (r j) i = 0) : F_X3_draw N a (nI i) (nI j) (nI b) (G κ m) = some ((), G κ (wI (wI m (a + 1) i (nI (tg b (r i) j))) (a + 1) j (nI (tg b (r j) i)))) := by
  have rj' : rI (wI m (a + 1) i (nI (tg b (r i) j))) (a + 1) j = nI (r j) := by rw [rI_n _ _ (by omega)]; exact rj
  have t0 : ∀ x y, bt x y = 0 → tg 0 x y = (if bt x y = 0 then x else x ^^^ 2 ^ y) := fun x y e => by unfold tg; rfl
  have t1 : ∀ x y, tg 1 x y = (if bt x y = 1 then x else x ^^^ 2 ^ y) := fun x y => rfl
  unfold F_X3_draw
  refine k_rcv ha.o ?_
  refine y_g (g_has ha h0 _) (inr hi (by omega)) ?_
  refine y_g (g_has ha h0 _) (inr hj (by omega)) ?_
  refine k_ldR ha.o ha.r1 ?_
  rcases (show b = 0 ∨ b = 1 by omega) with rfl | rfl
  · refine e_t rfl ?_
    refine k_ldR ha.o ha.r1 ?_
    refine k_alIV ha.a1 rfl (by omega) ri ?_
    rw [an_b _ li _ (by omega)]
    unfold J_X3_draw_51
    refine k_asI ha.a1 rfl (by omega) ?_
    refine k_ldR ha.o ha.r1 ?_
    refine e_t rfl ?_
    refine k_ldR ha.o ha.r1 ?_
    refine k_alIV ha.a1 rfl (by omega) rj' ?_
    rw [an_b _ lj _ (by omega)]
    unfold J_X3_draw_86
    refine k_asI ha.a1 rfl (by omega) ?_
    rfl
  · refine e_f (by decide) ?_
    refine k_ldR ha.o ha.r1 ?_
    refine k_alIV ha.a1 rfl (by omega) ri ?_
    rw [or_b _ li _ (by omega)]
    unfold J_X3_draw_51
    refine k_asI ha.a1 rfl (by omega) ?_
    refine k_ldR ha.o ha.r1 ?_
    refine e_f (by decide) ?_
    refine k_ldR ha.o ha.r1 ?_
    refine k_alIV ha.a1 rfl (by omega) rj' ?_
    rw [or_b _ lj _ (by omega)]
    unfold J_X3_draw_86
    refine k_asI ha.a1 rfl (by omega) ?_
    rfl
def dr (code p q : Nat) (r : Nat → Nat) : Nat → Nat := rowL r (bt code (bx q p)) q p
def drP (code p : Nat) (r : Nat → Nat) : Nat → Nat := fld (dr code p) p 0 r
def uf (size code : Nat) : Nat → Nat := fld (drP code) (size - 1) 1 (fun _ => 0)
/-- the rows so far: those below (p, q) -/
def Ro (size p q : Nat) (r : Nat → Nat) : Prop := (∀ i, i < size → r i < 2 ^ size) ∧ ∀ i j, i < j → j < size → (p < j ∨ (p = j ∧ q ≤ i)) → bt (r i) j = 0 ∧ bt (r j) i = 0
theorem Ro.step {size code p q : Nat} {r : Nat → Nat} (hs : size ≤ 4) (h : Ro size p q r) (hq : q < p) (hp : p < size) : Ro size p (q + 1) (dr code p q r) := by
  have hb := bt_lt code (bx q p)
  have h2 : (2 : Nat) ^ size ≤ 2 ^ 8 := Nat.pow_le_pow_right (by decide) (by omega)
  have lq := h.1 q (by omega)
  have lp := h.1 p hp
  have e : ∀ i, dr code p q r i = if i = q then tg (bt code (bx q p)) (r q) p else if i = p then tg (bt code (bx q p)) (r p) q else r i := fun i => rfl
  refine ⟨fun i hi => ?_, fun i j hij hj hc => ?_⟩
  · rw [e]
    split
    · exact tg_lt lq hp
    · split
      · exact tg_lt lp (by omega)
      · exact h.1 i hi
  · have old := h.2 i j hij hj (by omega)
    rw [e, e]
    have a1 : ∀ z, z < 8 → bt (tg (bt code (bx q p)) (r q) p) z = if z = p then bt code (bx q p) else bt (r q) z := fun z hz => bt_tg hb (by omega) (by omega) hz
    have a2 : ∀ z, z < 8 → bt (tg (bt code (bx q p)) (r p) q) z = if z = q then bt code (bx q p) else bt (r p) z := fun z hz => bt_tg hb (by omega) (by omega) hz
    constructor
    · by_cases z1 : i = q
      · rw [if_pos z1, a1 j (by omega), if_neg (by omega), ← z1]
        exact old.1
      · rw [if_neg z1]
        by_cases z2 : i = p
        · rw [if_pos z2, a2 j (by omega), if_neg (by omega), ← z2]
          exact old.1
        · rw [if_neg z2]; exact old.1
    · by_cases z1 : j = q
      · rw [if_pos z1, a1 i (by omega), if_neg (by omega), ← z1]
        exact old.2
      · rw [if_neg z1]
        by_cases z2 : j = p
        · rw [if_pos z2, a2 i (by omega), if_neg (by omega), ← z2]
          exact old.2
        · rw [if_neg z2]; exact old.2
theorem g_unf_i {a size code p : Nat} {k7 : Nat → Int32 → Int32 → vS → Option (Unit × vS)} (ha : NetG κ a) (hs : size ≤ 4) (hc : code < 64) (hp : p < size) : ∀ (d q n : Nat) (m : vM) (r : Nat → Nat), q + d = p → d < n → rI m a 0 = nI size → (∀ i, i < size → rI m (a + 1) i = nI (r i)) → Ro size p q r →
    ∃ m', H_X3_unfold_18 N k7 n a (nI code) (nI p) (nI q) (G κ m) = k7 a (nI code) (nI (p + 1)) (G κ m') ∧ Fr (fun b _ => b = a + 1) m m' ∧ (∀ i, i < size → rI m' (a + 1) i = nI (fld (dr code p) d q r i)) ∧ Ro size (p + 1) 0 (fld (dr code p) d q r)
  | _, _, 0, _, _, _, h, _, _, _ => by omega
  | 0, q, n + 1, m, r, hq, _, h0, hr, ho => by
    refine ⟨m, ?_, Fr.rf, hr, ho.1, fun i j hij hj hc => ho.2 i j hij hj (by omega)⟩
    refine Eq.trans u_H_X3_unfold_18 ?_
    refine e_t (by rw [nI_leI (by omega) (by omega)]; omega) ?_
    refine e_nm ?_
    rw [addR]
  | d + 1, q, n + 1, m, r, hq, hd, h0, hr, ho => by
    have h2 : (2 : Nat) ^ size ≤ 2 ^ 8 := Nat.pow_le_pow_right (by decide) (by omega)
    have hbt := bt_lt code (bx q p)
    have lq := ho.1 q (by omega)
    have lp := ho.1 p hp
    have old := ho.2 q p (by omega) hp (Or.inr ⟨rfl, Nat.le_refl _⟩)
    have drw := g_draw (N := N) (b := bt code (bx q p)) ha (show size ≤ 8 by omega) h0 (show q < size by omega) hp (by omega) hbt (hr q (by omega)) (hr p hp) (by omega) (by omega) old.1 old.2
    have f : Fr (fun b _ => b = a + 1) m (wI (wI m (a + 1) q (nI (tg (bt code (bx q p)) (r q) p))) (a + 1) p (nI (tg (bt code (bx q p)) (r p) q))) := (Fr.rf.sI (P := fun b _ => b = a + 1) rfl).sI rfl
    obtain ⟨m', j1, j2, j3, j4⟩ := g_unf_i (k7 := k7) ha hs hc hp d (q + 1) n _ (dr code p q r) (by omega) (by omega) (show rI (wI (wI m (a + 1) q (nI (tg (bt code (bx q p)) (r q) p))) (a + 1) p (nI (tg (bt code (bx q p)) (r p) q))) a 0 = nI size by rw [f.i (by omega)]; exact h0) (fun i hi => by
      show _ = nI (if i = q then tg (bt code (bx q p)) (r q) p else if i = p then tg (bt code (bx q p)) (r p) q else r i)
      by_cases z2 : i = p
      · rw [z2, rI_s, if_neg (by omega), if_pos rfl]
      · rw [rI_n _ _ (by omega)]
        by_cases z1 : i = q
        · rw [z1, rI_s, if_pos rfl]
        · rw [rI_n _ _ (by omega), if_neg z1, if_neg z2]
          exact hr i hi) (ho.step hs (by omega) hp)
    refine ⟨m', ?_, f.tr j2, j3, j4⟩
    refine Eq.trans u_H_X3_unfold_18 ?_
    refine e_f (by rw [nI_leI (by omega) (by omega)]; omega) ?_
    refine e_bnd (c_bitOf (show q < 8 by omega) (show p < 8 by omega)) ?_
    have hb8 := bx8 q (by omega) p (by omega)
    have go : J_X3_unfold_44 N k7 (H_X3_unfold_18 N k7 n) a (nI code) (nI p) (nI q) a (nI q) (nI p) (nI (bt code (bx q p))) (G κ m) = k7 a (nI code) (nI (p + 1)) (G κ m') := by
      unfold J_X3_unfold_44
      refine e_bnd drw ?_
      refine e_nm ?_
      rw [addR]
      exact j1
    by_cases z : bt code (bx q p) = 0
    · refine e_t (by rw [and_bt code hc _ hb8]; exact z) ?_
      rw [z] at go
      exact go
    · refine e_f (by rw [and_bt code hc _ hb8]; exact z) ?_
      rw [show bt code (bx q p) = 1 by omega] at go
      exact go
theorem g_unf_l {a size code : Nat} (hN : 100 ≤ N) (ha : NetG κ a) (hs : size ≤ 4) (hc : code < 64) : ∀ (d p n : Nat) (m : vM) (r : Nat → Nat), (p + d = size ∨ (d = 0 ∧ size ≤ p ∧ p < 9)) → d < n → rI m a 0 = nI size → (∀ i, i < size → rI m (a + 1) i = nI (r i)) → Ro size p 0 r →
    ∃ m', H_X3_unfold_7 N n a (nI code) (nI p) (G κ m) = some ((), G κ m') ∧ Fr (fun b _ => b = a + 1) m m' ∧ (∀ i, i < size → rI m' (a + 1) i = nI (fld (drP code) d p r i)) ∧ ∀ i, i < size → fld (drP code) d p r i < 2 ^ size
  | _, _, 0, _, _, _, h, _, _, _ => by omega
  | 0, p, n + 1, m, r, hp, _, h0, hr, ho => by
    refine ⟨m, ?_, Fr.rf, hr, ho.1⟩
    refine Eq.trans u_H_X3_unfold_7 ?_
    refine k_ldIV ha.o h0 ?_
    exact e_t (by rw [nI_leI (by omega) (by omega)]; omega) rfl
  | d + 1, p, n + 1, m, r, hp, hd, h0, hr, ho => by
    obtain ⟨m1, g1, g2, g3, g4⟩ := g_unf_i (N := N) (k7 := H_X3_unfold_7 N n) (code := code) ha hs hc (show p < size by omega) p 0 N m r (by omega) (by omega) h0 hr ho
    obtain ⟨m', j1, j2, j3, j4⟩ := g_unf_l hN ha hs hc d (p + 1) n m1 (drP code p r) (by omega) (by omega) (by rw [g2.i (by omega)]; exact h0) g3 g4
    refine ⟨m', ?_, g2.tr j2, j3, j4⟩
    refine Eq.trans u_H_X3_unfold_7 ?_
    refine k_ldIV ha.o h0 ?_
    refine e_f (by rw [nI_leI (by omega) (by omega)]; omega) ?_
    exact g1.trans j1
theorem g_unfold {a size code : Nat} (hN : 100 ≤ N) (ha : NetG κ a) (hs : size ≤ 4) (hc : code < 64) : ∃ m', F_X3_unfold N a (nI size) (nI code) (G κ m) = some ((), G κ m') ∧ Fr (fun b _ => b = a ∨ b = a + 1) m m' ∧ NetIs m' a size (uf size code) := by
  obtain ⟨m1, g1, g2, g3⟩ := g_start_l (N := N) (n0 := size) ha 8 0 N (wI m a 0 (nI size)) rfl (by omega) (rI_s _ _ _ _) (fun j hj => absurd hj (Nat.not_lt_zero _))
  have f1 : Fr (fun b _ => b = a ∨ b = a + 1) m m1 := (Fr.rf.sI (P := fun b _ => b = a ∨ b = a + 1) (Or.inl rfl)).tr (g2.mo (fun _ _ w => Or.inr w))
  have h0 : rI m1 a 0 = nI size := by rw [g2.i (by omega), rI_s]
  obtain ⟨m', j1, j2, j3, j4⟩ := g_unf_l (N := N) (code := code) hN ha hs hc (size - 1) 1 N m1 (fun _ => 0) (by omega) (by omega) h0 (fun i hi => g3 i (by omega)) ⟨fun i hi => Nat.two_pow_pos size, fun i j _ _ _ => ⟨bt0 j, bt0 i⟩⟩
  refine ⟨m', ?_, f1.tr (j2.mo (fun _ _ w => Or.inr w)), by rw [j2.i (by omega)]; exact h0, by omega, fun i hi => ⟨j3 i hi, j4 i hi⟩⟩
  unfold F_X3_unfold
  refine k_rcv ha.o ?_
  refine e_bnd (r := ()) (s' := G κ m1) ?_ j1
  unfold F_X3_startWith
  refine k_rcv ha.o ?_
  have mm := fun s => c_minmax (N := N) (s := s) (show size ≤ 8 by omega)
  refine e_bnd (mm _).1 ?_
  refine e_bnd (mm _).2 ?_
  refine k_stI ha.o ?_
  exact g1
theorem uf_rowT : ∀ q k, k < mny q → ∀ i, i < 4 → i < sz_ q k → uf (sz_ q k) (cd_ q k) i = rowT q k i := by decide +kernel
end UNF
