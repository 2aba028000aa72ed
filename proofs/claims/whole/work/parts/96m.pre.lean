section UROWS
theorem u_H_X6_empty_7 {N : Nat} {n : Nat} {a0 : Nat} {l1 : Int32} {s : vS} : H_X6_empty_7 N (n + 1) a0 l1 s = (if (29 : Int32) ≤ l1 then (some ((), s)) else (ldR s a0 6 1 (fun r1 => asJ s r1 l1 (0 : Int64) (fun s => ldR s a0 6 2 (fun r2 => asJ s r2 l1 (1 : Int64) (fun s => nm (l1 + (1 : Int32)) (fun l1_3 => H_X6_empty_7 N n a0 l1_3 s))))))) := rfl
theorem u_F_X6_empty {N : Nat} {a0 : Nat} {s : vS} : F_X6_empty N a0 s = (rcv s a0 6 (stI s a0 6 0 (0 : Int32) (fun s => H_X6_empty_7 N N a0 (0 : Int32) s))) := rfl
end UROWS
section PRE
variable {N k : Nat} {m m' : vM} {s : vS} {κ κ' : (Nat × Nat) × (Nat → Nat × Nat) × (Nat → Nat → Option Nat)}
/-! the pictures on the way: the first k cells of the last one -/
def wd (d : Nat × Nat) : Nat := if d.1 = 0 then vN d.2 else d.2
def zz : Nat → Nat
  | 0 => 0
  | k + 1 => zz k + wd (SHf k)
def Pr (k : Nat) (κ : (Nat × Nat) × (Nat → Nat × Nat) × (Nat → Nat → Option Nat)) : Prop := κ.1 = (k, zz k) ∧ (∀ a, a < k → κ.2.1 a = SHf a) ∧ (∀ a, k ≤ a → κ.2.1 a = (0, 0)) ∧ (∀ a j v, κ.2.2 a j = some v → RRf a j = some v) ∧ ∀ a j, k ≤ a → κ.2.2 a j = none
def Cp (lo hi : Nat) (κ : (Nat × Nat) × (Nat → Nat × Nat) × (Nat → Nat → Option Nat)) : Prop := ∀ a j v, lo ≤ a → a < hi → RRf a j = some v → κ.2.2 a j = some v
/-- what is known stays known -/
def Kp (κ κ' : (Nat × Nat) × (Nat → Nat × Nat) × (Nat → Nat → Option Nat)) : Prop := ∀ a j v, κ.2.2 a j = some v → κ'.2.2 a j = some v
theorem Kp.tr {κ1 κ2 κ3 : (Nat × Nat) × (Nat → Nat × Nat) × (Nat → Nat → Option Nat)} (h : Kp κ1 κ2) (g : Kp κ2 κ3) : Kp κ1 κ3 := fun a j v e => g a j v (h a j v e)
theorem Pr.n (h : Pr k κ) : κ.1.1 = k := by rw [h.1]
theorem Pr.o (h : Pr k κ) {a ci : Nat} (ha : a < k) (hc : isOc a ci = true) : oG κ a ci = true := by
  have e := of_decide_eq_true hc
  refine decide_eq_true ⟨by rw [h.n]; exact ha, ?_, e.2.2⟩
  rw [h.2.1 a ha]
  exact e.2.1
theorem Pr.at (h : Pr k κ) {a kd n : Nat} (ha : a < k) (hs : SHf a = (kd, n)) : a < κ.1.1 ∧ κ.2.1 a = (kd, n) := ⟨by rw [h.n]; exact ha, by rw [h.2.1 a ha]; exact hs⟩
theorem Pr.new (h : Pr k κ) {d : Nat × Nat} {w : Nat} (hd : SHf k = d) (hw : wd d = w) : Pr (k + 1) (kN κ d w) ∧ Kp κ (kN κ d w) := by
  obtain ⟨h1, h2, h3, h4, h5⟩ := h
  have hn : κ.1.1 = k := by rw [h1]
  have e1 : ∀ a, (kN κ d w).2.1 a = if a = k then d else κ.2.1 a := fun a => by
    show va_up κ.2.1 κ.1.1 d a = _
    rw [hn]
    rfl
  have e2 : ∀ a j, (kN κ d w).2.2 a j = if a = k then none else κ.2.2 a j := fun a j => by
    show (if a = κ.1.1 then (fun _ => none) else κ.2.2 a) j = _
    rw [hn]
    split <;> rfl
  refine ⟨⟨?_, fun a ha => ?_, fun a ha => ?_, fun a j v e => ?_, fun a j ha => ?_⟩, fun a j v e => ?_⟩
  · show (κ.1.1 + 1, κ.1.2 + w) = _
    rw [h1, zz, hd, hw]
  · rw [e1]
    by_cases z : a = k
    · rw [if_pos z, z, hd]
    · rw [if_neg z]; exact h2 a (by omega)
  · rw [e1, if_neg (by omega)]; exact h3 a (by omega)
  · rw [e2] at e
    by_cases z : a = k
    · rw [if_pos z] at e; cases e
    · rw [if_neg z] at e; exact h4 a j v e
  · rw [e2, if_neg (by omega)]; exact h5 a j (by omega)
  · rw [e2]
    by_cases z : a = k
    · rw [h5 a j (by omega)] at e; cases e
    · rw [if_neg z]; exact e
theorem Pr.ref (h : Pr k κ) {a j v : Nat} (ha : a < k) (hr : RRf a j = some v) : Pr k (kR κ a j v) ∧ Kp κ (kR κ a j v) ∧ (kR κ a j v).2.2 a j = some v := by
  obtain ⟨h1, h2, h3, h4, h5⟩ := h
  have e2 : ∀ b i, (kR κ a j v).2.2 b i = if b = a ∧ i = j then some v else κ.2.2 b i := fun b i => rfl
  refine ⟨⟨h1, h2, h3, fun b i u e => ?_, fun b i hb => ?_⟩, fun b i u e => ?_, ?_⟩
  · rw [e2] at e
    by_cases z : b = a ∧ i = j
    · rw [if_pos z] at e
      rw [z.1, z.2, hr]
      exact e
    · rw [if_neg z] at e; exact h4 b i u e
  · rw [e2, if_neg (by omega)]; exact h5 b i hb
  · rw [e2]
    by_cases z : b = a ∧ i = j
    · rw [if_pos z, ← hr, ← z.1, ← z.2]
      exact h4 b i u e
    · rw [if_neg z]; exact e
  · rw [e2, if_pos ⟨rfl, rfl⟩]
/-- ints and longs of the first cells stay -/
def Fz (k : Nat) (m m' : vM) : Prop := ∀ b j, b < k → rI m' b j = rI m b j ∧ rJ m' b j = rJ m b j
theorem Fz.tr {m1 m2 m3 : vM} {k k' : Nat} (h : Fz k m1 m2) (g : Fz k' m2 m3) (hk : k ≤ k') : Fz k m1 m3 := fun b j hb => by
  rw [(g b j (by omega)).1, (g b j (by omega)).2]
  exact h b j hb
theorem Fz_z {a : Nat} (h : k ≤ a) : Fz k m (zM m a) := fun b j hb => by
  rw [zM_I, zM_J, if_neg (by omega), if_neg (by omega)]
  exact ⟨rfl, rfl⟩
theorem Fz_I {a i : Nat} {v : Int32} (h : k ≤ a) : Fz k m (wI m a i v) := fun b j hb => by
  rw [rI_n _ _ (by omega)]
  exact ⟨rfl, rfl⟩
theorem Fz_J {a i : Nat} {v : Int64} (h : k ≤ a) : Fz k m (wJ m a i v) := fun b j hb => by
  rw [rJ_n _ _ (by omega)]
  exact ⟨rfl, rfl⟩
theorem rr_0 {a j v : Nat} (h : rrL.getD a [] = []) : ¬ RRf a j = some v := by
  unfold RRf
  rw [h]
  intro e
  cases e
/-- a net's cells -/
def NetS (a : Nat) : Prop := a + 2 < 354 ∧ isOc a 3 = true ∧ SHf (a + 1) = (1, 8) ∧ SHf (a + 2) = (1, 8) ∧ rrL.getD a [] = [none, some (a + 1), some (a + 2)] ∧ rrL.getD (a + 1) [] = [] ∧ rrL.getD (a + 2) [] = []
theorem NetS.r1 {a : Nat} (h : NetS a) : RRf a 1 = some (a + 1) := by unfold RRf; rw [h.2.2.2.2.1]; rfl
theorem NetS.r2 {a : Nat} (h : NetS a) : RRf a 2 = some (a + 2) := by unfold RRf; rw [h.2.2.2.2.1]; rfl
theorem rr_3 {a j v x y : Nat} (h : rrL.getD a [] = [none, some x, some y]) (e : RRf a j = some v) : (j = 1 ∧ v = x) ∨ (j = 2 ∧ v = y) := by
  unfold RRf at e
  rw [h] at e
  match j, e with
  | 0, e => cases e
  | 1, e => cases e; exact Or.inl ⟨rfl, rfl⟩
  | 2, e => cases e; exact Or.inr ⟨rfl, rfl⟩
  | n + 3, e => cases e
theorem i_X3 {a : Nat} (hS : NetS a) (h : Pr (a + 1) κ) : ∃ κ' m', F_X3_init N a (G κ m) = some ((), G κ' m') ∧ Pr (a + 3) κ' ∧ Kp κ κ' ∧ Cp a (a + 3) κ' ∧ Fz a m m' ∧ rI m' a 0 = 0 ∧ ∀ j, rI m' (a + 1) j = 0 ∧ rI m' (a + 2) j = 0 := by
  obtain ⟨s1, s2, s3, s4, s5, s6, s7⟩ := id hS
  obtain ⟨p1, k1⟩ := h.new (d := (1, 8)) (w := 8) s3 rfl
  obtain ⟨p2, k2, r2⟩ := p1.ref (a := a) (j := 1) (v := a + 1) (by omega) hS.r1
  obtain ⟨p3, k3⟩ := p2.new (d := (1, 8)) (w := 8) s4 rfl
  obtain ⟨p4, k4, r4⟩ := p3.ref (a := a) (j := 2) (v := a + 2) (by omega) hS.r2
  refine ⟨_, zM (zM (wI m a 0 0) (a + 1)) (a + 2), ?_, p4, ((k1.tr k2).tr k3).tr k4, fun b j v hb1 hb2 e => ?_, ((Fz_I (Nat.le_refl a)).tr (Fz_z (k := a) (by omega)) (Nat.le_refl _)).tr (Fz_z (k := a) (by omega)) (Nat.le_refl _), ?_, fun j => ⟨?_, ?_⟩⟩
  · unfold F_X3_init
    refine k_rcv (h.o (by omega) s2) ?_
    refine k_stI (h.o (by omega) s2) ?_
    refine k_nwA (n := 8) rfl (by omega) ?_
    rw [h.n]
    refine k_stR (p1.o (by omega) s2) ?_
    refine k_nwA (n := 8) rfl (by omega) ?_
    rw [p2.n]
    exact k_stR (p3.o (by omega) s2) rfl
  · rcases (show b = a ∨ b = a + 1 ∨ b = a + 2 by omega) with rfl | rfl | rfl
    · rcases rr_3 s5 e with ⟨rfl, rfl⟩ | ⟨rfl, rfl⟩
      · exact k4 _ _ _ (k3 _ _ _ r2)
      · exact r4
    · exact absurd e (rr_0 s6)
    · exact absurd e (rr_0 s7)
  · rw [zM_I, if_neg (by omega), zM_I, if_neg (by omega), rI_s]
  · rw [zM_I, if_neg (by omega), zM_I, if_pos rfl]
  · rw [zM_I, if_pos rfl]
theorem i_X2 {a : Nat} (hc : isOc a 2 = true) (h : Pr (a + 1) κ) : F_X2_init N a (G κ m) = some ((), G κ (wJ (wJ m a 0 0) a 1 1)) := by
  unfold F_X2_init
  refine k_rcv (h.o (by omega) hc) ?_
  refine k_stJ (h.o (by omega) hc) ?_
  exact k_stJ (h.o (by omega) hc) rfl
/-- a sum's cells -/
def SumSh (a : Nat) : Prop := a + 2 < 354 ∧ isOc a 6 = true ∧ SHf (a + 1) = (2, 29) ∧ SHf (a + 2) = (2, 29) ∧ rrL.getD a [] = [none, some (a + 1), some (a + 2)] ∧ rrL.getD (a + 1) [] = [] ∧ rrL.getD (a + 2) [] = []
theorem SumSh.r1 {a : Nat} (h : SumSh a) : RRf a 1 = some (a + 1) := by unfold RRf; rw [h.2.2.2.2.1]; rfl
theorem SumSh.r2 {a : Nat} (h : SumSh a) : RRf a 2 = some (a + 2) := by unfold RRf; rw [h.2.2.2.2.1]; rfl
theorem g_empty_l {a : Nat} (ho : oG κ a 6 = true) (r1 : κ.2.2 a 1 = some (a + 1)) (r2 : κ.2.2 a 2 = some (a + 2)) (a1 : a + 1 < κ.1.1 ∧ κ.2.1 (a + 1) = (2, 29)) (a2 : a + 2 < κ.1.1 ∧ κ.2.1 (a + 2) = (2, 29)) : ∀ (d i n : Nat) (m : vM), i + d = 29 → d < n → (∀ j, j < i → rowC m a j = (0, 1)) → ∃ m', H_X6_empty_7 N n a (nI i) (G κ m) = some ((), G κ m') ∧ Fz a m m' ∧ rI m' a 0 = rI m a 0 ∧ RowC m' a row0
  | _, _, 0, _, _, h, _ => by omega
  | 0, i, n + 1, m, hi, _, h => by
    refine ⟨m, ?_, fun _ _ _ => ⟨rfl, rfl⟩, rfl, fun j hj => h j (by omega)⟩
    refine Eq.trans u_H_X6_empty_7 ?_
    exact e_t (by rw [leL (by decide) (by omega)]; show 29 ≤ i; omega) rfl
  | d + 1, i, n + 1, m, hi, hd, h => by
    obtain ⟨m', g1, g2, g3, g4⟩ := g_empty_l ho r1 r2 a1 a2 d (i + 1) n (wJ (wJ m (a + 1) i 0) (a + 2) i 1) (by omega) (by omega) (fun j hj => by
      show (rJ _ (a + 1) j, rJ _ (a + 2) j) = (0, 1)
      by_cases z : j = i
      · rw [z, rJ_s, rJ_n _ _ (by omega), rJ_s]
      · rw [rJ_n _ _ (by omega), rJ_n _ _ (by omega), rJ_n _ _ (by omega), rJ_n _ _ (by omega)]
        exact h j (by omega))
    refine ⟨m', ?_, ((Fz_J (k := a) (by omega)).tr (Fz_J (k := a) (by omega)) (Nat.le_refl _)).tr g2 (Nat.le_refl _), g3, g4⟩
    refine Eq.trans u_H_X6_empty_7 ?_
    refine e_f (by rw [leL (by decide) (by omega)]; show ¬ 29 ≤ i; omega) ?_
    refine k_ldR ho r1 ?_
    refine k_asJ (aGat a1) rfl (by omega) ?_
    refine k_ldR ho r2 ?_
    refine k_asJ (aGat a2) rfl (by omega) ?_
    refine e_nm ?_
    rw [addR]
    exact g1
theorem i_X6 {a : Nat} (hN : 100 ≤ N) (hS : SumSh a) (h : Pr (a + 1) κ) : ∃ κ' m', F_X6_init N a (G κ m) = some ((), G κ' m') ∧ Pr (a + 3) κ' ∧ Kp κ κ' ∧ Cp a (a + 3) κ' ∧ Fz a m m' ∧ SumC m' a 2 row0 := by
  obtain ⟨s1, s2, s3, s4, s5, s6, s7⟩ := id hS
  obtain ⟨p1, k1⟩ := h.new (d := (2, 29)) (w := 29) s3 rfl
  obtain ⟨p2, k2, r2⟩ := p1.ref (a := a) (j := 1) (v := a + 1) (by omega) hS.r1
  obtain ⟨p3, k3⟩ := p2.new (d := (2, 29)) (w := 29) s4 rfl
  obtain ⟨p4, k4, r4⟩ := p3.ref (a := a) (j := 2) (v := a + 2) (by omega) hS.r2
  obtain ⟨m', g1, g2, g3, g4⟩ := g_empty_l (N := N) (p4.o (a := a) (by omega) s2) (k4 _ _ _ (k3 _ _ _ r2)) r4 (p4.at (by omega) s3) (p4.at (by omega) s4) 29 0 N (wI (zM (zM (wI m a 0 0) (a + 1)) (a + 2)) a 0 0) rfl (by omega) (fun j hj => absurd hj (Nat.not_lt_zero _))
  refine ⟨_, m', ?_, p4, ((k1.tr k2).tr k3).tr k4, fun b j v hb1 hb2 e => ?_, ((((Fz_I (Nat.le_refl a)).tr (Fz_z (k := a) (by omega)) (Nat.le_refl _)).tr (Fz_z (k := a) (by omega)) (Nat.le_refl _)).tr (Fz_I (k := a) (Nat.le_refl a)) (Nat.le_refl _)).tr g2 (Nat.le_refl _), ?_, g4⟩
  · unfold F_X6_init
    refine k_rcv (h.o (by omega) s2) ?_
    refine k_stI (h.o (by omega) s2) ?_
    refine k_nwA (n := 29) rfl (by omega) ?_
    rw [h.n]
    refine k_stR (p1.o (by omega) s2) ?_
    refine k_nwA (n := 29) rfl (by omega) ?_
    rw [p2.n]
    refine k_stR (p3.o (by omega) s2) ?_
    refine e_bnd (r := ()) (s' := G _ m') ?_ rfl
    unfold F_X6_empty
    refine k_rcv (p4.o (by omega) s2) ?_
    refine k_stI (p4.o (by omega) s2) ?_
    exact g1
  · rcases (show b = a ∨ b = a + 1 ∨ b = a + 2 by omega) with rfl | rfl | rfl
    · rcases rr_3 s5 e with ⟨rfl, rfl⟩ | ⟨rfl, rfl⟩
      · exact k4 _ _ _ (k3 _ _ _ r2)
      · exact r4
    · exact absurd e (rr_0 s6)
    · exact absurd e (rr_0 s7)
  · rw [g3, rI_s]
    rfl
end PRE
