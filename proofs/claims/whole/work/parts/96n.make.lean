section UROWS
theorem u_H_X4_init_36 {N : Nat} {n : Nat} {a0 : Nat} {l2 : Int32} {s : vS} : H_X4_init_36 N (n + 1) a0 l2 s = (if (12 : Int32) ≤ l2 then (some ((), s)) else (ldR s a0 4 1 (fun r4 => nwO s 6 (fun q5 s => bnd (F_X6_init N q5 s) (fun v6 s => asR s r4 5 6 l2 q5 (fun s => nm (l2 + (1 : Int32)) (fun l2_7 => H_X4_init_36 N n a0 l2_7 s))))))) := rfl
theorem u_F_X4_init {N : Nat} {a0 : Nat} {a1 : Nat} {s : vS} : F_X4_init N a0 a1 s = (rcv s a0 4 (nwA s 5 (12 : Int32) (fun q1 s => stR s a0 4 1 q1 (fun s => stI s a0 4 2 (0 : Int32) (fun s => nwO s 2 (fun q2 s => bnd (F_X2_init N q2 s) (fun v3 s => stR s a0 4 3 q2 (fun s => stR s a0 4 0 a1 (fun s => H_X4_init_36 N N a0 (0 : Int32) s))))))))) := rfl
theorem u_H_X5_init_21 {N : Nat} {n : Nat} {a0 : Nat} {l1 : Int32} {s : vS} : H_X5_init_21 N (n + 1) a0 l1 s = (if (4 : Int32) ≤ l1 then (some ((), s)) else (ldR s a0 5 1 (fun r3 => nwO s 6 (fun q4 s => bnd (F_X6_init N q4 s) (fun v5 s => asR s r3 5 6 l1 q4 (fun s => nm (l1 + (1 : Int32)) (fun l1_6 => H_X5_init_21 N n a0 l1_6 s))))))) := rfl
theorem u_F_X5_init {N : Nat} {a0 : Nat} {s : vS} : F_X5_init N a0 s = (rcv s a0 5 (nwA s 3 (4 : Int32) (fun q1 s => stR s a0 5 0 q1 (fun s => nwA s 5 (4 : Int32) (fun q2 s => stR s a0 5 1 q2 (fun s => H_X5_init_21 N N a0 (0 : Int32) s)))))) := rfl
end UROWS
section MAKE
variable {N k : Nat} {m m' : vM} {s : vS} {κ κ' : (Nat × Nat) × (Nat → Nat × Nat) × (Nat → Nat → Option Nat)}
theorem i_X5_l {a p b : Nat} (hN : 100 ≤ N) (ho : isOc a 5 = true) (hap : a < b ∧ p < b) (hp : SHf p = (5, 4)) (hS : ∀ i, i < 4 → SumSh (b + 3 * i) ∧ RRf p i = some (b + 3 * i)) : ∀ (d i n : Nat) (κ : (Nat × Nat) × (Nat → Nat × Nat) × (Nat → Nat → Option Nat)) (m : vM), i + d = 4 → d < n → Pr (b + 3 * i) κ → κ.2.2 a 1 = some p →
    ∃ κ' m', H_X5_init_21 N n a (nI i) (G κ m) = some ((), G κ' m') ∧ Pr (b + 3 * 4) κ' ∧ Kp κ κ' ∧ Cp (b + 3 * i) (b + 3 * 4) κ' ∧ (∀ j, i ≤ j → j < 4 → κ'.2.2 p j = some (b + 3 * j)) ∧ Fz (b + 3 * i) m m' ∧ ∀ j, i ≤ j → j < 4 → SumC m' (b + 3 * j) 2 row0
  | _, _, 0, _, _, _, h, _, _ => by omega
  | 0, i, n + 1, κ, m, hi, _, h, _ => by
    obtain rfl : i = 4 := by omega
    refine ⟨κ, m, ?_, h, fun _ _ _ e => e, fun c j v h1 h2 _ => by omega, fun j h1 h2 => by omega, fun _ _ _ => ⟨rfl, rfl⟩, fun j h1 h2 => by omega⟩
    refine Eq.trans u_H_X5_init_21 ?_
    exact e_t (by decide) rfl
  | d + 1, i, n + 1, κ, m, hi, hd, h, hr => by
    obtain ⟨sS, sR⟩ := hS i (by omega)
    have s0 : SHf (b + 3 * i) = (0, 6) := (of_decide_eq_true sS.2.1).2.1
    obtain ⟨p1, k1⟩ := h.new (d := (0, 6)) (w := 3) s0 rfl
    obtain ⟨κ2, m2, g1, p2, k2, c2, z2, sc⟩ := i_X6 (N := N) (m := zM m (b + 3 * i)) hN sS p1
    obtain ⟨p3, k3, r3⟩ := p2.ref (a := p) (j := i) (v := b + 3 * i) (by omega) sR
    obtain ⟨κ', m', j1, j2, j3, j4, j5, j6, j7⟩ := i_X5_l hN ho hap hp hS d (i + 1) n (kR κ2 p i (b + 3 * i)) m2 (by omega) (by omega) p3 (k3 _ _ _ (k2 _ _ _ (k1 _ _ _ hr)))
    refine ⟨κ', m', ?_, j2, ((k1.tr k2).tr k3).tr j3, fun c j v h1 h2 e => ?_, fun j h1 h2 => ?_, ((Fz_z (k := b + 3 * i) (by omega)).tr z2 (Nat.le_refl _)).tr j6 (by omega), fun j h1 h2 => ?_⟩
    · refine Eq.trans u_H_X5_init_21 ?_
      refine e_f (by rw [leL (by decide) (by omega)]; show ¬ 4 ≤ i; omega) ?_
      refine k_ldR (h.o (by omega) ho) hr ?_
      refine k_nwO ?_
      rw [h.n]
      refine e_bnd g1 ?_
      refine k_asR (aGat (p2.at (by omega) hp)) (p2.o (by omega) sS.2.1) (Or.inr ⟨rfl, rfl⟩) rfl (by omega) ?_
      refine e_nm ?_
      rw [addR]
      exact j1
    · by_cases w : c < b + 3 * (i + 1)
      · exact j3 _ _ _ (k3 _ _ _ (c2 c j v h1 (by omega) e))
      · exact j4 c j v (by omega) h2 e
    · by_cases w : j = i
      · rw [w]
        exact j3 _ _ _ r3
      · exact j5 j (by omega) h2
    · by_cases w : j = i
      · rw [w]
        exact sc.same (fun c l hc => j6 c l (by omega))
      · exact j7 j (by omega) h2
theorem i_X4_l {a p b : Nat} (hN : 100 ≤ N) (ho : isOc a 4 = true) (hap : a < b ∧ p < b) (hp : SHf p = (5, 12)) (hS : ∀ i, i < 12 → SumSh (b + 3 * i) ∧ RRf p i = some (b + 3 * i)) : ∀ (d i n : Nat) (κ : (Nat × Nat) × (Nat → Nat × Nat) × (Nat → Nat → Option Nat)) (m : vM), i + d = 12 → d < n → Pr (b + 3 * i) κ → κ.2.2 a 1 = some p →
    ∃ κ' m', H_X4_init_36 N n a (nI i) (G κ m) = some ((), G κ' m') ∧ Pr (b + 3 * 12) κ' ∧ Kp κ κ' ∧ Cp (b + 3 * i) (b + 3 * 12) κ' ∧ (∀ j, i ≤ j → j < 12 → κ'.2.2 p j = some (b + 3 * j)) ∧ Fz (b + 3 * i) m m' ∧ ∀ j, i ≤ j → j < 12 → SumC m' (b + 3 * j) 2 row0
  | _, _, 0, _, _, _, h, _, _ => by omega
  | 0, i, n + 1, κ, m, hi, _, h, _ => by
    obtain rfl : i = 12 := by omega
    refine ⟨κ, m, ?_, h, fun _ _ _ e => e, fun c j v h1 h2 _ => by omega, fun j h1 h2 => by omega, fun _ _ _ => ⟨rfl, rfl⟩, fun j h1 h2 => by omega⟩
    refine Eq.trans u_H_X4_init_36 ?_
    exact e_t (by decide) rfl
  | d + 1, i, n + 1, κ, m, hi, hd, h, hr => by
    obtain ⟨sS, sR⟩ := hS i (by omega)
    have s0 : SHf (b + 3 * i) = (0, 6) := (of_decide_eq_true sS.2.1).2.1
    obtain ⟨p1, k1⟩ := h.new (d := (0, 6)) (w := 3) s0 rfl
    obtain ⟨κ2, m2, g1, p2, k2, c2, z2, sc⟩ := i_X6 (N := N) (m := zM m (b + 3 * i)) hN sS p1
    obtain ⟨p3, k3, r3⟩ := p2.ref (a := p) (j := i) (v := b + 3 * i) (by omega) sR
    obtain ⟨κ', m', j1, j2, j3, j4, j5, j6, j7⟩ := i_X4_l hN ho hap hp hS d (i + 1) n (kR κ2 p i (b + 3 * i)) m2 (by omega) (by omega) p3 (k3 _ _ _ (k2 _ _ _ (k1 _ _ _ hr)))
    refine ⟨κ', m', ?_, j2, ((k1.tr k2).tr k3).tr j3, fun c j v h1 h2 e => ?_, fun j h1 h2 => ?_, ((Fz_z (k := b + 3 * i) (by omega)).tr z2 (Nat.le_refl _)).tr j6 (by omega), fun j h1 h2 => ?_⟩
    · refine Eq.trans u_H_X4_init_36 ?_
      refine e_f (by rw [leL (by decide) (by omega)]; show ¬ 12 ≤ i; omega) ?_
      refine k_ldR (h.o (by omega) ho) hr ?_
      refine k_nwO ?_
      rw [h.n]
      refine e_bnd g1 ?_
      refine k_asR (aGat (p2.at (by omega) hp)) (p2.o (by omega) sS.2.1) (Or.inr ⟨rfl, rfl⟩) rfl (by omega) ?_
      refine e_nm ?_
      rw [addR]
      exact j1
    · by_cases w : c < b + 3 * (i + 1)
      · exact j3 _ _ _ (k3 _ _ _ (c2 c j v h1 (by omega) e))
      · exact j4 c j v (by omega) h2 e
    · by_cases w : j = i
      · rw [w]
        exact j3 _ _ _ r3
      · exact j5 j (by omega) h2
    · by_cases w : j = i
      · rw [w]
        exact sc.same (fun c l hc => j6 c l (by omega))
      · exact j7 j (by omega) h2
/-- a list of references, as far as it goes -/
theorem rr_in {a j v : Nat} {l : List (Option Nat)} (h : rrL.getD a [] = l) (e : RRf a j = some v) : j < l.length ∧ l.getD j none = some v := by
  unfold RRf at e
  rw [h] at e
  by_cases z : j < l.length
  · exact ⟨z, e⟩
  · rw [List.getD_eq_getElem?_getD, List.getElem?_eq_none (by omega)] at e
    cases e
def ShS (a : Nat) : Prop := isOc a 5 = true ∧ SHf (a + 1) = (3, 4) ∧ SHf (a + 2) = (5, 4) ∧ rrL.getD a [] = [some (a + 1), some (a + 2)] ∧ rrL.getD (a + 1) [] = [] ∧ rrL.getD (a + 2) [] = [some (a + 3 + 3 * 0), some (a + 3 + 3 * 1), some (a + 3 + 3 * 2), some (a + 3 + 3 * 3)] ∧ ∀ i, i < 4 → SumSh (a + 3 + 3 * i)
theorem ShS.r {a : Nat} (h : ShS a) : RRf a 0 = some (a + 1) ∧ RRf a 1 = some (a + 2) ∧ ∀ i, i < 4 → RRf (a + 2) i = some (a + 3 + 3 * i) := by
  refine ⟨?_, ?_, fun i hi => ?_⟩
  · unfold RRf; rw [h.2.2.2.1]; rfl
  · unfold RRf; rw [h.2.2.2.1]; rfl
  · unfold RRf
    rw [h.2.2.2.2.2.1]
    match i, hi with
    | 0, _ => rfl
    | 1, _ => rfl
    | 2, _ => rfl
    | 3, _ => rfl
theorem i_X5 {a : Nat} (hN : 100 ≤ N) (hS : ShS a) (h : Pr (a + 1) κ) : ∃ κ' m', F_X5_init N a (G κ m) = some ((), G κ' m') ∧ Pr (a + 15) κ' ∧ Kp κ κ' ∧ Cp a (a + 15) κ' ∧ Fz (a + 1) m m' ∧ (∀ j, rI m' (a + 1) j = 0) ∧ ∀ j, j < 4 → SumC m' (a + 3 + 3 * j) 2 row0 := by
  obtain ⟨s1, s2, s3, s4, s5, s6, s7⟩ := id hS
  obtain ⟨q1, q2, q3⟩ := hS.r
  obtain ⟨p1, k1⟩ := h.new (d := (3, 4)) (w := 4) s2 rfl
  obtain ⟨p2, k2, r2⟩ := p1.ref (a := a) (j := 0) (v := a + 1) (by omega) q1
  obtain ⟨p3, k3⟩ := p2.new (d := (5, 4)) (w := 4) s3 rfl
  obtain ⟨p4, k4, r4⟩ := p3.ref (a := a) (j := 1) (v := a + 2) (by omega) q2
  obtain ⟨κ', m', j1, j2, j3, j4, j5, j6, j7⟩ := i_X5_l (N := N) (a := a) (p := a + 2) (b := a + 3) hN s1 ⟨by omega, by omega⟩ s3 (fun i hi => ⟨s7 i hi, q3 i hi⟩) 4 0 N _ (zM (zM m (a + 1)) (a + 2)) rfl (by omega) p4 r4
  refine ⟨κ', m', ?_, j2, (((k1.tr k2).tr k3).tr k4).tr j3, fun c j v h1 h2 e => ?_, ((Fz_z (k := a + 1) (by omega)).tr (Fz_z (k := a + 1) (by omega)) (Nat.le_refl _)).tr j6 (by omega), fun j => ?_, fun j hj => j7 j (Nat.zero_le _) hj⟩
  · unfold F_X5_init
    refine k_rcv (h.o (by omega) s1) ?_
    refine k_nwA (n := 4) rfl (by omega) ?_
    rw [h.n]
    refine k_stR (p1.o (by omega) s1) ?_
    refine k_nwA (n := 4) rfl (by omega) ?_
    rw [p2.n]
    refine k_stR (p3.o (by omega) s1) ?_
    exact j1
  · by_cases w : a + 3 ≤ c
    · exact j4 c j v (by omega) (by omega) e
    · rcases (show c = a ∨ c = a + 1 ∨ c = a + 2 by omega) with rfl | rfl | rfl
      · have hl := rr_in s4 e
        match j, hl with
        | 0, hl => rw [show v = c + 1 from (Option.some.inj hl.2).symm]; exact j3 _ _ _ (k4 _ _ _ (k3 _ _ _ r2))
        | 1, hl => rw [show v = c + 2 from (Option.some.inj hl.2).symm]; exact j3 _ _ _ r4
        | n + 2, hl => exact absurd hl.1 (by show ¬ n + 2 < 2; omega)
      · exact absurd e (rr_0 s5)
      · have hl := rr_in s6 e
        have hj : j < 4 := hl.1
        have := q3 j hj
        rw [e] at this
        rw [this]
        exact j5 j (Nat.zero_le _) hj
  · rw [(j6 (a + 1) j (by omega)).1, zM_I, if_neg (by omega), zM_I, if_pos rfl]
end MAKE
