section UROWS
theorem u_J_X9_countAll_60 {N : Nat} {k27 : Nat → Int32 → Int32 → vS → Option (Unit × vS)} {a0 : Nat} {l1 : Int32} {l2 : Int32} {s : vS} : J_X9_countAll_60 N k27 a0 l1 l2 s = (nm (l2 + (1 : Int32)) (fun l2_9 => k27 a0 l1 l2_9 s)) := rfl
theorem u_H_X9_countAll_27 {N : Nat} {n : Nat} {a0 : Nat} {l1 : Int32} {l2 : Int32} {s : vS} : H_X9_countAll_27 N (n + 1) a0 l1 l2 s = (ldI s a0 9 5 (fun v4 => if ((1 : Int32) <<< (v4 &&& 31)) ≤ l2 then (some ((), s)) else (bnd (F_X9_ones N l2 s) (fun v5 s => if v5 = l1 then (ldR s a0 9 27 (fun r6 => bnd (F_X9_numberOn N a0 l2 (-1 : Int32) s) (fun v7 s => alI s r6 v7 (fun v8 => asI s r6 v7 (v8 + (1 : Int32)) (fun s => J_X9_countAll_60 N (H_X9_countAll_27 N n) a0 l1 l2 s))))) else (J_X9_countAll_60 N (H_X9_countAll_27 N n) a0 l1 l2 s))))) := rfl
theorem u_H_X9_countAll_6 {N : Nat} {n : Nat} {a0 : Nat} {l1 : Int32} {l2 : Int32} {s : vS} : H_X9_countAll_6 N (n + 1) a0 l1 l2 s = (if (19 : Int32) ≤ l2 then (H_X9_countAll_27 N N a0 l1 (0 : Int32) s) else (ldR s a0 9 27 (fun r2 => asI s r2 l2 (0 : Int32) (fun s => nm (l2 + (1 : Int32)) (fun l2_3 => H_X9_countAll_6 N n a0 l1 l2_3 s))))) := rfl
theorem u_F_X9_countAll {N : Nat} {a0 : Nat} {l1 : Int32} {s : vS} : F_X9_countAll N a0 l1 s = (rcv s a0 9 (bnd (F_X9_lookInHand N a0 s) (fun v1 s => H_X9_countAll_6 N N a0 l1 (0 : Int32) s))) := rfl
theorem u_J_X9_foundAll_92 {N : Nat} {k8 : Nat → Int32 → Int32 → Int32 → vS → Option (Int32 × vS)} {a0 : Nat} {l1 : Int32} {l2 : Int32} {l3 : Int32} {s : vS} : J_X9_foundAll_92 N k8 a0 l1 l2 l3 s = (nm (l3 + (1 : Int32)) (fun l3_5 => k8 a0 l1 l2 l3_5 s)) := rfl
theorem u_J_X9_foundAll_68 {N : Nat} {k8 : Nat → Int32 → Int32 → Int32 → vS → Option (Int32 × vS)} {k40 : Nat → Int32 → Int32 → Int32 → Int32 → Int32 → Int32 → vS → Option (Int32 × vS)} {a0 : Nat} {l1 : Int32} {l2 : Int32} {l3 : Int32} {l4 : Int32} {l6 : Int32} {k0 : Int32} {s : vS} : J_X9_foundAll_68 N k8 k40 a0 l1 l2 l3 l4 l6 k0 s = (nm (l6 + (1 : Int32)) (fun l6_10 => k40 a0 l1 l2 l3 l4 k0 l6_10 s)) := rfl
theorem u_J_X9_foundAll_63 {N : Nat} {k8 : Nat → Int32 → Int32 → Int32 → vS → Option (Int32 × vS)} {k40 : Nat → Int32 → Int32 → Int32 → Int32 → Int32 → Int32 → vS → Option (Int32 × vS)} {a0 : Nat} {l1 : Int32} {l2 : Int32} {l3 : Int32} {l4 : Int32} {l6 : Int32} {s : vS} : J_X9_foundAll_63 N k8 k40 a0 l1 l2 l3 l4 l6 s = (J_X9_foundAll_68 N k8 k40 a0 l1 l2 l3 l4 l6 (1 : Int32) s) := rfl
theorem u_H_X9_foundAll_40 {N : Nat} {k8 : Nat → Int32 → Int32 → Int32 → vS → Option (Int32 × vS)} {n : Nat} {a0 : Nat} {l1 : Int32} {l2 : Int32} {l3 : Int32} {l4 : Int32} {l5 : Int32} {l6 : Int32} {s : vS} : H_X9_foundAll_40 N k8 (n + 1) a0 l1 l2 l3 l4 l5 l6 s = (if l2 ≤ l6 then (if l5 = (0 : Int32) then (ldR s a0 9 28 (fun r6 => asI s r6 l2 l4 (fun s => nm (l2 + (1 : Int32)) (fun l2_7 => J_X9_foundAll_92 N k8 a0 l1 l2_7 l3 s)))) else (J_X9_foundAll_92 N k8 a0 l1 l2 l3 s)) else (if l5 = (0 : Int32) then (ldR s a0 9 28 (fun r8 => alI s r8 l6 (fun v9 => if v9 = l4 then (J_X9_foundAll_63 N k8 (H_X9_foundAll_40 N k8 n) a0 l1 l2 l3 l4 l6 s) else (J_X9_foundAll_68 N k8 (H_X9_foundAll_40 N k8 n) a0 l1 l2 l3 l4 l6 (0 : Int32) s)))) else (J_X9_foundAll_63 N k8 (H_X9_foundAll_40 N k8 n) a0 l1 l2 l3 l4 l6 s))) := rfl
theorem u_H_X9_foundAll_8 {N : Nat} {n : Nat} {a0 : Nat} {l1 : Int32} {l2 : Int32} {l3 : Int32} {s : vS} : H_X9_foundAll_8 N (n + 1) a0 l1 l2 l3 s = (ldI s a0 9 5 (fun v2 => if ((1 : Int32) <<< (v2 &&& 31)) ≤ l3 then (some (l2, s)) else (bnd (F_X9_ones N l3 s) (fun v3 s => if v3 = l1 then (bnd (F_X9_numberOn N a0 l3 (-1 : Int32) s) (fun v4 s => H_X9_foundAll_40 N (H_X9_foundAll_8 N n) N a0 l1 l2 l3 v4 (0 : Int32) (0 : Int32) s)) else (J_X9_foundAll_92 N (H_X9_foundAll_8 N n) a0 l1 l2 l3 s))))) := rfl
theorem u_F_X9_foundAll {N : Nat} {a0 : Nat} {l1 : Int32} {s : vS} : F_X9_foundAll N a0 l1 s = (rcv s a0 9 (bnd (F_X9_lookInHand N a0 s) (fun v1 s => H_X9_foundAll_8 N N a0 l1 (0 : Int32) (0 : Int32) s))) := rfl
end UROWS
section ALLC
variable {N : Nat} {m m' : vM} {s : vS}
def seenB (t : Nat → Nat) (k : Nat) : Nat → Bool
  | 0 => false
  | n + 1 => seenB t k n || t n == k
theorem seenB_iff (t : Nat → Nat) (k : Nat) : ∀ n, seenB t k n = true ↔ ∃ j, j < n ∧ t j = k
  | 0 => ⟨fun h => (by cases h), fun ⟨j, h, _⟩ => absurd h (Nat.not_lt_zero _)⟩
  | n + 1 => by
    rw [seenB, Bool.or_eq_true, seenB_iff t k n]
    constructor
    · rintro (⟨j, h1, h2⟩ | h)
      · exact ⟨j, by omega, h2⟩
      · exact ⟨n, by omega, eq_of_beq h⟩
    · rintro ⟨j, h1, h2⟩
      by_cases z : j = n
      · subst z
        exact Or.inr (by rw [h2]; exact beq_self_eq_true _)
      · exact Or.inl ⟨j, by omega, h2⟩
theorem fcm_mem (f : Nat → Option Nat) (k : Nat) : ∀ e, (∃ j, j < (fcm f e).1 ∧ (fcm f e).2 j = k) ↔ tl f k e ≠ 0
  | 0 => ⟨fun ⟨j, h, _⟩ => absurd h (Nat.not_lt_zero _), fun h => absurd rfl h⟩
  | e + 1 => by
    have ih := fcm_mem f k e
    rw [fcm]
    cases hz : f e with
    | none =>
      rw [tl_n (by rw [hz]; simp)]
      exact ih
    | some x =>
      show (∃ j, j < (if tl f x e = 0 then ((fcm f e).1 + 1, fun j => if j = (fcm f e).1 then x else (fcm f e).2 j) else fcm f e).1 ∧ (if tl f x e = 0 then ((fcm f e).1 + 1, fun j => if j = (fcm f e).1 then x else (fcm f e).2 j) else fcm f e).2 j = k) ↔ _
      by_cases h0 : tl f x e = 0
      · rw [if_pos h0]
        by_cases hk : k = x
        · subst hk
          rw [tl_s hz]
          exact ⟨fun _ => by omega, fun _ => ⟨(fcm f e).1, Nat.lt_succ_self _, if_pos rfl⟩⟩
        · rw [tl_n (by rw [hz]; intro h; cases h; exact hk rfl), ← ih]
          constructor
          · rintro ⟨j, h1, h2⟩
            have h1 : j < (fcm f e).1 + 1 := h1
            have h2 : (if j = (fcm f e).1 then x else (fcm f e).2 j) = k := h2
            by_cases z : j = (fcm f e).1
            · rw [if_pos z] at h2
              exact absurd h2.symm hk
            · rw [if_neg z] at h2
              exact ⟨j, by omega, h2⟩
          · rintro ⟨j, h1, h2⟩
            refine ⟨j, Nat.lt_succ_of_lt h1, ?_⟩
            show (if j = (fcm f e).1 then x else (fcm f e).2 j) = k
            rw [if_neg (by omega)]
            exact h2
      · rw [if_neg h0]
        by_cases hk : k = x
        · subst hk
          rw [tl_s hz]
          exact ⟨fun _ => by omega, fun _ => ih.mpr h0⟩
        · rw [tl_n (by rw [hz]; intro h; cases h; exact hk rfl)]
          exact ih
section COUNT
variable {nn size : Nat} {r : Nat → Nat}
theorem fN_sm {q : Bool} {root : Option Nat} {e : Nat} (h : pop e = size ∧ rootIn e root = true) : fN q nn r root size e = some (nOn q nn r e root) := by unfold fN; rw [if_pos h]
theorem fN_no {q : Bool} {root : Option Nat} {e : Nat} (h : ¬ pop e = size) : fN q nn r root size e = none := by unfold fN; rw [if_neg (fun w => h w.1)]
theorem m_cntA_0 {x : Int32} : ∀ (d i n : Nat) (m : vM), i + d = 19 → d < n → (∀ k, k < i → rI m 342 k = 0) →
    ∃ m', H_X9_countAll_6 N n 322 x (nI i) (S m) = H_X9_countAll_27 N N 322 x 0 (S m') ∧ Fr (fun b _ => b = 342) m m' ∧ ∀ k, k < 19 → rI m' 342 k = 0
  | _, _, 0, _, _, h, _ => by omega
  | 0, i, n + 1, m, hi, _, h => by
    refine ⟨m, ?_, Fr.rf, fun k hk => h k (by omega)⟩
    refine Eq.trans u_H_X9_countAll_6 ?_
    exact e_t (by rw [leL (by decide) (by omega)]; show 19 ≤ i; omega) rfl
  | d + 1, i, n + 1, m, hi, hd, h => by
    obtain ⟨m', g1, g2, g3⟩ := m_cntA_0 (x := x) d (i + 1) n (wI m 342 i 0) (by omega) (by omega) (fun k hk => by
      by_cases z : k = i
      · rw [z, rI_s]
      · rw [rI_n _ _ (by omega)]; exact h k (by omega))
    refine ⟨m', ?_, g2.pI rfl, g3⟩
    refine Eq.trans u_H_X9_countAll_6 ?_
    refine e_f (by rw [leL (by decide) (by omega)]; show ¬ 19 ≤ i; omega) ?_
    refine e_ldR fmO fmR27 ?_
    refine e_asI fmA27 rfl (by omega) ?_
    refine e_nm ?_
    rw [addR]
    exact g1
theorem m_cntA_l (hN : 100 ≤ N) (hy : Sym nn r) (hs2 : size ≤ 4) : ∀ (d e n : Nat) (m : vM), e + d = 2 ^ nn → d < n → rI m 322 5 = nI nn → Tab m → LookIs m nn r → (∀ k, k < 19 → rI m 342 k = nI (tl (fN false nn r none size) k e)) →
    ∃ m', H_X9_countAll_27 N n 322 (nI size) (nI e) (S m) = some ((), S m') ∧ Fr (fun b _ => b = 340 ∨ b = 342) m m' ∧ ∀ k, k < 19 → rI m' 342 k = nI (tl (fN false nn r none size) k (2 ^ nn))
  | _, _, 0, _, _, h, _, _, _, _ => by omega
  | 0, e, n + 1, m, he, _, h5, _, hn, h => by
    have h8 : (2 : Nat) ^ nn ≤ 2 ^ 8 := Nat.pow_le_pow_right (by decide) hn.2.1
    have n8 := hn.2.1
    have he : e = 2 ^ nn := by omega
    refine ⟨m, ?_, Fr.rf, he ▸ h⟩
    refine Eq.trans u_H_X9_countAll_27 ?_
    refine e_ldIV fmO h5 ?_
    exact e_t (by rw [shl1 _ (by omega), nI_leI (by omega) (by omega)]; omega) rfl
  | d + 1, e, n + 1, m, he, hd, h5, hT, hn, h => by
    have h8 : (2 : Nat) ^ nn ≤ 2 ^ 8 := Nat.pow_le_pow_right (by decide) hn.2.1
    have n8 := hn.2.1
    have hpe := pop_le e
    have ih := fun m1 (f1 : Fr (fun b _ => b = 340 ∨ b = 342) m m1) => m_cntA_l hN hy hs2 d (e + 1) n m1 (by omega) (by omega) (by rw [f1.i (by omega)]; exact h5) (hT.fr (fun b j hb => f1 b j (by unfold tabP at hb; omega))) ⟨by rw [f1.i (by omega)]; exact hn.1, hn.2.1, fun i hi => by rw [f1.i (by omega)]; exact hn.2.2 i hi⟩
    by_cases hz : pop e = size
    · have hri : rootIn e none = true := rfl
      have hf := fN_sm (q := false) (nn := nn) (r := r) ⟨hz, hri⟩
      have hfl := fN_lt (show sh_ false ≤ size from Nat.zero_le _) hs2 hf
      have k19 : nOn false nn r e none < 19 := hfl.1
      obtain ⟨m1, g1, g2⟩ := m_numberOn (N := N) (m := m) (q := false) (root := none) hN hT hn hy (show e < 2 ^ nn by omega) rfl (fun x hx => (by cases hx)) ⟨Nat.zero_le _, by omega, hri⟩
      have f1 : Fr (fun b _ => b = 340 ∨ b = 342) m (wI m1 342 (nOn false nn r e none) (nI (tl (fN false nn r none size) (nOn false nn r e none) e + 1))) := (g2.mo (fun _ _ w => Or.inl w)).sI (Or.inr rfl)
      obtain ⟨m', j1, j2, j3⟩ := ih _ f1 (fun k hk => by
        by_cases w : k = nOn false nn r e none
        · subst w
          rw [rI_s, tl_s hf]
        · rw [rI_n _ _ (by omega), g2.i (by omega), h k hk, tl_n (by rw [hf]; intro v; cases v; exact w rfl)])
      refine ⟨m', ?_, f1.tr j2, j3⟩
      refine Eq.trans u_H_X9_countAll_27 ?_
      refine e_ldIV fmO h5 ?_
      refine e_f (by rw [shl1 _ (by omega), nI_leI (by omega) (by omega)]; omega) ?_
      refine e_bnd (m_ones (by omega) hN) ?_
      refine e_t (by rw [hz]) ?_
      refine e_ldR fmO fmR27 ?_
      refine e_bnd g1 ?_
      refine e_alIV fmA27 rfl (by omega) (show rI m1 342 _ = nI (tl (fN false nn r none size) (nOn false nn r e none) e) by rw [g2.i (by omega)]; exact h _ k19) ?_
      rw [addR]
      refine e_asI fmA27 rfl (by omega) ?_
      refine e_nm ?_
      rw [addR]
      exact j1
    · have hf := fN_no (q := false) (nn := nn) (r := r) (root := none) hz
      obtain ⟨m', j1, j2, j3⟩ := ih m Fr.rf (fun k hk => by rw [tl_n (by rw [hf]; simp)]; exact h k hk)
      refine ⟨m', ?_, j2, j3⟩
      refine Eq.trans u_H_X9_countAll_27 ?_
      refine e_ldIV fmO h5 ?_
      refine e_f (by rw [shl1 _ (by omega), nI_leI (by omega) (by omega)]; omega) ?_
      refine e_bnd (m_ones (by omega) hN) ?_
      refine e_f (by rw [nI_eq (by omega) (by omega)]; exact hz) ?_
      refine e_nm ?_
      rw [addR]
      exact j1
def alP (b j : Nat) : Prop := b = 342 ∨ b = 343 ∨ b = 340 ∨ lkP b j
theorem al_pr {b j : Nat} (h : prP b j) : ¬ alP b j := by
  unfold prP tabP hanP stoP tapP imgP at h
  unfold alP lkP
  omega
theorem m_countAll (hN : 1000 ≤ N) (hT : Tab m) (hh : HandM m nn r) (hy : Sym nn r) (hs2 : size ≤ 4) : ∃ m', F_X9_countAll N 322 (nI size) (S m) = some ((), S m') ∧ Fr alP m m' ∧ ∀ k, k < 19 → rI m' 342 k = nI (tl (fN false nn r none size) k (2 ^ nn)) := by
  obtain ⟨m1, g1, g2, g3⟩ := m_lookInHand (N := N) (by omega) hh
  have h8 : (2 : Nat) ^ nn ≤ 2 ^ 8 := Nat.pow_le_pow_right (by decide) hh.2.1
  obtain ⟨m2, j1, j2, j3⟩ := m_cntA_0 (N := N) (x := nI size) 19 0 N m1 rfl (by omega) (fun k hk => absurd hk (Nat.not_lt_zero _))
  have f2 : Fr alP m m2 := (g2.mo (fun b j w => Or.inr (Or.inr (Or.inr w)))).tr (j2.mo (fun b j w => Or.inl w))
  obtain ⟨m3, l1, l2, l3⟩ := m_cntA_l (N := N) (by omega) hy hs2 (2 ^ nn) 0 N m2 (by omega) (by omega) (by rw [f2.i (by unfold alP lkP; omega)]; exact hh.1) (hT.fr (fun b j hb => f2 b j (by unfold tabP at hb; unfold alP lkP; omega))) ⟨by rw [j2.i (by omega)]; exact g3.1, g3.2.1, fun i hi => by rw [j2.i (by omega)]; exact g3.2.2 i hi⟩ (fun k hk => j3 k hk)
  refine ⟨m3, ?_, f2.tr (l2.mo (fun b j w => by unfold alP; omega)), l3⟩
  unfold F_X9_countAll
  refine e_rcv fmO ?_
  refine e_bnd g1 ?_
  exact j1.trans l1
theorem m_found_i {k8 : Nat → Int32 → Int32 → Int32 → vS → Option (Int32 × vS)} {x : Int32} {c e k : Nat} {t : Nat → Nat} (hc : c ≤ 11) (hc2 : seenB t k c ≠ true → c < 11) (hk : k < 19) (he : e < 300) : ∀ (d i n : Nat) (m : vM), i + d = c → d < n → (∀ j, j < c → rI m 343 j = nI (t j) ∧ t j < 19) → H_X9_foundAll_40 N k8 n 322 x (nI c) (nI e) (nI k) (b2 (seenB t k i = true)) (nI i) (S m) = if seenB t k c = true then k8 322 x (nI c) (nI (e + 1)) (S m) else k8 322 x (nI (c + 1)) (nI (e + 1)) (S (wI m 343 c (nI k)))
  | _, _, 0, _, _, h, _ => by omega
  | 0, i, n + 1, m, hi, _, h => by
    obtain rfl : i = c := by omega
    refine Eq.trans u_H_X9_foundAll_40 ?_
    refine e_t (by rw [nI_leI (by omega) (by omega)]; omega) ?_
    by_cases z : seenB t k i = true
    · rw [if_pos z]
      refine e_f (by rw [b2_t z]; decide) ?_
      refine e_nm ?_
      rw [addR]
    · have hc3 := hc2 z
      rw [if_neg z]
      refine e_t (by rw [b2_f z]) ?_
      refine e_ldR fmO fmR28 ?_
      refine e_asI fmA28 rfl (by omega) ?_
      refine e_nm ?_
      refine e_nm ?_
      rw [addR, addR]
  | d + 1, i, n + 1, m, hi, hd, h => by
    have ih := m_found_i (k8 := k8) (x := x) hc hc2 hk he d (i + 1) n m (by omega) (by omega) h
    have hj := h i (by omega)
    refine Eq.trans u_H_X9_foundAll_40 ?_
    refine e_f (by rw [nI_leI (by omega) (by omega)]; omega) ?_
    by_cases z : seenB t k i = true
    · have z1 : seenB t k (i + 1) = true := by rw [seenB, z]; rfl
      refine e_f (by rw [b2_t z]; decide) ?_
      refine e_nm ?_
      refine e_nm ?_
      rw [addR]
      rw [b2_t z1] at ih
      exact ih
    · refine e_t (by rw [b2_f z]) ?_
      refine e_ldR fmO fmR28 ?_
      refine e_alIV fmA28 rfl (by omega) hj.1 ?_
      by_cases w : t i = k
      · have z1 : seenB t k (i + 1) = true := by rw [seenB, w, Bool.or_eq_true]; exact Or.inr (beq_self_eq_true _)
        refine e_t (by rw [w]) ?_
        refine e_nm ?_
        refine e_nm ?_
        rw [addR]
        rw [b2_t z1] at ih
        exact ih
      · have z1 : ¬ seenB t k (i + 1) = true := by
          rw [seenB, Bool.or_eq_true]
          exact fun v => v.elim z (fun v => w (eq_of_beq v))
        refine e_f (by rw [nI_eq (by omega) (by omega)]; exact w) ?_
        refine e_nm ?_
        rw [addR]
        rw [b2_f z1] at ih
        exact ih
theorem fcm_al {q : Bool} {root : Option Nat} (hs1 : sh_ q ≤ size) (hs2 : size ≤ 4) : ∀ e j, j < (fcm (fN q nn r root size) e).1 → (fcm (fN q nn r root size) e).2 j < mny q ∧ sz_ q ((fcm (fN q nn r root size) e).2 j) = size
  | 0, j, h => absurd h (Nat.not_lt_zero _)
  | e + 1, j, h => by
    have ih := fcm_al (root := root) hs1 hs2 e j
    rw [fcm] at h ⊢
    cases hz : fN q nn r root size e with
    | none => rw [hz] at h; exact ih h
    | some k =>
      rw [hz] at h
      have hk := fN_lt hs1 hs2 hz
      dsimp only at h ⊢
      by_cases h0 : tl (fN q nn r root size) k e = 0
      · rw [if_pos h0] at h ⊢
        dsimp only at h ⊢
        by_cases w : j = (fcm (fN q nn r root size) e).1
        · rw [if_pos w]; exact hk
        · rw [if_neg w]; exact ih (by omega)
      · rw [if_neg h0] at h ⊢
        exact ih h
theorem fcm_le {q : Bool} {root : Option Nat} (hs1 : sh_ q ≤ size) (hs2 : size ≤ 4) : ∀ e, (fcm (fN q nn r root size) e).1 ≤ if q = true then 20 else 11
  | 0 => Nat.zero_le _
  | e + 1 => by
    have ih := fcm_le (root := root) hs1 hs2 e
    rw [fcm]
    cases hz : fN q nn r root size e with
    | none => exact ih
    | some k =>
      dsimp only
      by_cases h0 : tl (fN q nn r root size) k e = 0
      · rw [if_pos h0]
        exact fcm_lt hs2 (fun e k h => fN_lt hs1 hs2 h) hz h0
      · rw [if_neg h0]
        exact ih
theorem m_found_l (hN : 100 ≤ N) (hy : Sym nn r) (hs2 : size ≤ 4) : ∀ (d e n : Nat) (m : vM), e + d = 2 ^ nn → d < n → rI m 322 5 = nI nn → Tab m → LookIs m nn r → (∀ j, j < (fcm (fN false nn r none size) e).1 → rI m 343 j = nI ((fcm (fN false nn r none size) e).2 j)) →
    ∃ m', H_X9_foundAll_8 N n 322 (nI size) (nI (fcm (fN false nn r none size) e).1) (nI e) (S m) = some (nI (fcm (fN false nn r none size) (2 ^ nn)).1, S m') ∧ Fr (fun b _ => b = 340 ∨ b = 343) m m' ∧ ∀ j, j < (fcm (fN false nn r none size) (2 ^ nn)).1 → rI m' 343 j = nI ((fcm (fN false nn r none size) (2 ^ nn)).2 j)
  | _, _, 0, _, _, h, _, _, _, _ => by omega
  | 0, e, n + 1, m, he, _, h5, _, hn, h => by
    have h8 : (2 : Nat) ^ nn ≤ 2 ^ 8 := Nat.pow_le_pow_right (by decide) hn.2.1
    have n8 := hn.2.1
    have he : e = 2 ^ nn := by omega
    refine ⟨m, ?_, Fr.rf, he ▸ h⟩
    refine Eq.trans u_H_X9_foundAll_8 ?_
    refine e_ldIV fmO h5 ?_
    refine e_t (by rw [shl1 _ (by omega), nI_leI (by omega) (by omega)]; omega) ?_
    rw [he]
  | d + 1, e, n + 1, m, he, hd, h5, hT, hn, h => by
    have h8 : (2 : Nat) ^ nn ≤ 2 ^ 8 := Nat.pow_le_pow_right (by decide) hn.2.1
    have n8 := hn.2.1
    have hpe := pop_le e
    have hs1 : sh_ false ≤ size := Nat.zero_le _
    have ih := fun m1 (f1 : Fr (fun b _ => b = 340 ∨ b = 343) m m1) => m_found_l hN hy hs2 d (e + 1) n m1 (by omega) (by omega) (by rw [f1.i (by omega)]; exact h5) (hT.fr (fun b j hb => f1 b j (by unfold tabP at hb; omega))) ⟨by rw [f1.i (by omega)]; exact hn.1, hn.2.1, fun i hi => by rw [f1.i (by omega)]; exact hn.2.2 i hi⟩
    by_cases hz : pop e = size
    · have hri : rootIn e none = true := rfl
      have hf := fN_sm (q := false) (nn := nn) (r := r) ⟨hz, hri⟩
      have hfl := fN_lt hs1 hs2 hf
      have k19 : nOn false nn r e none < 19 := hfl.1
      have hle : (fcm (fN false nn r none size) e).1 ≤ 11 := fcm_le hs1 hs2 e
      have hal := fun j => fcm_al (nn := nn) (r := r) (root := none) hs1 hs2 e j
      have hfc : fcm (fN false nn r none size) (e + 1) = if tl (fN false nn r none size) (nOn false nn r e none) e = 0 then ((fcm (fN false nn r none size) e).1 + 1, fun j => if j = (fcm (fN false nn r none size) e).1 then nOn false nn r e none else (fcm (fN false nn r none size) e).2 j) else fcm (fN false nn r none size) e := by
        conv => lhs; rw [fcm, hf]
      have hsn : seenB (fcm (fN false nn r none size) e).2 (nOn false nn r e none) (fcm (fN false nn r none size) e).1 = true ↔ tl (fN false nn r none size) (nOn false nn r e none) e ≠ 0 := (seenB_iff _ _ _).trans (fcm_mem _ _ e)
      obtain ⟨m1, g1, g2⟩ := m_numberOn (N := N) (m := m) (q := false) (root := none) hN hT hn hy (show e < 2 ^ nn by omega) rfl (fun x hx => (by cases hx)) ⟨Nat.zero_le _, by omega, hri⟩
      have inner := m_found_i (N := N) (k8 := H_X9_foundAll_8 N n) (x := nI size) (e := e) hle (fun w => by
        have z0 : tl (fN false nn r none size) (nOn false nn r e none) e = 0 := by
          by_cases v : tl (fN false nn r none size) (nOn false nn r e none) e = 0
          · exact v
          · exact absurd (hsn.mpr v) w
        exact fcm_lt (q := false) hs2 (fun e k h => fN_lt hs1 hs2 h) hf z0) k19 (by omega) (fcm (fN false nn r none size) e).1 0 N m1 (by omega) (by omega) (fun j hj => ⟨by rw [g2.i (by omega)]; exact h j hj, (hal j hj).1⟩)
      have start : ∀ R, H_X9_foundAll_40 N (H_X9_foundAll_8 N n) N 322 (nI size) (nI (fcm (fN false nn r none size) e).1) (nI e) (nI (nOn false nn r e none)) 0 0 (S m1) = R → H_X9_foundAll_8 N (n + 1) 322 (nI size) (nI (fcm (fN false nn r none size) e).1) (nI e) (S m) = R := fun R hR => by
        refine Eq.trans u_H_X9_foundAll_8 ?_
        refine e_ldIV fmO h5 ?_
        refine e_f (by rw [shl1 _ (by omega), nI_leI (by omega) (by omega)]; omega) ?_
        refine e_bnd (m_ones (by omega) hN) ?_
        refine e_t (by rw [hz]) ?_
        refine e_bnd g1 ?_
        exact hR
      by_cases w : tl (fN false nn r none size) (nOn false nn r e none) e = 0
      · rw [if_pos w] at hfc
        rw [if_neg (fun v => hsn.mp v w)] at inner
        have f1 : Fr (fun b _ => b = 340 ∨ b = 343) m (wI m1 343 (fcm (fN false nn r none size) e).1 (nI (nOn false nn r e none))) := (g2.mo (fun _ _ w => Or.inl w)).sI (Or.inr rfl)
        obtain ⟨m', j1, j2, j3⟩ := ih _ f1 (fun j hj => by
          rw [hfc] at hj ⊢
          dsimp only at hj ⊢
          by_cases v : j = (fcm (fN false nn r none size) e).1
          · rw [if_pos v, v, rI_s]
          · rw [if_neg v, rI_n _ _ (by omega), g2.i (by omega)]
            exact h j (by omega))
        refine ⟨m', start _ (inner.trans ?_), f1.tr j2, j3⟩
        rw [hfc] at j1
        exact j1
      · rw [if_neg w] at hfc
        rw [if_pos (hsn.mpr w)] at inner
        have f1 : Fr (fun b _ => b = 340 ∨ b = 343) m m1 := g2.mo (fun _ _ w => Or.inl w)
        obtain ⟨m', j1, j2, j3⟩ := ih _ f1 (fun j hj => by
          rw [hfc] at hj ⊢
          rw [g2.i (by omega)]
          exact h j hj)
        refine ⟨m', start _ (inner.trans ?_), f1.tr j2, j3⟩
        rw [hfc] at j1
        exact j1
    · have hf := fN_no (q := false) (nn := nn) (r := r) (root := none) hz
      have hfc : fcm (fN false nn r none size) (e + 1) = fcm (fN false nn r none size) e := by
        conv => lhs; rw [fcm, hf]
      obtain ⟨m', j1, j2, j3⟩ := ih m Fr.rf (fun j hj => by rw [hfc] at hj ⊢; exact h j hj)
      refine ⟨m', ?_, j2, j3⟩
      refine Eq.trans u_H_X9_foundAll_8 ?_
      refine e_ldIV fmO h5 ?_
      refine e_f (by rw [shl1 _ (by omega), nI_leI (by omega) (by omega)]; omega) ?_
      refine e_bnd (m_ones (by omega) hN) ?_
      refine e_f (by rw [nI_eq (by omega) (by omega)]; exact hz) ?_
      refine e_nm ?_
      rw [addR]
      rw [hfc] at j1
      exact j1
theorem m_foundAll (hN : 1000 ≤ N) (hT : Tab m) (hh : HandM m nn r) (hy : Sym nn r) (hs2 : size ≤ 4) : ∃ m', F_X9_foundAll N 322 (nI size) (S m) = some (nI (fcm (fN false nn r none size) (2 ^ nn)).1, S m') ∧ Fr alP m m' ∧ LookIs m' nn r ∧ ∀ j, j < (fcm (fN false nn r none size) (2 ^ nn)).1 → rI m' 343 j = nI ((fcm (fN false nn r none size) (2 ^ nn)).2 j) := by
  obtain ⟨m1, g1, g2, g3⟩ := m_lookInHand (N := N) (by omega) hh
  have h8 : (2 : Nat) ^ nn ≤ 2 ^ 8 := Nat.pow_le_pow_right (by decide) hh.2.1
  have f2 : Fr alP m m1 := g2.mo (fun b j w => Or.inr (Or.inr (Or.inr w)))
  obtain ⟨m3, l1, l2, l3⟩ := m_found_l (N := N) (by omega) hy hs2 (2 ^ nn) 0 N m1 (by omega) (by omega) (by rw [f2.i (by unfold alP lkP; omega)]; exact hh.1) (hT.fr (fun b j hb => f2 b j (by unfold tabP at hb; unfold alP lkP; omega))) g3 (fun k hk => absurd hk (Nat.not_lt_zero _))
  refine ⟨m3, ?_, f2.tr (l2.mo (fun b j w => by unfold alP; omega)), ⟨by rw [l2.i (by omega)]; exact g3.1, g3.2.1, fun i hi => by rw [l2.i (by omega)]; exact g3.2.2 i hi⟩, l3⟩
  unfold F_X9_foundAll
  refine e_rcv fmO ?_
  refine e_bnd g1 ?_
  exact l1
end COUNT
end ALLC
