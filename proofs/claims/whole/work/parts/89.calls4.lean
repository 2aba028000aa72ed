section UROWS
theorem u_H_X9_points_25 {N : Nat} {n : Nat} {a0 : Nat} {l1 : Int32} {l2 : Int32} {l3 : Int32} {s : vS} : H_X9_points_25 N (n + 1) a0 l1 l2 l3 s = (if l1 ≤ l3 then (some (l2, s)) else (ldR s a0 9 6 (fun r3 => asI s r3 l3 (0 : Int32) (fun s => nm (l3 + (1 : Int32)) (fun l3_4 => H_X9_points_25 N n a0 l1 l2 l3_4 s))))) := rfl
theorem u_F_X9_points {N : Nat} {a0 : Nat} {l1 : Int32} {s : vS} : F_X9_points N a0 l1 s = (rcv s a0 9 (bnd (F_X9_in N l1 (0 : Int32) (8 : Int32) s) (fun v1 s => if v1 = (0 : Int32) then (some ((-2 : Int32), s)) else (ldI s a0 9 5 (fun v2 => stI s a0 9 5 l1 (fun s => H_X9_points_25 N N a0 l1 v2 (0 : Int32) s)))))) := rfl
theorem u_H_X3_startWith_16 {N : Nat} {n : Nat} {a0 : Nat} {l2 : Int32} {s : vS} : H_X3_startWith_16 N (n + 1) a0 l2 s = (if (8 : Int32) ≤ l2 then (some ((), s)) else (ldR s a0 3 1 (fun r3 => asI s r3 l2 (0 : Int32) (fun s => nm (l2 + (1 : Int32)) (fun l2_4 => H_X3_startWith_16 N n a0 l2_4 s))))) := rfl
theorem u_F_X3_startWith {N : Nat} {a0 : Nat} {l1 : Int32} {s : vS} : F_X3_startWith N a0 l1 s = (rcv s a0 3 (bnd (F_J9_min_7cf53 N l1 (8 : Int32) s) (fun v1 s => bnd (F_J9_max_7cf53 N (0 : Int32) v1 s) (fun v2 s => stI s a0 3 0 v2 (fun s => H_X3_startWith_16 N N a0 (0 : Int32) s))))) := rfl
theorem u_J_X5_held_21 {N : Nat} {k4 : Nat → Int32 → Int32 → vS → Option (Int32 × vS)} {a0 : Nat} {l1 : Int32} {l2 : Int32} {s : vS} : J_X5_held_21 N k4 a0 l1 l2 s = (nm (l2 + (1 : Int32)) (fun l2_4 => k4 a0 l1 l2_4 s)) := rfl
theorem u_H_X5_held_4 {N : Nat} {n : Nat} {a0 : Nat} {l1 : Int32} {l2 : Int32} {s : vS} : H_X5_held_4 N (n + 1) a0 l1 l2 s = (if (4 : Int32) ≤ l2 then (some (l1, s)) else (ldR s a0 5 0 (fun r1 => alZ s r1 l2 (fun v2 => if v2 = (0 : Int32) then (J_X5_held_21 N (H_X5_held_4 N n) a0 l1 l2 s) else (nm (l1 + (1 : Int32)) (fun l1_3 => J_X5_held_21 N (H_X5_held_4 N n) a0 l1_3 l2 s)))))) := rfl
theorem u_F_X5_held {N : Nat} {a0 : Nat} {s : vS} : F_X5_held N a0 s = (rcv s a0 5 (H_X5_held_4 N N a0 (0 : Int32) (0 : Int32) s)) := rfl
theorem u_H_X5_terms_4 {N : Nat} {n : Nat} {a0 : Nat} {l1 : Int32} {l2 : Int32} {s : vS} : H_X5_terms_4 N (n + 1) a0 l1 l2 s = (if (4 : Int32) ≤ l2 then (some (l1, s)) else (ldR s a0 5 1 (fun r1 => alR s r1 5 l2 (fun r2 => bnd (F_X6_terms N r2 s) (fun v3 s => nm ((l1 + v3)) (fun l1_4 => nm (l2 + (1 : Int32)) (fun l2_5 => H_X5_terms_4 N n a0 l1_4 l2_5 s))))))) := rfl
theorem u_F_X5_terms {N : Nat} {a0 : Nat} {s : vS} : F_X5_terms N a0 s = (rcv s a0 5 (H_X5_terms_4 N N a0 (0 : Int32) (0 : Int32) s)) := rfl
theorem u_J_X9_count_78 {N : Nat} {k0 : Int32} {s : vS} : J_X9_count_78 N k0 s = (some (k0, s)) := rfl
theorem u_J_X9_count_40 {N : Nat} {k18 : Nat → Int32 → Int32 → Int32 → Int32 → vS → Option (Int32 × vS)} {a0 : Nat} {l1 : Int32} {l3 : Int32} {l4 : Int32} {k0 : Int32} {k1 : Int32} {s : vS} : J_X9_count_40 N k18 a0 l1 l3 l4 k0 k1 s = (nm ((k0 + k1)) (fun l2_5 => bnd (F_X9_termsIn N a0 l4 s) (fun v6 s => nm ((l3 + v6)) (fun l3_7 => nm (l4 + (1 : Int32)) (fun l4_8 => k18 a0 l1 l2_5 l3_7 l4_8 s))))) := rfl
theorem u_H_X9_count_18 {N : Nat} {n : Nat} {a0 : Nat} {l1 : Int32} {l2 : Int32} {l3 : Int32} {l4 : Int32} {s : vS} : H_X9_count_18 N (n + 1) a0 l1 l2 l3 l4 s = (if (4 : Int32) ≤ l4 then (if l1 = (0 : Int32) then (ldI s a0 9 13 (fun v2 => J_X9_count_78 N v2 s)) else (if l1 = (1 : Int32) then (J_X9_count_78 N l2 s) else (J_X9_count_78 N l3 s))) else (ldR s a0 9 9 (fun r3 => alZ s r3 l4 (fun v4 => if v4 = (0 : Int32) then (J_X9_count_40 N (H_X9_count_18 N n) a0 l1 l3 l4 l2 (0 : Int32) s) else (J_X9_count_40 N (H_X9_count_18 N n) a0 l1 l3 l4 l2 (1 : Int32) s))))) := rfl
theorem u_F_X9_count {N : Nat} {a0 : Nat} {l1 : Int32} {s : vS} : F_X9_count N a0 l1 s = (rcv s a0 9 (bnd (F_X9_in N l1 (0 : Int32) (2 : Int32) s) (fun v1 s => if v1 = (0 : Int32) then (some ((-1 : Int32), s)) else (H_X9_count_18 N N a0 l1 (0 : Int32) (0 : Int32) (0 : Int32) s)))) := rfl
theorem u_J_X9_termsIn_18 {N : Nat} {k0 : Int32} {s : vS} : J_X9_termsIn_18 N k0 s = (some (k0, s)) := rfl
theorem u_F_X9_termsIn {N : Nat} {a0 : Nat} {l1 : Int32} {s : vS} : F_X9_termsIn N a0 l1 s = (rcv s a0 9 (ldR s a0 9 9 (fun r1 => alZ s r1 l1 (fun v2 => if v2 = (0 : Int32) then (J_X9_termsIn_18 N (0 : Int32) s) else (bnd (F_X9_terms N a0 l1 s) (fun v3 s => J_X9_termsIn_18 N v3 s)))))) := rfl
end UROWS
section CALLS4
variable {N : Nat} {m m' : vM} {s : vS}
theorem c_start_l {n0 : Nat} : ∀ (d i n : Nat) (m : vM), i + d = 8 → d < n → rI m 286 0 = nI n0 → (∀ j, j < i → rI m 287 j = 0) →
    ∃ m', H_X3_startWith_16 N n 286 (nI i) (S m) = some ((), S m') ∧ Fr (fun b _ => b = 287) m m' ∧ ∀ j, j < 8 → rI m' 287 j = 0
  | _, _, 0, _, _, h, _, _ => by omega
  | 0, i, n + 1, m, hi, _, _, h => by
    refine ⟨m, ?_, Fr.rf, fun j hj => h j (by omega)⟩
    refine Eq.trans u_H_X3_startWith_16 ?_
    exact e_t (by rw [leL (by decide) (by omega)]; show 8 ≤ i; omega) rfl
  | d + 1, i, n + 1, m, hi, hd, h0, h => by
    obtain ⟨m', g1, g2, g3⟩ := c_start_l (n0 := n0) d (i + 1) n (wI m 287 i 0) (by omega) (by omega) (by rw [rI_n _ _ (by omega)]; exact h0) (fun j hj => by
      by_cases z : j = i
      · rw [z, rI_s]
      · rw [rI_n _ _ (by omega)]; exact h j (by omega))
    refine ⟨m', ?_, g2.pI rfl, g3⟩
    refine Eq.trans u_H_X3_startWith_16 ?_
    refine e_f (by rw [leL (by decide) (by omega)]; show ¬ 8 ≤ i; omega) ?_
    refine e_ldR net286.o net286.r1 ?_
    refine e_asI net286.a1 rfl (by omega) ?_
    refine e_nm ?_
    rw [addR]
    exact g1
theorem m_points_l {n0 : Nat} {w : Int32} (hn : n0 ≤ 8) : ∀ (d i n : Nat) (m : vM), i + d = n0 → d < n → (∀ j, j < i → rI m 328 j = 0) →
    ∃ m', H_X9_points_25 N n 322 (nI n0) w (nI i) (S m) = some (w, S m') ∧ Fr (fun b _ => b = 328) m m' ∧ ∀ j, j < n0 → rI m' 328 j = 0
  | _, _, 0, _, _, h, _ => by omega
  | 0, i, n + 1, m, hi, _, h => by
    refine ⟨m, ?_, Fr.rf, fun j hj => h j (by omega)⟩
    refine Eq.trans u_H_X9_points_25 ?_
    exact e_t (by rw [nI_leI (by omega) (by omega)]; omega) rfl
  | d + 1, i, n + 1, m, hi, hd, h => by
    obtain ⟨m', g1, g2, g3⟩ := m_points_l (w := w) hn d (i + 1) n (wI m 328 i 0) (by omega) (by omega) (fun j hj => by
      by_cases z : j = i
      · rw [z, rI_s]
      · rw [rI_n _ _ (by omega)]; exact h j (by omega))
    refine ⟨m', ?_, g2.pI rfl, g3⟩
    refine Eq.trans u_H_X9_points_25 ?_
    refine e_f (by rw [nI_leI (by omega) (by omega)]; omega) ?_
    refine e_ldR fmO fmR6 ?_
    refine e_asI fmA6 rfl (by omega) ?_
    refine e_nm ?_
    rw [addR]
    exact g1
/-- all but the hand -/
theorem Rel.hand (hR : Rel m) {nn : Nat} {r : Nat → Nat} (f : Fr (fun a j => hanP a j ∨ a = 288) m m') (h : HandR m' 286 5 328 nn r) : Rel m' := by
  obtain ⟨h1, -, h3, ⟨z, t, h4⟩, h5⟩ := hR
  refine ⟨h1.fr (fun a j ha => f a j (by unfold tabP at ha; unfold hanP; omega)), ⟨nn, r, h⟩, h3.same (fun a j ha => f a j (by unfold stoP at ha; unfold hanP; omega)), ⟨z, t, h4.same (fun a j ha => f.i (by unfold tapP at ha; unfold hanP; omega))⟩, h5.same (fun a j ha => f a j (by unfold imgP at ha; unfold hanP; omega))⟩
theorem bt0 (j : Nat) : bt 0 j = 0 := by
  unfold bt
  rw [Nat.zero_div]
theorem c_minmax {n0 : Nat} (h : n0 ≤ 8) : F_J9_min_7cf53 N (nI n0) 8 s = some (nI n0, s) ∧ F_J9_max_7cf53 N 0 (nI n0) s = some (nI n0, s) := by
  constructor
  · unfold F_J9_min_7cf53
    first
      | exact e_t (by rw [leR (by decide) (by omega)]; show n0 ≤ 8; omega) rfl
      | exact e_f (by rw [ltL (by decide) (by omega)]; show ¬ 8 < n0; omega) rfl
      | (by_cases z : (8 : Int32) ≤ nI n0
         · have e : n0 = 8 := by
             have := (leL (by decide) (by omega)).mp z
             have this : 8 ≤ n0 := this
             omega
           rw [e]
           rfl
         · exact e_f z rfl)
  · unfold F_J9_max_7cf53
    by_cases z : (0 : Int32) < nI n0
    · exact e_t z rfl
    · have e : n0 = 0 := by
        rw [ltL (by decide) (by omega)] at z
        have z : ¬ 0 < n0 := z
        omega
      rw [e]
      rfl
theorem call_points (hN : 100 ≤ N) (hR : Rel m) (x : Int32) : SameI (F_X8_points N 0 x) (F_X9_points N 322 x) m := by
  obtain ⟨hT, ⟨nn, r, hh⟩, -⟩ := id hR
  rcases rng x (n := 9) (by decide) with ⟨n0, hn0, rfl⟩ | hx
  · obtain ⟨m1, g1, g2, g3⟩ := c_start_l (N := N) (n0 := n0) 8 0 N (wI m 286 0 (nI n0)) rfl (by omega) (rI_s _ _ _ _) (fun j hj => absurd hj (Nat.not_lt_zero _))
    have f1 : Fr (fun a j => a = 286 ∨ a = 287) m m1 := (Fr.rf.sI (P := fun a j => a = 286 ∨ a = 287) (Or.inl rfl)).tr (g2.mo (fun _ _ w => Or.inr w))
    have h5 : rI m1 322 5 = nI nn := by rw [f1.i (by omega)]; exact hh.2.2.2.2.1
    obtain ⟨m2, j1, j2, j3⟩ := m_points_l (N := N) (w := nI nn) (show n0 ≤ 8 by omega) n0 0 N (wI m1 322 5 (nI n0)) (by omega) (by omega) (fun j hj => absurd hj (Nat.not_lt_zero _))
    have f2 : Fr (fun a j => (a = 322 ∧ j = 5) ∨ a = 328) m1 m2 := (Fr.rf.sI (P := fun a j => (a = 322 ∧ j = 5) ∨ a = 328) (Or.inl ⟨rfl, rfl⟩)).tr (j2.mo (fun _ _ w => Or.inr w))
    have f : Fr (fun a j => hanP a j ∨ a = 288) m m2 := (f1.mo (fun a j w => by unfold hanP; omega)).tr (f2.mo (fun a j w => by unfold hanP; omega))
    refine ⟨nI nn, m1, m2, ?_, ?_, hR.hand f (nn := n0) (r := fun _ => 0) ⟨by omega, fun i j _ _ => by rw [bt0, bt0], fun i _ => bt0 i, ?_, ?_, fun i hi => ⟨?_, j3 i hi, Nat.two_pow_pos n0⟩⟩⟩
    · unfold F_X8_points
      refine e_rcv fxO ?_
      refine e_f (nI_pos (by omega)) ?_
      refine e_t (by rw [leR (by decide) (by omega)]; show n0 ≤ 8; omega) ?_
      refine e_ldR fxO fxR7 ?_
      refine e_ldIV net286.o hh.net.1 ?_
      refine e_ldR fxO fxR7 ?_
      refine e_bnd (r := ()) (s' := S m1) ?_ rfl
      unfold F_X3_startWith
      refine e_rcv net286.o ?_
      have mm := fun s => c_minmax (N := N) (s := s) (show n0 ≤ 8 by omega)
      refine e_bnd (mm _).1 ?_
      refine e_bnd (mm _).2 ?_
      refine e_stI net286.o ?_
      exact g1
    · unfold F_X9_points
      refine e_rcv fmO ?_
      refine g_y (m_inR (n := 8) _ (by decide)) (inr hn0 (by decide)) ?_
      refine e_ldIV fmO h5 ?_
      refine e_stI fmO ?_
      exact j1
    · rw [f2.i (by omega), g2.i (by omega), rI_s]
    · rw [j2.i (by omega), rI_s]
    · rw [f2.i (by omega), g3 i (by omega)]
      rfl
  · refine SameI.ro (-2) hR ?_ ?_
    · unfold F_X8_points
      refine e_rcv fxO ?_
      by_cases h0 : x < 0
      · exact e_t h0 rfl
      · refine e_f h0 ?_
        exact e_f (fun w => hx ((in_r x (n := 8) (by decide)).mp ⟨Int32.not_lt.mp h0, w⟩)) rfl
    · unfold F_X9_points
      refine e_rcv fmO ?_
      exact g_n (m_inR (n := 8) _ (by decide)) hx rfl
theorem or_b : ∀ x, x < 256 → ∀ y, y < 8 → nI x ||| ((1 : Int32) <<< (nI y &&& 31)) = nI (if bt x y = 1 then x else x ^^^ 2 ^ y) := by decide +kernel
theorem an_b : ∀ x, x < 256 → ∀ y, y < 8 → nI x &&& (((1 : Int32) <<< (nI y &&& 31)) ^^^ -1) = nI (if bt x y = 0 then x else x ^^^ 2 ^ y) := by decide +kernel
theorem xo_b : ∀ x, x < 256 → ∀ y, y < 8 → nI x ^^^ ((1 : Int32) <<< (nI y &&& 31)) = nI (x ^^^ 2 ^ y) := by decide +kernel
theorem bt_x : ∀ x, x < 256 → ∀ y, y < 8 → ∀ z, z < 8 → bt (x ^^^ 2 ^ y) z = if z = y then 1 - bt x y else bt x z := by decide +kernel
/-- a bit becomes what it is to be -/
def tg (b x y : Nat) : Nat := if bt x y = b then x else x ^^^ 2 ^ y
theorem bt_tg {b x y z : Nat} (hb : b < 2) (hx : x < 256) (hy : y < 8) (hz : z < 8) : bt (tg b x y) z = if z = y then b else bt x z := by
  unfold tg
  have h := bt_lt x y
  by_cases e : bt x y = b
  · rw [if_pos e]
    by_cases w : z = y
    · rw [if_pos w, w, e]
    · rw [if_neg w]
  · rw [if_neg e, bt_x x hx y hy z hz]
    by_cases w : z = y
    · rw [if_pos w, if_pos w]; omega
    · rw [if_neg w, if_neg w]
theorem tg_lt {b x y n : Nat} (hx : x < 2 ^ n) (hy : y < n) : tg b x y < 2 ^ n := by
  unfold tg
  split
  · exact hx
  · exact Nat.xor_lt_two_pow hx (Nat.pow_lt_pow_right (by decide) hy)
def rowL (r : Nat → Nat) (b i j : Nat) : Nat → Nat := fun k => if k = i then tg b (r i) j else if k = j then tg b (r j) i else r k
theorem c_joinsH {nn : Nat} {r : Nat → Nat} {i j : Nat} (hn : NetIs m 286 nn r) (hi : i < nn) (hj : j < nn) : F_X3_joins N 286 (nI i) (nI j) (S m) = some (b2 (bt (r i) j = 1), S m) := by
  obtain ⟨h1, h2, h3⟩ := hn
  have hr := h3 i hi
  have h8 : (2 : Nat) ^ nn ≤ 2 ^ 8 := Nat.pow_le_pow_right (by decide) h2
  have hb := bt_lt (r i) j
  unfold F_X3_joins
  refine e_rcv net286.o ?_
  refine g_y (c_hasH net286 h1 _) (inr hi (by omega)) ?_
  refine g_y (c_hasH net286 h1 _) (inr hj (by omega)) ?_
  refine e_ldR net286.o net286.r1 ?_
  refine e_alIV net286.a1 rfl (by omega) hr.1 ?_
  rw [shr_and (by omega) (by omega)]
  by_cases z : bt (r i) j = 1
  · refine e_f (by rw [z]; decide) ?_
    rw [b2_t z]
    rfl
  · refine e_t (by rw [show bt (r i) j = 0 by omega]; rfl) ?_
    rw [b2_f z]
    rfl
theorem call_line (hN : 100 ≤ N) (hR : Rel m) (x y z : Int32) : SameI (F_X8_line N 0 x y z) (F_X9_line N 322 x y z) m := by
  obtain ⟨hT, ⟨nn, r, hh⟩, -⟩ := id hR
  have h8' := hh.1
  have h8 : (2 : Nat) ^ nn ≤ 2 ^ 8 := Nat.pow_le_pow_right (by decide) h8'
  have o := net286.o
  by_cases hx : (0 : Int32) ≤ x ∧ x < nI nn
  · by_cases hy : (0 : Int32) ≤ y ∧ y < nI nn
    · by_cases hz : (0 : Int32) ≤ z ∧ z < nI 2
      · by_cases hxy : x = y
        · refine SameI.ro (-2) hR ?_ ?_
          · unfold F_X8_line
            refine e_rcv fxO ?_
            refine e_ldR fxO fxR7 ?_
            refine g_y (c_hasH net286 hh.net.1 _) hx ?_
            refine e_ldR fxO fxR7 ?_
            refine g_y (c_hasH net286 hh.net.1 _) hy ?_
            refine e_f (Int32.not_lt.mpr hz.1) ?_
            refine e_f (Int32.not_lt.mpr ((in_r z (n := 1) (by decide)).mpr hz).2) ?_
            exact e_t hxy rfl
          · unfold F_X9_line
            refine e_rcv fmO ?_
            refine g_y (m_isPoint hh.mod.1 h8' _) hx ?_
            refine g_y (m_isPoint hh.mod.1 h8' _) hy ?_
            refine g_y (m_inR (n := 1) _ (by decide)) hz ?_
            exact e_t hxy rfl
        · obtain ⟨i, hi, rfl⟩ := (rng x (n := nn) (by omega)).resolve_right (fun w => w hx)
          obtain ⟨j, hj, rfl⟩ := (rng y (n := nn) (by omega)).resolve_right (fun w => w hy)
          obtain ⟨b, hb, rfl⟩ := (rng z (n := 2) (by decide)).resolve_right (fun w => w hz)
          have hij : i ≠ j := fun w => hxy (by rw [w])
          obtain ⟨c1, c2, c3, c4, c5, c6⟩ := hh
          have ri := c6 i hi
          have rj := c6 j hj
          have hsym := c2 i j hi hj
          have hbt := bt_lt (r i) j
          have hbt2 := bt_lt (r j) i
          -- the class draws
          have hdraw : F_X3_draw N 286 (nI i) (nI j) (nI b) (S m) = some ((), S (wI (wI m 287 i (nI (tg b (r i) j))) 287 j (nI (tg b (r j) i)))) := by
            have rj' : rI (wI m 287 i (nI (tg b (r i) j))) 287 j = nI (r j) := by rw [rI_n _ _ (by omega)]; exact rj.1
            unfold F_X3_draw
            refine e_rcv o ?_
            refine g_y (c_hasH net286 c4 _) (inr hi (by omega)) ?_
            refine g_y (c_hasH net286 c4 _) (inr hj (by omega)) ?_
            refine e_ldR o net286.r1 ?_
            rcases (show b = 0 ∨ b = 1 by omega) with rfl | rfl
            · refine e_t rfl ?_
              refine e_ldR o net286.r1 ?_
              refine e_alIV net286.a1 rfl (by omega) ri.1 ?_
              rw [an_b _ (by omega) _ (by omega)]
              unfold J_X3_draw_51
              refine e_asI net286.a1 rfl (by omega) ?_
              refine e_ldR o net286.r1 ?_
              refine e_t rfl ?_
              refine e_ldR o net286.r1 ?_
              refine e_alIV net286.a1 rfl (by omega) rj' ?_
              rw [an_b _ (by omega) _ (by omega)]
              unfold J_X3_draw_86
              refine e_asI net286.a1 rfl (by omega) ?_
              rfl
            · refine e_f (by decide) ?_
              refine e_ldR o net286.r1 ?_
              refine e_alIV net286.a1 rfl (by omega) ri.1 ?_
              rw [or_b _ (by omega) _ (by omega)]
              unfold J_X3_draw_51
              refine e_asI net286.a1 rfl (by omega) ?_
              refine e_ldR o net286.r1 ?_
              refine e_f (by decide) ?_
              refine e_ldR o net286.r1 ?_
              refine e_alIV net286.a1 rfl (by omega) rj' ?_
              rw [or_b _ (by omega) _ (by omega)]
              unfold J_X3_draw_86
              refine e_asI net286.a1 rfl (by omega) ?_
              rfl
          have f1 : Fr (fun a _ => a = 287) m (wI (wI m 287 i (nI (tg b (r i) j))) 287 j (nI (tg b (r j) i))) := by
            have h : Fr (fun a _ => a = 287) m (wI m 287 i (nI (tg b (r i) j))) := Fr.sI Fr.rf rfl
            exact Fr.sI h rfl
          have hcls : F_X8_line N 0 (nI i) (nI j) (nI b) (S m) = some (nI (bt (r i) j), S (wI (wI m 287 i (nI (tg b (r i) j))) 287 j (nI (tg b (r j) i)))) := by
            have j58 : ∀ v, J_X8_line_58 N 0 (nI i) (nI j) (nI b) v (S m) = some (v, S (wI (wI m 287 i (nI (tg b (r i) j))) 287 j (nI (tg b (r j) i)))) := by
              intro v
              unfold J_X8_line_58
              refine e_ldR fxO fxR7 ?_
              unfold J_X8_line_76
              rcases (show b = 0 ∨ b = 1 by omega) with rfl | rfl
              · exact e_f (by decide) (e_bnd hdraw rfl)
              · exact e_t rfl (e_bnd hdraw rfl)
            unfold F_X8_line
            refine e_rcv fxO ?_
            refine e_ldR fxO fxR7 ?_
            refine g_y (c_hasH net286 c4 _) hx ?_
            refine e_ldR fxO fxR7 ?_
            refine g_y (c_hasH net286 c4 _) hy ?_
            refine e_f (Int32.not_lt.mpr hz.1) ?_
            refine e_f (Int32.not_lt.mpr ((in_r (nI b) (n := 1) (by decide)).mpr hz).2) ?_
            refine e_f hxy ?_
            refine e_ldR fxO fxR7 ?_
            by_cases w : bt (r i) j = 1
            · refine g_y (c_joinsH ⟨c4, c1, fun k hk => ⟨(c6 k hk).1, (c6 k hk).2.2⟩⟩ hi hj) w ?_
              rw [w]
              exact j58 _
            · refine g_n (c_joinsH ⟨c4, c1, fun k hk => ⟨(c6 k hk).1, (c6 k hk).2.2⟩⟩ hi hj) w ?_
              rw [show bt (r i) j = 0 by omega]
              exact j58 _
          have c5' : rI (wI (wI m 287 i (nI (tg b (r i) j))) 287 j (nI (tg b (r j) i))) 322 5 = nI nn := by rw [f1.i (by omega)]; exact c5
          -- the model
          have hmod : ∃ m2, F_X9_line N 322 (nI i) (nI j) (nI b) (S (wI (wI m 287 i (nI (tg b (r i) j))) 287 j (nI (tg b (r j) i)))) = some (nI (bt (r i) j), S m2) ∧ Fr (fun a _ => a = 328) (wI (wI m 287 i (nI (tg b (r i) j))) 287 j (nI (tg b (r j) i))) m2 ∧ ∀ k, k < nn → rI m2 328 k = nI (rowL r b i j k) := by
            have mi : rI (wI (wI m 287 i (nI (tg b (r i) j))) 287 j (nI (tg b (r j) i))) 328 i = nI (r i) := by rw [f1.i (by omega)]; exact ri.2.1
            have mj : ∀ v, rI (wI (wI (wI m 287 i (nI (tg b (r i) j))) 287 j (nI (tg b (r j) i))) 328 i v) 328 j = nI (r j) := fun v => by rw [rI_n _ _ (by omega), f1.i (by omega)]; exact rj.2.1
            have start : ∀ R, (if nI (bt (r i) j) = nI b then J_X9_line_77 N (nI (bt (r i) j)) (S (wI (wI m 287 i (nI (tg b (r i) j))) 287 j (nI (tg b (r j) i)))) else (ldR (S (wI (wI m 287 i (nI (tg b (r i) j))) 287 j (nI (tg b (r j) i)))) 322 9 6 (fun r7 => alI (S (wI (wI m 287 i (nI (tg b (r i) j))) 287 j (nI (tg b (r j) i)))) r7 (nI i) (fun v8 => asI (S (wI (wI m 287 i (nI (tg b (r i) j))) 287 j (nI (tg b (r j) i)))) r7 (nI i) (v8 ^^^ (1 <<< (nI j &&& 31))) (fun s => ldR s 322 9 6 (fun r9 => alI s r9 (nI j) (fun v10 => asI s r9 (nI j) (v10 ^^^ (1 <<< (nI i &&& 31))) (fun s => J_X9_line_77 N (nI (bt (r i) j)) s)))))))) = R → F_X9_line N 322 (nI i) (nI j) (nI b) (S (wI (wI m 287 i (nI (tg b (r i) j))) 287 j (nI (tg b (r j) i)))) = R := by
              intro R hR
              unfold F_X9_line
              refine e_rcv fmO ?_
              refine g_y (m_isPoint c5' h8' _) hx ?_
              refine g_y (m_isPoint c5' h8' _) hy ?_
              refine g_y (m_inR (n := 1) _ (by decide)) hz ?_
              refine e_f hxy ?_
              refine e_ldR fmO fmR6 ?_
              refine e_alIV fmA6 rfl (by omega) mi ?_
              refine e_nm ?_
              rw [shr_and (by omega) (by omega)]
              exact hR
            by_cases w : bt (r i) j = b
            · refine ⟨_, start _ (by rw [if_pos (by rw [w])]; rfl), Fr.rf, fun k hk => ?_⟩
              rw [f1.i (by omega), (c6 k hk).2.1]
              unfold rowL
              by_cases k1 : k = i
              · rw [if_pos k1, k1, show tg b (r i) j = r i from if_pos w]
              · rw [if_neg k1]
                by_cases k2 : k = j
                · rw [if_pos k2, k2, show tg b (r j) i = r j from if_pos (hsym ▸ w)]
                · rw [if_neg k2]
            · refine ⟨wI (wI (wI (wI m 287 i (nI (tg b (r i) j))) 287 j (nI (tg b (r j) i))) 328 i (nI (r i ^^^ 2 ^ j))) 328 j (nI (r j ^^^ 2 ^ i)), start _ ?_, ?_, fun k hk => ?_⟩
              · rw [if_neg (by rw [nI_eq (by omega) (by omega)]; exact w)]
                refine e_ldR fmO fmR6 ?_
                refine e_alIV fmA6 rfl (by omega) mi ?_
                rw [xo_b _ (by omega) _ (by omega)]
                refine e_asI fmA6 rfl (by omega) ?_
                refine e_ldR fmO fmR6 ?_
                refine e_alIV fmA6 rfl (by omega) (mj _) ?_
                rw [xo_b _ (by omega) _ (by omega)]
                refine e_asI fmA6 rfl (by omega) ?_
                rfl
              · have h : Fr (fun a _ => a = 328) (wI (wI m 287 i (nI (tg b (r i) j))) 287 j (nI (tg b (r j) i))) (wI (wI (wI m 287 i (nI (tg b (r i) j))) 287 j (nI (tg b (r j) i))) 328 i (nI (r i ^^^ 2 ^ j))) := Fr.sI Fr.rf rfl
                exact Fr.sI h rfl
              · unfold rowL
                by_cases k2 : k = j
                · rw [k2, rI_s, if_neg (Ne.symm hij), if_pos rfl, show tg b (r j) i = r j ^^^ 2 ^ i from if_neg (hsym ▸ w)]
                · rw [rI_n _ _ (by omega)]
                  by_cases k1 : k = i
                  · rw [k1, rI_s, if_pos rfl, show tg b (r i) j = r i ^^^ 2 ^ j from if_neg w]
                  · rw [rI_n _ _ (by omega), if_neg k1, if_neg k2, f1.i (by omega)]
                    exact (c6 k hk).2.1
          obtain ⟨m2, g1, g2, g3⟩ := hmod
          refine ⟨nI (bt (r i) j), _, m2, hcls, g1, hR.hand ((f1.mo (fun a j w => by unfold hanP; omega)).tr (g2.mo (fun a j w => by unfold hanP; omega))) (nn := nn) (r := rowL r b i j) ⟨c1, fun k l hk hl => ?_, fun k hk => ?_, by rw [g2.i (by omega), f1.i (by omega)]; exact c4, by rw [g2.i (by omega)]; exact c5', fun k hk => ⟨?_, g3 k hk, ?_⟩⟩⟩
          · have bi : ∀ l, l < nn → bt (tg b (r i) j) l = if l = j then b else bt (r i) l := fun l hl => bt_tg hb (by omega) (by omega) (by omega)
            have bj : ∀ l, l < nn → bt (tg b (r j) i) l = if l = i then b else bt (r j) l := fun l hl => bt_tg hb (by omega) (by omega) (by omega)
            unfold rowL
            by_cases k1 : k = i
            · subst k1
              rw [if_pos rfl, bi l hl]
              by_cases l1 : l = k
              · subst l1
                rw [if_neg hij, if_pos rfl, bi l hl, if_neg hij]
              · rw [if_neg l1]
                by_cases l2 : l = j
                · rw [if_pos l2, if_pos l2, bj k hk, if_pos rfl]
                · rw [if_neg l2, if_neg l2]
                  exact c2 k l hk hl
            · rw [if_neg k1]
              by_cases k2 : k = j
              · subst k2
                rw [if_pos rfl, bj l hl]
                by_cases l1 : l = i
                · rw [if_pos l1, if_pos l1, bi k hk, if_pos rfl]
                · rw [if_neg l1, if_neg l1]
                  by_cases l2 : l = k
                  · subst l2
                    rw [if_pos rfl, bj l hl, if_neg l1]
                  · rw [if_neg l2]
                    exact c2 k l hk hl
              · rw [if_neg k2]
                by_cases l1 : l = i
                · rw [if_pos l1, bi k hk, if_neg k2, l1]
                  exact c2 k i hk hi
                · rw [if_neg l1]
                  by_cases l2 : l = j
                  · rw [if_pos l2, bj k hk, if_neg k1, l2]
                    exact c2 k j hk hj
                  · rw [if_neg l2]
                    exact c2 k l hk hl
          · unfold rowL
            by_cases k1 : k = i
            · rw [if_pos k1, k1, bt_tg hb (by omega) (by omega) (by omega), if_neg hij]
              exact c3 i hi
            · rw [if_neg k1]
              by_cases k2 : k = j
              · rw [if_pos k2, k2, bt_tg hb (by omega) (by omega) (by omega), if_neg (Ne.symm hij)]
                exact c3 j hj
              · rw [if_neg k2]
                exact c3 k hk
          · rw [g2.i (by omega)]
            show rI _ 287 k = _
            unfold rowL
            by_cases k2 : k = j
            · rw [k2, rI_s, if_neg (Ne.symm hij), if_pos rfl]
            · rw [rI_n _ _ (by omega)]
              by_cases k1 : k = i
              · rw [k1, rI_s, if_pos rfl]
              · rw [rI_n _ _ (by omega), if_neg k1, if_neg k2]
                exact (c6 k hk).1
          · unfold rowL
            by_cases k1 : k = i
            · rw [if_pos k1]; exact tg_lt ri.2.2 hj
            · rw [if_neg k1]
              by_cases k2 : k = j
              · rw [if_pos k2]; exact tg_lt rj.2.2 hi
              · rw [if_neg k2]; exact (c6 k hk).2.2
      · refine SameI.ro (-2) hR ?_ ?_
        · unfold F_X8_line
          refine e_rcv fxO ?_
          refine e_ldR fxO fxR7 ?_
          refine g_y (c_hasH net286 hh.net.1 _) hx ?_
          refine e_ldR fxO fxR7 ?_
          refine g_y (c_hasH net286 hh.net.1 _) hy ?_
          by_cases h0 : z < 0
          · exact e_t h0 rfl
          · refine e_f h0 ?_
            exact e_t (Int32.not_le.mp (fun w => hz ((in_r z (n := 1) (by decide)).mp ⟨Int32.not_lt.mp h0, w⟩))) rfl
        · unfold F_X9_line
          refine e_rcv fmO ?_
          refine g_y (m_isPoint hh.mod.1 h8' _) hx ?_
          refine g_y (m_isPoint hh.mod.1 h8' _) hy ?_
          exact g_n (m_inR (n := 1) _ (by decide)) hz rfl
    · refine SameI.ro (-1) hR ?_ ?_
      · unfold F_X8_line
        refine e_rcv fxO ?_
        refine e_ldR fxO fxR7 ?_
        refine g_y (c_hasH net286 hh.net.1 _) hx ?_
        refine e_ldR fxO fxR7 ?_
        exact g_n (c_hasH net286 hh.net.1 _) hy rfl
      · unfold F_X9_line
        refine e_rcv fmO ?_
        refine g_y (m_isPoint hh.mod.1 h8' _) hx ?_
        exact g_n (m_isPoint hh.mod.1 h8' _) hy rfl
  · refine SameI.ro (-1) hR ?_ ?_
    · unfold F_X8_line
      refine e_rcv fxO ?_
      refine e_ldR fxO fxR7 ?_
      exact g_n (c_hasH net286 hh.net.1 _) hx rfl
    · unfold F_X9_line
      refine e_rcv fmO ?_
      exact g_n (m_isPoint hh.mod.1 h8' _) hx rfl
end CALLS4
