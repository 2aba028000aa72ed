/-! the model counts pairs -/
section MJOINT
variable {N : Nat} {m : vM} {s : vS}
def joP (b j : Nat) : Prop := b = 340 ∨ b = 341
theorem joP_tab {b j : Nat} (h : tabP b j) : ¬ joP b j := by
  unfold tabP at h
  unfold joP
  omega
theorem bt_pop : ∀ a, a < 16 → bt a 0 = 1 → 1 ≤ pop a := by decide +kernel
theorem onv_in {q : Bool} {h a : Nat} (ha : a < 16) : onv q h a = if rootIn a (ro_ q) = true then nI (nOn q (sz_ q h) (rowT q h) a (ro_ q)) else -1 := by
  unfold onv
  have e : (sh_ q ≤ pop a ∧ (q = false ∨ bt a 0 = 1)) ↔ rootIn a (ro_ q) = true := by
    cases q with
    | false => exact ⟨fun _ => rfl, fun _ => ⟨Nat.zero_le _, Or.inl rfl⟩⟩
    | true =>
      show (1 ≤ pop a ∧ (true = false ∨ bt a 0 = 1)) ↔ (bt a 0 == 1) = true
      constructor
      · rintro ⟨_, h⟩
        rcases h with h | h
        · cases h
        · rw [h]; rfl
      · intro h
        have h := eq_of_beq h
        exact ⟨bt_pop a ha h, Or.inr h⟩
  by_cases z : rootIn a (ro_ q) = true
  · rw [if_pos z, if_pos (e.mpr z)]
  · rw [if_neg z, if_neg (fun w => z (e.mp w))]
theorem ro_q (q : Bool) : q = (ro_ q).isSome := by cases q <;> rfl
theorem ro_lt {q : Bool} {h x : Nat} (hh : h < mny q) (e : ro_ q = some x) : x < sz_ q h := by
  have hz := szc q h hh
  cases q with
  | false => cases e
  | true =>
    cases e
    have : 1 ≤ sz_ true h := hz.2.1
    omega
theorem m_joint_n {q : Bool} {h : Nat} {l1 l2 l3 l4 : Int32} (hN : 100 ≤ N) (hh : h < mny q) : ∀ (d e n : Nat) (m : vM), e + d = 2 ^ sz_ q h → d < n → Tab m → LookIs m (sz_ q h) (rowT q h) → (∀ a, a < e → rI m 341 a = onv q h a) →
    ∃ m', H_X9_jointOf_9 N n 322 l1 l2 l3 l4 (rt (ro_ q)) 0 0 (nI e) (S m) = J_X9_jointOf_83 N 322 l1 l2 l3 l4 0 0 (nI (sh_ q)) (S m') ∧ Fr joP m m' ∧ (∀ a, a < 2 ^ sz_ q h → rI m' 341 a = onv q h a)
  | _, _, 0, _, _, h, _, _, _ => by omega
  | 0, e, n + 1, m, he, _, hT, hn, hv => by
    obtain ⟨h1, h2, h3⟩ := hn
    have hz := szc q h hh
    have h4 : (2 : Nat) ^ sz_ q h ≤ 2 ^ 4 := Nat.pow_le_pow_right (by decide) hz.1
    refine ⟨m, ?_, Fr.rf, fun a ha => hv a (by omega)⟩
    unfold H_X9_jointOf_9
    refine e_ldIV fmO h1 ?_
    refine e_t (by rw [shl1 _ (by omega), nI_leI (by omega) (by omega)]; omega) ?_
    cases q with
    | false => exact e_f (by show ¬ (0 : Int32) ≤ -1; decide) rfl
    | true => exact e_t (by show (0 : Int32) ≤ nI 0; decide) rfl
  | d + 1, e, n + 1, m, he, hd, hT, hn, hv => by
    obtain ⟨h1, h2, h3⟩ := id hn
    have hz := szc q h hh
    have h4 : (2 : Nat) ^ sz_ q h ≤ 2 ^ 4 := Nat.pow_le_pow_right (by decide) hz.1
    have hpe := pop16 e (by omega)
    have hs := sh_lt q
    have ih := fun m1 (f1 : Fr joP m m1) hv1 => m_joint_n (l1 := l1) (l2 := l2) (l3 := l3) (l4 := l4) hN hh d (e + 1) n m1 (by omega) (by omega) (hT.fr (fun b j hb => f1 b j (joP_tab hb))) ⟨by rw [f1.i (by unfold joP; omega)]; exact h1, h2, fun i hi => by rw [f1.i (by unfold joP; omega)]; exact h3 i hi⟩ hv1
    have put : ∀ m1 v, Fr (fun b _ => b = 340) m m1 → v = onv q h e → ∃ m', J_X9_jointOf_63 N (H_X9_jointOf_9 N n) 322 l1 l2 l3 l4 (rt (ro_ q)) 0 0 (nI e) 341 (nI e) v (S m1) = J_X9_jointOf_83 N 322 l1 l2 l3 l4 0 0 (nI (sh_ q)) (S m') ∧ Fr joP m m' ∧ (∀ a, a < 2 ^ sz_ q h → rI m' 341 a = onv q h a) := by
      intro m1 v f1 hv'
      have f2 : Fr joP m (wI m1 341 e v) := (f1.mo (fun b j z => Or.inl z)).sI (Or.inr rfl)
      obtain ⟨m', g1, g2, g3⟩ := ih (wI m1 341 e v) f2 (fun a ha => by
        by_cases z : a = e
        · rw [z, rI_s]; exact hv'
        · rw [rI_n _ _ (by omega), f1.i (by omega)]; exact hv a (by omega))
      refine ⟨m', ?_, f2.tr g2, g3⟩
      unfold J_X9_jointOf_63
      refine e_asI fmA26 rfl (by omega) ?_
      refine e_nm ?_
      rw [addR]
      exact g1
    have start : ∀ R, (if rt (ro_ q) < 0 then J_X9_jointOf_51 N (H_X9_jointOf_9 N n) 322 l1 l2 l3 l4 (rt (ro_ q)) 0 0 (nI e) 341 (nI e) (S m) else (if ((nI e >>> (rt (ro_ q) &&& 31)) &&& 1) = 1 then J_X9_jointOf_51 N (H_X9_jointOf_9 N n) 322 l1 l2 l3 l4 (rt (ro_ q)) 0 0 (nI e) 341 (nI e) (S m) else J_X9_jointOf_62 N (H_X9_jointOf_9 N n) 322 l1 l2 l3 l4 (rt (ro_ q)) 0 0 (nI e) 341 (nI e) (S m))) = R → H_X9_jointOf_9 N (n + 1) 322 l1 l2 l3 l4 (rt (ro_ q)) 0 0 (nI e) (S m) = R := by
      intro R hR
      unfold H_X9_jointOf_9
      refine e_ldIV fmO h1 ?_
      refine e_f (by rw [shl1 _ (by omega), nI_leI (by omega) (by omega)]; omega) ?_
      refine e_ldR fmO fmR26 ?_
      refine e_bnd (m_ones (by omega) hN) ?_
      refine e_f (by simp (disch := omega) only [leL, leR, ltL, ltR, eqR, mulL, addR, clL, inL, nI_add, pk_mul, inb_nI, nI_clamp, nI_leI, nI_ltI, nI_eq, nI_1]; omega) ?_
      exact hR
    have hon := onv_in (q := q) (h := h) (a := e) (by omega)
    by_cases hi : rootIn e (ro_ q) = true
    · rw [if_pos hi] at hon
      have hp1 : sh_ q ≤ pop e := by
        cases q with
        | false => exact Nat.zero_le _
        | true => exact bt_pop e (by omega) (eq_of_beq hi)
      obtain ⟨m1, g1, g2⟩ := m_numberOn (N := N) (m := m) (q := q) (set := e) (root := ro_ q) hN hT hn (symT' hh) (by omega) (ro_q q) (fun x hx => ro_lt hh hx) ⟨hp1, hpe, hi⟩
      obtain ⟨m', j1, j2, j3⟩ := put m1 _ g2 hon.symm
      refine ⟨m', start _ ?_, j2, j3⟩
      have core : J_X9_jointOf_51 N (H_X9_jointOf_9 N n) 322 l1 l2 l3 l4 (rt (ro_ q)) 0 0 (nI e) 341 (nI e) (S m) = J_X9_jointOf_83 N 322 l1 l2 l3 l4 0 0 (nI (sh_ q)) (S m') := by
        unfold J_X9_jointOf_51
        refine e_bnd g1 ?_
        exact j1
      cases q with
      | false => exact e_t (by show (-1 : Int32) < 0; decide) core
      | true =>
        refine e_f (by show ¬ (nI 0 < 0); decide) ?_
        refine e_t ?_ core
        show (nI e >>> (nI 0 &&& 31)) &&& 1 = 1
        rw [shr_and (by omega) (by omega), show bt e 0 = 1 from eq_of_beq hi]
        rfl
    · rw [if_neg hi] at hon
      obtain ⟨m', j1, j2, j3⟩ := put m _ Fr.rf hon.symm
      refine ⟨m', start _ ?_, j2, j3⟩
      cases q with
      | false => exact absurd rfl hi
      | true =>
        refine e_f (by show ¬ (nI 0 < 0); decide) ?_
        refine e_f ?_ j1
        show ¬ (nI e >>> (nI 0 &&& 31)) &&& 1 = 1
        rw [shr_and (by omega) (by omega)]
        intro w
        have hb := bt_lt e 0
        have : bt e 0 = 1 := (eqR (n := 1) (by decide) (by omega)).mp w
        exact hi (by unfold rootIn ro_; rw [if_pos rfl]; show (bt e 0 == 1) = true; rw [this]; rfl)
abbrev jmi (q : Bool) (f g h a : Nat) : Nat → Nat → Nat := fun b x => if onv q h a = nI f ∧ onv q h b = nI g ∧ a &&& b = sh_ q then x + 1 else x
theorem jmi_jou {q : Bool} {f g h a x : Nat} : fld (jmi q f g h a) (2 ^ sz_ q h) 0 x = jou q f g h a x := by
  unfold jou
  by_cases z : onv q h a = nI f
  · rw [if_pos z]
    refine fld_congr _ 0 x (fun b x _ _ => ?_)
    unfold jmi jin
    by_cases y : onv q h b = nI g ∧ a &&& b = sh_ q
    · rw [if_pos y, if_pos ⟨z, y⟩]
    · rw [if_neg y, if_neg (fun w => y w.2)]
  · rw [if_neg z]
    have : ∀ d i, fld (jmi q f g h a) d i x = x := by
      intro d
      induction d with
      | zero => exact fun _ => rfl
      | succ d ih =>
        intro i
        rw [fld]
        unfold jmi
        rw [if_neg (fun w => z w.1)]
        exact ih (i + 1)
    exact this _ _
theorem m_joint_b {q : Bool} {f g h a : Nat} (hN : 100 ≤ N) (hf : f < mny q) (hg : g < mny q) (hh : h < mny q) (hn : LookIs m (sz_ q h) (rowT q h)) (hv : ∀ a, a < 2 ^ sz_ q h → rI m 341 a = onv q h a) (ha : a < 2 ^ sz_ q h) {K : Nat → Int32 → Int32 → Int32 → Int32 → Int64 → Int64 → Int32 → Int32 → vS → Option (Unit × vS)} : ∀ (d b n x y : Nat), b + d = 2 ^ sz_ q h → d < n →
    H_X9_jointOf_102 N K n 322 (nI f) (nI (sz_ q f)) (nI g) (nI (sz_ q g)) (lN x) (lN y) (nI (sh_ q)) (nI a) (nI b) (S m) = K 322 (nI f) (nI (sz_ q f)) (nI g) (nI (sz_ q g)) (lN (fld (jmi q f g h a) d b x)) (lN (fld (jai q (sz_ q f) (sz_ q g) a) d b y)) (nI (sh_ q)) (nI (a + 1)) (S m)
  | _, _, 0, _, _, _, h => by omega
  | 0, b, n + 1, x, y, hb, _ => by
    have hz := szc q h hh
    have h4 : (2 : Nat) ^ sz_ q h ≤ 2 ^ 4 := Nat.pow_le_pow_right (by decide) hz.1
    unfold H_X9_jointOf_102
    refine e_ldIV fmO hn.1 ?_
    refine e_t (by rw [shl1 _ (by omega), nI_leI (by omega) (by omega)]; omega) ?_
    refine e_nm ?_
    rw [addR]
    rfl
  | d + 1, b, n + 1, x, y, hb, hd => by
    have hz := szc q h hh
    have hzf := szc q f hf
    have hzg := szc q g hg
    have hadr := adr q
    have h4 : (2 : Nat) ^ sz_ q h ≤ 2 ^ 4 := Nat.pow_le_pow_right (by decide) hz.1
    have hpa := pop16 a (by omega)
    have hpb := pop16 b (by omega)
    have hab : a &&& b ≤ a := Nat.and_le_left
    have ih := m_joint_b hN hf hg hh hn hv ha (K := K) d (b + 1) n (jmi q f g h a b x) (jai q (sz_ q f) (sz_ q g) a b y) (by omega) (by omega)
    have oka : onv q h a = nI f → okS q a ∧ pop a = sz_ q f := fun e => onv_ok (by omega) e hpa
    have okb : onv q h b = nI g → okS q b ∧ pop b = sz_ q g := fun e => onv_ok (by omega) e hpb
    have nx : ∀ x' y', x' = jmi q f g h a b x → y' = jai q (sz_ q f) (sz_ q g) a b y → J_X9_jointOf_200 N K (H_X9_jointOf_102 N K n) 322 (nI f) (nI (sz_ q f)) (nI g) (nI (sz_ q g)) (lN x') (lN y') (nI (sh_ q)) (nI a) (nI b) (S m) = K 322 (nI f) (nI (sz_ q f)) (nI g) (nI (sz_ q g)) (lN (fld (jmi q f g h a) (d + 1) b x)) (lN (fld (jai q (sz_ q f) (sz_ q g) a) (d + 1) b y)) (nI (sh_ q)) (nI (a + 1)) (S m) := by
      intro x' y' ex ey
      unfold J_X9_jointOf_200
      refine e_nm ?_
      rw [addR, ex, ey]
      exact ih
    have skip : ¬ (okS q a ∧ okS q b ∧ a &&& b = sh_ q ∧ pop a = sz_ q f ∧ pop b = sz_ q g) → J_X9_jointOf_200 N K (H_X9_jointOf_102 N K n) 322 (nI f) (nI (sz_ q f)) (nI g) (nI (sz_ q g)) (lN x) (lN y) (nI (sh_ q)) (nI a) (nI b) (S m) = K 322 (nI f) (nI (sz_ q f)) (nI g) (nI (sz_ q g)) (lN (fld (jmi q f g h a) (d + 1) b x)) (lN (fld (jai q (sz_ q f) (sz_ q g) a) (d + 1) b y)) (nI (sh_ q)) (nI (a + 1)) (S m) := by
      intro w
      refine nx x y ?_ ?_
      · unfold jmi
        rw [if_neg (fun z => w ⟨(oka z.1).1, (okb z.2.1).1, z.2.2, (oka z.1).2, (okb z.2.1).2⟩)]
      · unfold jai
        rw [if_neg (fun z => w (JC_iff.mp z))]
    have take : okS q a → okS q b → a &&& b = sh_ q → pop a = sz_ q f → pop b = sz_ q g → jai q (sz_ q f) (sz_ q g) a b y = y + 1 := by
      intro w1 w2 w3 w4 w5
      unfold jai
      rw [if_pos (JC_iff.mpr ⟨w1, w2, w3, w4, w5⟩)]
    unfold H_X9_jointOf_102
    refine e_ldIV fmO hn.1 ?_
    refine e_f (by rw [shl1 _ (by omega), nI_leI (by omega) (by omega)]; omega) ?_
    refine e_ldR fmO fmR26 ?_
    refine e_alIV fmA26 rfl (by omega) (hv a ha) ?_
    refine e_i (fun z => skip (fun w => (onv_neg hpa).mp z w.1)) (fun z1 => ?_)
    have k1 : okS q a := Classical.byContradiction (fun w => z1 ((onv_neg hpa).mpr w))
    refine e_ldR fmO fmR26 ?_
    refine e_alIV fmA26 rfl (by omega) (hv b (by omega)) ?_
    refine e_i (fun z => skip (fun w => (onv_neg hpb).mp z w.2.1)) (fun z2 => ?_)
    have k2 : okS q b := Classical.byContradiction (fun w => z2 ((onv_neg hpb).mpr w))
    rw [nI_and (by omega) (by omega)]
    refine e_i (fun z => ?_) (fun z => skip (fun w => z (by rw [w.2.2.1])))
    have k3 : a &&& b = sh_ q := (nI_eq (by omega) (by omega)).mp z
    refine e_bnd (m_ones (by omega) hN) ?_
    refine e_i (fun z => ?_) (fun z => skip (fun w => z (by rw [w.2.2.2.1])))
    have k4 : pop a = sz_ q f := (nI_eq (by omega) (by omega)).mp z
    refine e_bnd (m_ones (by omega) hN) ?_
    refine e_i (fun z => ?_) (fun z => skip (fun w => z (by rw [w.2.2.2.2])))
    have k5 : pop b = sz_ q g := (nI_eq (by omega) (by omega)).mp z
    refine e_nm ?_
    rw [lN_1]
    refine e_ldR fmO fmR26 ?_
    refine e_alIV fmA26 rfl (by omega) (hv a ha) ?_
    refine e_i (fun z => ?_) (fun z => ?_)
    · refine e_ldR fmO fmR26 ?_
      refine e_alIV fmA26 rfl (by omega) (hv b (by omega)) ?_
      refine e_i (fun z' => ?_) (fun z' => ?_)
      · unfold J_X9_jointOf_197
        refine e_nm ?_
        rw [lN_1]
        exact nx _ _ (by unfold jmi; rw [if_pos ⟨z, z', k3⟩]) (take k1 k2 k3 k4 k5).symm
      · unfold J_X9_jointOf_196 J_X9_jointOf_197
        refine e_nm ?_
        rw [Int64.add_zero]
        exact nx _ _ (by unfold jmi; rw [if_neg (fun w => z' w.2.1)]) (take k1 k2 k3 k4 k5).symm
    · unfold J_X9_jointOf_196 J_X9_jointOf_197
      refine e_nm ?_
      rw [Int64.add_zero]
      exact nx _ _ (by unfold jmi; rw [if_neg (fun w => z w.1)]) (take k1 k2 k3 k4 k5).symm
theorem m_joint_a {q : Bool} {f g h : Nat} (hN : 100 ≤ N) (hf : f < mny q) (hg : g < mny q) (hh : h < mny q) (hs : sz_ q f + sz_ q g - sh_ q ≤ sz_ q h) (hn : LookIs m (sz_ q h) (rowT q h)) (hv : ∀ a, a < 2 ^ sz_ q h → rI m 341 a = onv q h a) : ∀ (d a n x y : Nat), a + d = 2 ^ sz_ q h → d < n → fld (jou q f g h) d a x = jm q f g h → fld (jao q (sz_ q h) (sz_ q f) (sz_ q g)) d a y = ja q (sz_ q h) (sz_ q f) (sz_ q g) →
    H_X9_jointOf_88 N n 322 (nI f) (nI (sz_ q f)) (nI g) (nI (sz_ q g)) (lN x) (lN y) (nI (sh_ q)) (nI a) (S m) = some ((), S (wA m (jt q f g h)))
  | _, _, 0, _, _, _, h, _, _ => by omega
  | 0, a, n + 1, x, y, ha, _, ex, ey => by
    have hz := szc q h hh
    have h4 : (2 : Nat) ^ sz_ q h ≤ 2 ^ 4 := Nat.pow_le_pow_right (by decide) hz.1
    have hzf := szc q f hf
    have hzg := szc q g hg
    have hp := ja_prs q (sz_ q h) (by omega) (sz_ q f) (by omega) (sz_ q g) (by omega) ⟨hzf.2.1, hzg.2.1, hs⟩
    have ex : x = jm q f g h := ex
    have ey : y = ja q (sz_ q h) (sz_ q f) (sz_ q g) := ey
    unfold H_X9_jointOf_88
    refine e_ldIV fmO hn.1 ?_
    refine e_t (by rw [shl1 _ (by omega), nI_leI (by omega) (by omega)]; omega) ?_
    rw [ex, ey]
    refine e_bnd (m_lay hN (lN_pos hp.2.1 (by omega))) ?_
    unfold jt
    rw [hp.1]
  | d + 1, a, n + 1, x, y, ha, hd, ex, ey => by
    have hz := szc q h hh
    have h4 : (2 : Nat) ^ sz_ q h ≤ 2 ^ 4 := Nat.pow_le_pow_right (by decide) hz.1
    unfold H_X9_jointOf_88
    refine e_ldIV fmO hn.1 ?_
    refine e_f (by rw [shl1 _ (by omega), nI_leI (by omega) (by omega)]; omega) ?_
    refine Eq.trans (m_joint_b hN hf hg hh hn hv (show a < 2 ^ sz_ q h by omega) (2 ^ sz_ q h) 0 N x y (by omega) (by omega)) ?_
    rw [jmi_jou]
    exact m_joint_a hN hf hg hh hs hn hv d (a + 1) n _ _ (by omega) (by omega) ex ey
theorem m_jointOf {q : Bool} {f g h : Nat} (hN : 100 ≤ N) (hT : Tab m) (hf : f < mny q) (hg : g < mny q) (hh : h < mny q) (hs : sz_ q f + sz_ q g - sh_ q ≤ sz_ q h) (hn : LookIs m (sz_ q h) (rowT q h)) :
    ∃ m', F_X9_jointOf N 322 (nI f) (nI (sz_ q f)) (nI g) (nI (sz_ q g)) (rt (ro_ q)) (S m) = some ((), S (wA m' (jt q f g h))) ∧ Fr joP m m' := by
  have hz := szc q h hh
  have h4 : (2 : Nat) ^ sz_ q h ≤ 2 ^ 4 := Nat.pow_le_pow_right (by decide) hz.1
  obtain ⟨m', g1, g2, g3⟩ := m_joint_n (N := N) (l1 := nI f) (l2 := nI (sz_ q f)) (l3 := nI g) (l4 := nI (sz_ q g)) hN hh (2 ^ sz_ q h) 0 N m (by omega) (by omega) hT hn (fun a ha => absurd ha (Nat.not_lt_zero _))
  refine ⟨m', ?_, g2⟩
  unfold F_X9_jointOf
  refine e_rcv fmO ?_
  refine Eq.trans g1 ?_
  unfold J_X9_jointOf_83
  exact m_joint_a hN hf hg hh hs ⟨by rw [g2.i (by unfold joP; omega)]; exact hn.1, hn.2.1, fun i hi => by rw [g2.i (by unfold joP; omega)]; exact hn.2.2 i hi⟩ g3 (2 ^ sz_ q h) 0 N 0 0 (by omega) (by omega) rfl rfl
end MJOINT
