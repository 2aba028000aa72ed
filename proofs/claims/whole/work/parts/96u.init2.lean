section INIT2
variable {N k : Nat} {m m' : vM} {s : vS} {κ κ' : (Nat × Nat) × (Nat → Nat × Nat) × (Nat → Nat → Option Nat)}
/-- the text's constructor: the cell 234, the families at 1 and 92 -/
theorem tx_sh : (isOc 234 7 = true ∧ SHf 235 = (1, 60) ∧ SHf 236 = (1, 60) ∧ SHf 237 = (1, 60) ∧ SHf 238 = (1, 60) ∧ SHf 239 = (1, 60) ∧ SHf 240 = (1, 4) ∧ SHf 241 = (1, 4) ∧ SHf 242 = (1, 4)) ∧ rrL.getD 234 [] = [some 1, some 92, some 235, none, none, some 236, some 237, some 238, some 239, none, none, some 240, some 241, some 242] ∧ ∀ a, a < 243 → 235 ≤ a → rrL.getD a [] = [] := by decide +kernel
theorem i_X7 (h : Pr 235 κ) : ∃ κ' m', F_X7_init N 234 1 92 (G κ m) = some ((), G κ' m') ∧ Pr 243 κ' ∧ Kp κ κ' ∧ Cp 234 243 κ' ∧ Fz 234 m m' ∧ rI m' 234 3 = 0 := by
  obtain ⟨⟨s1, s2, s3, s4, s5, s6, s7, s8, s9⟩, sr, s0⟩ := tx_sh
  obtain ⟨p1, k1⟩ := h.new (d := (1, 60)) (w := 60) s2 rfl
  obtain ⟨p2, k2, r2⟩ := p1.ref (a := 234) (j := 2) (v := 235) (by omega) rfl
  obtain ⟨p3, k3⟩ := p2.new (d := (1, 60)) (w := 60) s3 rfl
  obtain ⟨p4, k4, r4⟩ := p3.ref (a := 234) (j := 5) (v := 236) (by omega) rfl
  obtain ⟨p5, k5⟩ := p4.new (d := (1, 60)) (w := 60) s4 rfl
  obtain ⟨p6, k6, r6⟩ := p5.ref (a := 234) (j := 6) (v := 237) (by omega) rfl
  obtain ⟨p7, k7⟩ := p6.new (d := (1, 60)) (w := 60) s5 rfl
  obtain ⟨p8, k8, r8⟩ := p7.ref (a := 234) (j := 7) (v := 238) (by omega) rfl
  obtain ⟨p9, k9⟩ := p8.new (d := (1, 60)) (w := 60) s6 rfl
  obtain ⟨p10, k10, r10⟩ := p9.ref (a := 234) (j := 8) (v := 239) (by omega) rfl
  obtain ⟨p11, k11⟩ := p10.new (d := (1, 4)) (w := 4) s7 rfl
  obtain ⟨p12, k12, r12⟩ := p11.ref (a := 234) (j := 11) (v := 240) (by omega) rfl
  obtain ⟨p13, k13⟩ := p12.new (d := (1, 4)) (w := 4) s8 rfl
  obtain ⟨p14, k14, r14⟩ := p13.ref (a := 234) (j := 12) (v := 241) (by omega) rfl
  obtain ⟨p15, k15⟩ := p14.new (d := (1, 4)) (w := 4) s9 rfl
  obtain ⟨p16, k16, r16⟩ := p15.ref (a := 234) (j := 13) (v := 242) (by omega) rfl
  obtain ⟨p17, k17, r17⟩ := p16.ref (a := 234) (j := 0) (v := 1) (by omega) rfl
  obtain ⟨p18, k18, r18⟩ := p17.ref (a := 234) (j := 1) (v := 92) (by omega) rfl
  have t16 := k17.tr k18
  have t14 := (k15.tr k16).tr t16
  have t12 := (k13.tr k14).tr t14
  have t10 := (k11.tr k12).tr t12
  have t8 := (k9.tr k10).tr t10
  have t6 := (k7.tr k8).tr t8
  have t4 := (k5.tr k6).tr t6
  have t2 := (k3.tr k4).tr t4
  refine ⟨_, zM (zM (zM (wI (wI (zM (zM (zM (zM (wI (wI (zM m 235) 234 3 0) 234 4 0) 236) 237) 238) 239) 234 9 0) 234 10 0) 240) 241) 242, ?_, p18, (k1.tr k2).tr t2, fun a j v h1 h2 e => ?_, fun b j hb => ?_, ?_⟩
  · unfold F_X7_init
    refine k_rcv (h.o (by omega) s1) ?_
    refine k_nwA (n := 60) rfl (by omega) ?_
    rw [h.n]
    refine k_stR (p1.o (by omega) s1) ?_
    refine k_stI (p2.o (by omega) s1) ?_
    refine k_stI (p2.o (by omega) s1) ?_
    refine k_nwA (n := 60) rfl (by omega) ?_
    rw [p2.n]
    refine k_stR (p3.o (by omega) s1) ?_
    refine k_nwA (n := 60) rfl (by omega) ?_
    rw [p4.n]
    refine k_stR (p5.o (by omega) s1) ?_
    refine k_nwA (n := 60) rfl (by omega) ?_
    rw [p6.n]
    refine k_stR (p7.o (by omega) s1) ?_
    refine k_nwA (n := 60) rfl (by omega) ?_
    rw [p8.n]
    refine k_stR (p9.o (by omega) s1) ?_
    refine k_stI (p10.o (by omega) s1) ?_
    refine k_stI (p10.o (by omega) s1) ?_
    refine k_nwA (n := 4) rfl (by omega) ?_
    rw [p10.n]
    refine k_stR (p11.o (by omega) s1) ?_
    refine k_nwA (n := 4) rfl (by omega) ?_
    rw [p12.n]
    refine k_stR (p13.o (by omega) s1) ?_
    refine k_nwA (n := 4) rfl (by omega) ?_
    rw [p14.n]
    refine k_stR (p15.o (by omega) s1) ?_
    refine k_stR (p16.o (by omega) s1) ?_
    refine k_stR (p17.o (by omega) s1) ?_
    rfl
  · by_cases w : a = 234
    · subst w
      have hl := rr_in sr e
      match j, hl with
      | 0, hl => rw [← Option.some.inj hl.2]; exact k18 _ _ _ r17
      | 1, hl => rw [← Option.some.inj hl.2]; exact r18
      | 2, hl => rw [← Option.some.inj hl.2]; exact t2 _ _ _ r2
      | 3, hl => cases hl.2
      | 4, hl => cases hl.2
      | 5, hl => rw [← Option.some.inj hl.2]; exact t4 _ _ _ r4
      | 6, hl => rw [← Option.some.inj hl.2]; exact t6 _ _ _ r6
      | 7, hl => rw [← Option.some.inj hl.2]; exact t8 _ _ _ r8
      | 8, hl => rw [← Option.some.inj hl.2]; exact t10 _ _ _ r10
      | 9, hl => cases hl.2
      | 10, hl => cases hl.2
      | 11, hl => rw [← Option.some.inj hl.2]; exact t12 _ _ _ r12
      | 12, hl => rw [← Option.some.inj hl.2]; exact t14 _ _ _ r14
      | 13, hl => rw [← Option.some.inj hl.2]; exact t16 _ _ _ r16
      | n + 14, hl => exact absurd hl.1 (by show ¬ n + 14 < 14; omega)
    · exact absurd e (rr_0 (s0 a h2 (by omega)))
  · rw [zM_I, if_neg (by omega), zM_I, if_neg (by omega), zM_I, if_neg (by omega), zM_J, if_neg (by omega), zM_J, if_neg (by omega), zM_J, if_neg (by omega)]
    rw [rI_n _ _ (by omega), rI_n _ _ (by omega), rJ_wI, rJ_wI]
    rw [zM_I, if_neg (by omega), zM_I, if_neg (by omega), zM_I, if_neg (by omega), zM_I, if_neg (by omega), zM_J, if_neg (by omega), zM_J, if_neg (by omega), zM_J, if_neg (by omega), zM_J, if_neg (by omega)]
    rw [rI_n _ _ (by omega), rI_n _ _ (by omega), rJ_wI, rJ_wI, zM_I, if_neg (by omega), zM_J, if_neg (by omega)]
    exact ⟨rfl, rfl⟩
  · rw [zM_I, if_neg (by omega), zM_I, if_neg (by omega), zM_I, if_neg (by omega), rI_n _ _ (by omega), rI_n _ _ (by omega), zM_I, if_neg (by omega), zM_I, if_neg (by omega), zM_I, if_neg (by omega), zM_I, if_neg (by omega), rI_n _ _ (by omega), rI_s]
/-- the reckoner's constructor: the cell 243, the algebra at 223 -/
theorem rk_sh : (isOc 243 4 = true ∧ SHf 244 = (5, 12) ∧ SHf 245 = (0, 2) ∧ isOc 245 2 = true) ∧ rrL.getD 243 [] = [some 223, some 244, none, some 245] ∧ (rrL.getD 244 []).length = 12 ∧ rrL.getD 245 [] = [] ∧ ∀ i, i < 12 → (246 + 3 * i + 2 < 354 ∧ isOc (246 + 3 * i) 6 = true ∧ SHf (246 + 3 * i + 1) = (2, 29) ∧ SHf (246 + 3 * i + 2) = (2, 29) ∧ rrL.getD (246 + 3 * i) [] = [none, some (246 + 3 * i + 1), some (246 + 3 * i + 2)] ∧ rrL.getD (246 + 3 * i + 1) [] = [] ∧ rrL.getD (246 + 3 * i + 2) [] = []) ∧ RRf 244 i = some (246 + 3 * i) := by decide +kernel
theorem i_X4 (hN : 100 ≤ N) (h : Pr 244 κ) : ∃ κ' m', F_X4_init N 243 223 (G κ m) = some ((), G κ' m') ∧ Pr 282 κ' ∧ Kp κ κ' ∧ Cp 243 282 κ' ∧ Fz 243 m m' := by
  obtain ⟨⟨s1, s2, s3, s4⟩, sr, sl, s0, sS⟩ := rk_sh
  obtain ⟨p1, k1⟩ := h.new (d := (5, 12)) (w := 12) s2 rfl
  obtain ⟨p2, k2, r2⟩ := p1.ref (a := 243) (j := 1) (v := 244) (by omega) rfl
  obtain ⟨p3, k3⟩ := p2.new (d := (0, 2)) (w := 2) s3 rfl
  obtain ⟨p4, k4, r4⟩ := p3.ref (a := 243) (j := 3) (v := 245) (by omega) rfl
  obtain ⟨p5, k5, r5⟩ := p4.ref (a := 243) (j := 0) (v := 223) (by omega) rfl
  have hS : ∀ i, i < 12 → SumSh (246 + 3 * i) ∧ RRf 244 i = some (246 + 3 * i) := sS
  obtain ⟨κ', m', j1, j2, j3, j4, j5, j6, j7⟩ := i_X4_l (N := N) (a := 243) (p := 244) (b := 246) hN s1 ⟨by omega, by omega⟩ s2 hS 12 0 N _ (wJ (wJ (zM (wI (zM m 244) 243 2 0) 245) 245 0 0) 245 1 1) rfl (by omega) p5 (k5 _ _ _ (k4 _ _ _ (k3 _ _ _ r2)))
  refine ⟨κ', m', ?_, j2, ((((k1.tr k2).tr k3).tr k4).tr k5).tr j3, fun a j v h1 h2 e => ?_, fun b j hb => ?_⟩
  · unfold F_X4_init
    refine k_rcv (h.o (by omega) s1) ?_
    refine k_nwA (n := 12) rfl (by omega) ?_
    rw [h.n]
    refine k_stR (p1.o (by omega) s1) ?_
    refine k_stI (p2.o (by omega) s1) ?_
    refine k_nwO ?_
    rw [p2.n]
    refine e_bnd (i_X2 (a := 245) s4 p3) ?_
    refine k_stR (p3.o (by omega) s1) ?_
    refine k_stR (p4.o (by omega) s1) ?_
    exact j1
  · by_cases w : 246 ≤ a
    · exact j4 a j v w h2 e
    · rcases (show a = 243 ∨ a = 244 ∨ a = 245 by omega) with rfl | rfl | rfl
      · have hl := rr_in sr e
        match j, hl with
        | 0, hl => rw [← Option.some.inj hl.2]; exact j3 _ _ _ r5
        | 1, hl => rw [← Option.some.inj hl.2]; exact j3 _ _ _ (k5 _ _ _ (k4 _ _ _ (k3 _ _ _ r2)))
        | 2, hl => cases hl.2
        | 3, hl => rw [← Option.some.inj hl.2]; exact j3 _ _ _ (k5 _ _ _ r4)
        | n + 4, hl => exact absurd hl.1 (by show ¬ n + 4 < 4; omega)
      · have hl := rr_in (l := rrL.getD 244 []) rfl e
        have hj : j < 12 := by omega
        have e2 := (hS j hj).2
        rw [e] at e2
        rw [e2]
        exact j5 j (Nat.zero_le _) hj
      · exact absurd e (rr_0 s0)
  · rw [(j6 b j (by omega)).1, (j6 b j (by omega)).2, rI_wJ, rI_wJ, rJ_n _ _ (by omega), rJ_n _ _ (by omega), zM_I, if_neg (by omega), zM_J, if_neg (by omega), rI_n _ _ (by omega), rJ_wI, zM_I, if_neg (by omega), zM_J, if_neg (by omega)]
    exact ⟨rfl, rfl⟩
end INIT2
