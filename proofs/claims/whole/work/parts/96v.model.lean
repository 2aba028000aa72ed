section MODL
variable {N k : Nat} {m m' : vM} {s : vS} {κ κ' : (Nat × Nat) × (Nat → Nat × Nat) × (Nat → Nat → Option Nat)}
/-- new cells are empty, the others stay -/
def Zr (k k' : Nat) (m m' : vM) : Prop := ∀ b j, (k ≤ b ∧ b < k' → rI m' b j = 0 ∧ rJ m' b j = 0) ∧ (¬ (k ≤ b ∧ b < k') → rI m' b j = rI m b j ∧ rJ m' b j = rJ m b j)
theorem Zr.step {k' : Nat} (h : Zr k k' m m') (hk : k ≤ k') : Zr k (k' + 1) m (zM m' k') := fun b j => by
  rw [zM_I, zM_J]
  by_cases z : b = k'
  · rw [if_pos z, if_pos z]
    exact ⟨fun _ => ⟨rfl, rfl⟩, fun w => absurd ⟨by omega, by omega⟩ w⟩
  · rw [if_neg z, if_neg z]
    exact ⟨fun w => (h b j).1 (by omega), fun w => (h b j).2 (by omega)⟩
theorem Zr.rf : Zr k k m m := fun b j => ⟨fun w => by omega, fun _ => ⟨rfl, rfl⟩⟩
theorem mo_sh : isOc 322 9 = true ∧ ∀ a, a < 354 → 323 ≤ a → rrL.getD a [] = [] := by decide +kernel
theorem i_X9a (h : Pr 323 κ) : ∃ κ' m', (∀ R, bnd (F_X9_layTables N 322 (G κ' m')) (fun v32 s => some ((), s)) = R → F_X9_init N 322 (G κ m) = R) ∧ Pr 354 κ' ∧ Kp κ κ' ∧ Cp 322 354 κ' ∧ Zr 323 354 m m' := by
  obtain ⟨s1, s0⟩ := mo_sh
  obtain ⟨p1, k1⟩ := h.new (d := (1, 48)) (w := 48) (by decide +kernel) rfl
  obtain ⟨p2, k2, r2⟩ := p1.ref (a := 322) (j := 0) (v := 323) (by omega) (by decide +kernel)
  obtain ⟨p3, k3⟩ := p2.new (d := (1, 48)) (w := 48) (by decide +kernel) rfl
  obtain ⟨p4, k4, r4⟩ := p3.ref (a := 322) (j := 1) (v := 324) (by omega) (by decide +kernel)
  obtain ⟨p5, k5⟩ := p4.new (d := (1, 320)) (w := 320) (by decide +kernel) rfl
  obtain ⟨p6, k6, r6⟩ := p5.ref (a := 322) (j := 2) (v := 325) (by omega) (by decide +kernel)
  obtain ⟨p7, k7⟩ := p6.new (d := (1, 320)) (w := 320) (by decide +kernel) rfl
  obtain ⟨p8, k8, r8⟩ := p7.ref (a := 322) (j := 3) (v := 326) (by omega) (by decide +kernel)
  obtain ⟨p9, k9⟩ := p8.new (d := (1, 4)) (w := 4) (by decide +kernel) rfl
  obtain ⟨p10, k10, r10⟩ := p9.ref (a := 322) (j := 4) (v := 327) (by omega) (by decide +kernel)
  obtain ⟨p11, k11⟩ := p10.new (d := (1, 8)) (w := 8) (by decide +kernel) rfl
  obtain ⟨p12, k12, r12⟩ := p11.ref (a := 322) (j := 6) (v := 328) (by omega) (by decide +kernel)
  obtain ⟨p13, k13⟩ := p12.new (d := (1, 8)) (w := 8) (by decide +kernel) rfl
  obtain ⟨p14, k14, r14⟩ := p13.ref (a := 322) (j := 8) (v := 329) (by omega) (by decide +kernel)
  obtain ⟨p15, k15⟩ := p14.new (d := (3, 4)) (w := 4) (by decide +kernel) rfl
  obtain ⟨p16, k16, r16⟩ := p15.ref (a := 322) (j := 9) (v := 330) (by omega) (by decide +kernel)
  obtain ⟨p17, k17⟩ := p16.new (d := (1, 16)) (w := 16) (by decide +kernel) rfl
  obtain ⟨p18, k18, r18⟩ := p17.ref (a := 322) (j := 10) (v := 331) (by omega) (by decide +kernel)
  obtain ⟨p19, k19⟩ := p18.new (d := (2, 464)) (w := 464) (by decide +kernel) rfl
  obtain ⟨p20, k20, r20⟩ := p19.ref (a := 322) (j := 11) (v := 332) (by omega) (by decide +kernel)
  obtain ⟨p21, k21⟩ := p20.new (d := (2, 464)) (w := 464) (by decide +kernel) rfl
  obtain ⟨p22, k22, r22⟩ := p21.ref (a := 322) (j := 12) (v := 333) (by omega) (by decide +kernel)
  obtain ⟨p23, k23⟩ := p22.new (d := (1, 60)) (w := 60) (by decide +kernel) rfl
  obtain ⟨p24, k24, r24⟩ := p23.ref (a := 322) (j := 14) (v := 334) (by omega) (by decide +kernel)
  obtain ⟨p25, k25⟩ := p24.new (d := (1, 8)) (w := 8) (by decide +kernel) rfl
  obtain ⟨p26, k26, r26⟩ := p25.ref (a := 322) (j := 17) (v := 335) (by omega) (by decide +kernel)
  obtain ⟨p27, k27⟩ := p26.new (d := (3, 4)) (w := 4) (by decide +kernel) rfl
  obtain ⟨p28, k28, r28⟩ := p27.ref (a := 322) (j := 18) (v := 336) (by omega) (by decide +kernel)
  obtain ⟨p29, k29⟩ := p28.new (d := (1, 4)) (w := 4) (by decide +kernel) rfl
  obtain ⟨p30, k30, r30⟩ := p29.ref (a := 322) (j := 19) (v := 337) (by omega) (by decide +kernel)
  obtain ⟨p31, k31⟩ := p30.new (d := (2, 116)) (w := 116) (by decide +kernel) rfl
  obtain ⟨p32, k32, r32⟩ := p31.ref (a := 322) (j := 20) (v := 338) (by omega) (by decide +kernel)
  obtain ⟨p33, k33⟩ := p32.new (d := (2, 116)) (w := 116) (by decide +kernel) rfl
  obtain ⟨p34, k34, r34⟩ := p33.ref (a := 322) (j := 21) (v := 339) (by omega) (by decide +kernel)
  obtain ⟨p35, k35⟩ := p34.new (d := (1, 8)) (w := 8) (by decide +kernel) rfl
  obtain ⟨p36, k36, r36⟩ := p35.ref (a := 322) (j := 22) (v := 340) (by omega) (by decide +kernel)
  obtain ⟨p37, k37⟩ := p36.new (d := (1, 16)) (w := 16) (by decide +kernel) rfl
  obtain ⟨p38, k38, r38⟩ := p37.ref (a := 322) (j := 26) (v := 341) (by omega) (by decide +kernel)
  obtain ⟨p39, k39⟩ := p38.new (d := (1, 19)) (w := 19) (by decide +kernel) rfl
  obtain ⟨p40, k40, r40⟩ := p39.ref (a := 322) (j := 27) (v := 342) (by omega) (by decide +kernel)
  obtain ⟨p41, k41⟩ := p40.new (d := (1, 11)) (w := 11) (by decide +kernel) rfl
  obtain ⟨p42, k42, r42⟩ := p41.ref (a := 322) (j := 28) (v := 343) (by omega) (by decide +kernel)
  obtain ⟨p43, k43⟩ := p42.new (d := (1, 60)) (w := 60) (by decide +kernel) rfl
  obtain ⟨p44, k44, r44⟩ := p43.ref (a := 322) (j := 31) (v := 344) (by omega) (by decide +kernel)
  obtain ⟨p45, k45⟩ := p44.new (d := (1, 60)) (w := 60) (by decide +kernel) rfl
  obtain ⟨p46, k46, r46⟩ := p45.ref (a := 322) (j := 32) (v := 345) (by omega) (by decide +kernel)
  obtain ⟨p47, k47⟩ := p46.new (d := (1, 60)) (w := 60) (by decide +kernel) rfl
  obtain ⟨p48, k48, r48⟩ := p47.ref (a := 322) (j := 33) (v := 346) (by omega) (by decide +kernel)
  obtain ⟨p49, k49⟩ := p48.new (d := (1, 60)) (w := 60) (by decide +kernel) rfl
  obtain ⟨p50, k50, r50⟩ := p49.ref (a := 322) (j := 34) (v := 347) (by omega) (by decide +kernel)
  obtain ⟨p51, k51⟩ := p50.new (d := (1, 3)) (w := 3) (by decide +kernel) rfl
  obtain ⟨p52, k52, r52⟩ := p51.ref (a := 322) (j := 36) (v := 348) (by omega) (by decide +kernel)
  obtain ⟨p53, k53⟩ := p52.new (d := (3, 4)) (w := 4) (by decide +kernel) rfl
  obtain ⟨p54, k54, r54⟩ := p53.ref (a := 322) (j := 38) (v := 349) (by omega) (by decide +kernel)
  obtain ⟨p55, k55⟩ := p54.new (d := (3, 4)) (w := 4) (by decide +kernel) rfl
  obtain ⟨p56, k56, r56⟩ := p55.ref (a := 322) (j := 39) (v := 350) (by omega) (by decide +kernel)
  obtain ⟨p57, k57⟩ := p56.new (d := (1, 4)) (w := 4) (by decide +kernel) rfl
  obtain ⟨p58, k58, r58⟩ := p57.ref (a := 322) (j := 40) (v := 351) (by omega) (by decide +kernel)
  obtain ⟨p59, k59⟩ := p58.new (d := (1, 4)) (w := 4) (by decide +kernel) rfl
  obtain ⟨p60, k60, r60⟩ := p59.ref (a := 322) (j := 41) (v := 352) (by omega) (by decide +kernel)
  obtain ⟨p61, k61⟩ := p60.new (d := (1, 4)) (w := 4) (by decide +kernel) rfl
  obtain ⟨p62, k62, r62⟩ := p61.ref (a := 322) (j := 42) (v := 353) (by omega) (by decide +kernel)
  have t60 := k61.tr k62
  have t58 := (k59.tr k60).tr t60
  have t56 := (k57.tr k58).tr t58
  have t54 := (k55.tr k56).tr t56
  have t52 := (k53.tr k54).tr t54
  have t50 := (k51.tr k52).tr t52
  have t48 := (k49.tr k50).tr t50
  have t46 := (k47.tr k48).tr t48
  have t44 := (k45.tr k46).tr t46
  have t42 := (k43.tr k44).tr t44
  have t40 := (k41.tr k42).tr t42
  have t38 := (k39.tr k40).tr t40
  have t36 := (k37.tr k38).tr t38
  have t34 := (k35.tr k36).tr t36
  have t32 := (k33.tr k34).tr t34
  have t30 := (k31.tr k32).tr t32
  have t28 := (k29.tr k30).tr t30
  have t26 := (k27.tr k28).tr t28
  have t24 := (k25.tr k26).tr t26
  have t22 := (k23.tr k24).tr t24
  have t20 := (k21.tr k22).tr t22
  have t18 := (k19.tr k20).tr t20
  have t16 := (k17.tr k18).tr t18
  have t14 := (k15.tr k16).tr t16
  have t12 := (k13.tr k14).tr t14
  have t10 := (k11.tr k12).tr t12
  have t8 := (k9.tr k10).tr t10
  have t6 := (k7.tr k8).tr t8
  have t4 := (k5.tr k6).tr t6
  have t2 := (k3.tr k4).tr t4
  have z0 : Zr 323 323 m m := Zr.rf
  have z1 := z0.step (by omega)
  have z2 := z1.step (by omega)
  have z3 := z2.step (by omega)
  have z4 := z3.step (by omega)
  have z5 := z4.step (by omega)
  have z6 := z5.step (by omega)
  have z7 := z6.step (by omega)
  have z8 := z7.step (by omega)
  have z9 := z8.step (by omega)
  have z10 := z9.step (by omega)
  have z11 := z10.step (by omega)
  have z12 := z11.step (by omega)
  have z13 := z12.step (by omega)
  have z14 := z13.step (by omega)
  have z15 := z14.step (by omega)
  have z16 := z15.step (by omega)
  have z17 := z16.step (by omega)
  have z18 := z17.step (by omega)
  have z19 := z18.step (by omega)
  have z20 := z19.step (by omega)
  have z21 := z20.step (by omega)
  have z22 := z21.step (by omega)
  have z23 := z22.step (by omega)
  have z24 := z23.step (by omega)
  have z25 := z24.step (by omega)
  have z26 := z25.step (by omega)
  have z27 := z26.step (by omega)
  have z28 := z27.step (by omega)
  have z29 := z28.step (by omega)
  have z30 := z29.step (by omega)
  have z31 := z30.step (by omega)
  refine ⟨_, _, fun R hR => ?_, p62, (k1.tr k2).tr t2, fun a j v h1 h2 e => ?_, z31⟩
  · unfold F_X9_init
    refine k_rcv (h.o (by omega) s1) ?_
    refine k_nwA (n := 48) rfl (by omega) ?_
    rw [h.n]
    refine k_stR (p1.o (by omega) s1) ?_
    refine k_nwA (n := 48) rfl (by omega) ?_
    rw [p2.n]
    refine k_stR (p3.o (by omega) s1) ?_
    refine k_nwA (n := 320) rfl (by omega) ?_
    rw [p4.n]
    refine k_stR (p5.o (by omega) s1) ?_
    refine k_nwA (n := 320) rfl (by omega) ?_
    rw [p6.n]
    refine k_stR (p7.o (by omega) s1) ?_
    refine k_nwA (n := 4) rfl (by omega) ?_
    rw [p8.n]
    refine k_stR (p9.o (by omega) s1) ?_
    refine k_nwA (n := 8) rfl (by omega) ?_
    rw [p10.n]
    refine k_stR (p11.o (by omega) s1) ?_
    refine k_nwA (n := 8) rfl (by omega) ?_
    rw [p12.n]
    refine k_stR (p13.o (by omega) s1) ?_
    refine k_nwA (n := 4) rfl (by omega) ?_
    rw [p14.n]
    refine k_stR (p15.o (by omega) s1) ?_
    refine k_nwA (n := 16) rfl (by omega) ?_
    rw [p16.n]
    refine k_stR (p17.o (by omega) s1) ?_
    refine k_nwA (n := 464) rfl (by omega) ?_
    rw [p18.n]
    refine k_stR (p19.o (by omega) s1) ?_
    refine k_nwA (n := 464) rfl (by omega) ?_
    rw [p20.n]
    refine k_stR (p21.o (by omega) s1) ?_
    refine k_nwA (n := 60) rfl (by omega) ?_
    rw [p22.n]
    refine k_stR (p23.o (by omega) s1) ?_
    refine k_nwA (n := 8) rfl (by omega) ?_
    rw [p24.n]
    refine k_stR (p25.o (by omega) s1) ?_
    refine k_nwA (n := 4) rfl (by omega) ?_
    rw [p26.n]
    refine k_stR (p27.o (by omega) s1) ?_
    refine k_nwA (n := 4) rfl (by omega) ?_
    rw [p28.n]
    refine k_stR (p29.o (by omega) s1) ?_
    refine k_nwA (n := 116) rfl (by omega) ?_
    rw [p30.n]
    refine k_stR (p31.o (by omega) s1) ?_
    refine k_nwA (n := 116) rfl (by omega) ?_
    rw [p32.n]
    refine k_stR (p33.o (by omega) s1) ?_
    refine k_nwA (n := 8) rfl (by omega) ?_
    rw [p34.n]
    refine k_stR (p35.o (by omega) s1) ?_
    refine k_nwA (n := 16) rfl (by omega) ?_
    rw [p36.n]
    refine k_stR (p37.o (by omega) s1) ?_
    refine k_nwA (n := 19) rfl (by omega) ?_
    rw [p38.n]
    refine k_stR (p39.o (by omega) s1) ?_
    refine k_nwA (n := 11) rfl (by omega) ?_
    rw [p40.n]
    refine k_stR (p41.o (by omega) s1) ?_
    refine k_nwA (n := 60) rfl (by omega) ?_
    rw [p42.n]
    refine k_stR (p43.o (by omega) s1) ?_
    refine k_nwA (n := 60) rfl (by omega) ?_
    rw [p44.n]
    refine k_stR (p45.o (by omega) s1) ?_
    refine k_nwA (n := 60) rfl (by omega) ?_
    rw [p46.n]
    refine k_stR (p47.o (by omega) s1) ?_
    refine k_nwA (n := 60) rfl (by omega) ?_
    rw [p48.n]
    refine k_stR (p49.o (by omega) s1) ?_
    refine k_nwA (n := 3) rfl (by omega) ?_
    rw [p50.n]
    refine k_stR (p51.o (by omega) s1) ?_
    refine k_nwA (n := 4) rfl (by omega) ?_
    rw [p52.n]
    refine k_stR (p53.o (by omega) s1) ?_
    refine k_nwA (n := 4) rfl (by omega) ?_
    rw [p54.n]
    refine k_stR (p55.o (by omega) s1) ?_
    refine k_nwA (n := 4) rfl (by omega) ?_
    rw [p56.n]
    refine k_stR (p57.o (by omega) s1) ?_
    refine k_nwA (n := 4) rfl (by omega) ?_
    rw [p58.n]
    refine k_stR (p59.o (by omega) s1) ?_
    refine k_nwA (n := 4) rfl (by omega) ?_
    rw [p60.n]
    refine k_stR (p61.o (by omega) s1) ?_
    exact hR
  · by_cases w : a = 322
    · subst w
      have hl := rr_in (l := rrL.getD 322 []) rfl e
      match j, hl with
      | 0, hl => rw [← Option.some.inj hl.2]; exact t2 _ _ _ r2
      | 1, hl => rw [← Option.some.inj hl.2]; exact t4 _ _ _ r4
      | 2, hl => rw [← Option.some.inj hl.2]; exact t6 _ _ _ r6
      | 3, hl => rw [← Option.some.inj hl.2]; exact t8 _ _ _ r8
      | 4, hl => rw [← Option.some.inj hl.2]; exact t10 _ _ _ r10
      | 5, hl => cases hl.2
      | 6, hl => rw [← Option.some.inj hl.2]; exact t12 _ _ _ r12
      | 7, hl => cases hl.2
      | 8, hl => rw [← Option.some.inj hl.2]; exact t14 _ _ _ r14
      | 9, hl => rw [← Option.some.inj hl.2]; exact t16 _ _ _ r16
      | 10, hl => rw [← Option.some.inj hl.2]; exact t18 _ _ _ r18
      | 11, hl => rw [← Option.some.inj hl.2]; exact t20 _ _ _ r20
      | 12, hl => rw [← Option.some.inj hl.2]; exact t22 _ _ _ r22
      | 13, hl => cases hl.2
      | 14, hl => rw [← Option.some.inj hl.2]; exact t24 _ _ _ r24
      | 15, hl => cases hl.2
      | 16, hl => cases hl.2
      | 17, hl => rw [← Option.some.inj hl.2]; exact t26 _ _ _ r26
      | 18, hl => rw [← Option.some.inj hl.2]; exact t28 _ _ _ r28
      | 19, hl => rw [← Option.some.inj hl.2]; exact t30 _ _ _ r30
      | 20, hl => rw [← Option.some.inj hl.2]; exact t32 _ _ _ r32
      | 21, hl => rw [← Option.some.inj hl.2]; exact t34 _ _ _ r34
      | 22, hl => rw [← Option.some.inj hl.2]; exact t36 _ _ _ r36
      | 23, hl => cases hl.2
      | 24, hl => cases hl.2
      | 25, hl => cases hl.2
      | 26, hl => rw [← Option.some.inj hl.2]; exact t38 _ _ _ r38
      | 27, hl => rw [← Option.some.inj hl.2]; exact t40 _ _ _ r40
      | 28, hl => rw [← Option.some.inj hl.2]; exact t42 _ _ _ r42
      | 29, hl => cases hl.2
      | 30, hl => cases hl.2
      | 31, hl => rw [← Option.some.inj hl.2]; exact t44 _ _ _ r44
      | 32, hl => rw [← Option.some.inj hl.2]; exact t46 _ _ _ r46
      | 33, hl => rw [← Option.some.inj hl.2]; exact t48 _ _ _ r48
      | 34, hl => rw [← Option.some.inj hl.2]; exact t50 _ _ _ r50
      | 35, hl => cases hl.2
      | 36, hl => rw [← Option.some.inj hl.2]; exact t52 _ _ _ r52
      | 37, hl => cases hl.2
      | 38, hl => rw [← Option.some.inj hl.2]; exact t54 _ _ _ r54
      | 39, hl => rw [← Option.some.inj hl.2]; exact t56 _ _ _ r56
      | 40, hl => rw [← Option.some.inj hl.2]; exact t58 _ _ _ r58
      | 41, hl => rw [← Option.some.inj hl.2]; exact t60 _ _ _ r60
      | 42, hl => rw [← Option.some.inj hl.2]; exact r62
      | n + 43, hl => exact absurd hl.1 (by show ¬ n + 43 < 43; omega)
    · exact absurd e (rr_0 (s0 a h2 (by omega)))
end MODL
