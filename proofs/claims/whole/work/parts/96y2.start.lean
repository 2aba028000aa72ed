section STRT
variable {N k : Nat} {m m' : vM} {s : vS} {κ κ' : (Nat × Nat) × (Nat → Nat × Nat) × (Nat → Nat → Option Nat)}
theorem x8S : (isOc 0 8 = true ∧ SHf 0 = (0, 8) ∧ SHf 1 = (0, 1) ∧ SHf 92 = (0, 1) ∧ SHf 223 = (0, 0) ∧ SHf 234 = (0, 7) ∧ SHf 243 = (0, 4) ∧ SHf 282 = (0, 2) ∧ SHf 283 = (0, 6) ∧ SHf 286 = (0, 3) ∧ SHf 289 = (0, 5) ∧ SHf 304 = (0, 3) ∧ SHf 307 = (0, 5) ∧ SHf 322 = (0, 9) ∧ isOc 282 2 = true) ∧ rrL.getD 0 [] = [some 1, some 92, some 223, some 234, some 243, some 282, some 283, some 286, some 289, some 304, some 307] ∧ rrL.getD 282 [] = [] := by decide +kernel
theorem ssh283 : SumSh 283 := by
  unfold SumSh
  decide +kernel
theorem nsh286 : NetS 286 := by
  unfold NetS
  decide +kernel
theorem nsh304 : NetS 304 := by
  unfold NetS
  decide +kernel
theorem hsh289 : ShS 289 := by
  unfold ShS SumSh
  decide +kernel
theorem hsh307 : ShS 307 := by
  unfold ShS SumSh
  decide +kernel
theorem i_X8 (hN : 1000 ≤ N) (h : Pr 1 κ) : ∃ κ' m', F_X8_init N 0 (G κ m) = some ((), G κ' m') ∧ Pr 322 κ' ∧ Cp 0 322 κ' ∧ FmG m' ∧ (∀ r, r < 29 → rI m' 224 r = nI (ba_ r) ∧ rI m' 225 r = nI (wy_ r)) ∧ rI m' 231 0 = 0 ∧ (∀ k, k < 29 → rowC m' 231 k = (if k = 0 then 1 else 0, 1)) ∧ rI m' 234 3 = 0 ∧ rI m' 286 0 = 0 ∧ (∀ j, rI m' 290 j = 0) ∧ (∀ j, j < 4 → SumC m' (292 + 3 * j) 2 row0) ∧ rI m' 0 11 = 0 := by
  obtain ⟨⟨s0, sh0, sh1, sh92, sh223, sh234, sh243, sh282, sh283, sh286, sh289, sh304, sh307, sh322, s282⟩, sr, sr282⟩ := x8S
  obtain ⟨p1, k1⟩ := h.new (d := (0, 1)) (w := vN 1) sh1 rfl
  obtain ⟨κ2, m2, x2, p2, k2, c2, z2, -, f2a, f2b, f2c⟩ := i_X1 (N := N) (q := false) (m := zM m 1) hN p1
  have x2 : F_X1_init N 1 0 19 (G (kN κ (0, 1) (vN 1)) (zM m 1)) = some ((), G κ2 m2) := x2
  have p2 : Pr 92 κ2 := p2
  have c2 : Cp 1 92 κ2 := c2
  obtain ⟨p3, k3, r3⟩ := p2.ref (a := 0) (j := 0) (v := 1) (by omega) rfl
  obtain ⟨p4, k4⟩ := p3.new (d := (0, 1)) (w := vN 1) sh92 rfl
  obtain ⟨κ5, m5, x5, p5, k5, c5, z5, -, f5a, f5b, f5c⟩ := i_X1 (N := N) (q := true) (m := zM m2 92) hN p4
  have x5 : F_X1_init N 92 1 29 (G (kN (kR κ2 0 0 1) (0, 1) (vN 1)) (zM m2 92)) = some ((), G κ5 m5) := x5
  have p5 : Pr 223 κ5 := p5
  have c5 : Cp 92 223 κ5 := c5
  obtain ⟨p6, k6, r6⟩ := p5.ref (a := 0) (j := 1) (v := 92) (by omega) rfl
  obtain ⟨p7, k7⟩ := p6.new (d := (0, 0)) (w := vN 0) sh223 rfl
  have z5 : Fz 92 (zM m2 92) m5 := z5
  have z25 : Fz 92 m2 m5 := (Fz_z (k := 92) (by omega)).tr z5 (Nat.le_refl _)
  have F5 : FmG (zM m5 223) := fun q => by
    cases q with
    | false =>
      refine (show FmQ false m2 from ⟨f2a, f2b, f2c⟩).fr (fun b j h1 h2 _ => ?_)
      have h2 : b < 92 := h2
      rw [zM_I, if_neg (by omega), (z25 b j h2).1]
    | true =>
      refine (show FmQ true m5 from ⟨f5a, f5b, f5c⟩).fr (fun b j h1 h2 _ => ?_)
      have h2 : b < 223 := h2
      rw [zM_I, if_neg (by omega)]
  have C7 : Cp 1 223 (kN (kR κ5 0 1 92) (0, 0) (vN 0)) := fun a j v h1 h2 e => by
    by_cases w : a < 92
    · exact (((((k3.tr k4).tr k5).tr k6).tr k7)) _ _ _ (c2 a j v h1 w e)
    · exact (k6.tr k7) _ _ _ (c5 a j v (by omega) h2 e)
  obtain ⟨κ8, m8, x8, p8, k8, c8, z8, f8a, f8b, f8c⟩ := i_X0 (N := N) hN p7 C7 F5
  obtain ⟨p9, k9, r9⟩ := p8.ref (a := 0) (j := 2) (v := 223) (by omega) rfl
  obtain ⟨p10, k10⟩ := p9.new (d := (0, 7)) (w := vN 7) sh234 rfl
  obtain ⟨κ11, m11, x11, p11, k11, c11, z11, f11⟩ := i_X7 (N := N) (m := zM m8 234) p10
  obtain ⟨p12, k12, r12⟩ := p11.ref (a := 0) (j := 3) (v := 234) (by omega) rfl
  obtain ⟨p13, k13⟩ := p12.new (d := (0, 4)) (w := vN 4) sh243 rfl
  obtain ⟨κ14, m14, x14, p14, k14, c14, z14⟩ := i_X4 (N := N) (m := zM m11 243) (by omega) p13
  obtain ⟨p15, k15, r15⟩ := p14.ref (a := 0) (j := 4) (v := 243) (by omega) rfl
  obtain ⟨p16, k16⟩ := p15.new (d := (0, 2)) (w := vN 2) sh282 rfl
  obtain ⟨mA, hmA⟩ : ∃ mA, mA = wJ (wJ (zM m14 282) 282 0 0) 282 1 1 := ⟨_, rfl⟩
  have x16 := i_X2 (N := N) (a := 282) (m := zM m14 282) s282 p16
  rw [← hmA] at x16
  obtain ⟨p17, k17, r17⟩ := p16.ref (a := 0) (j := 5) (v := 282) (by omega) rfl
  obtain ⟨p18, k18⟩ := p17.new (d := (0, 6)) (w := vN 6) sh283 rfl
  obtain ⟨κ19, m19, x19, p19, k19, c19, z19, -⟩ := i_X6 (N := N) (a := 283) (m := zM mA 283) (by omega) ssh283 p18
  obtain ⟨p20, k20, r20⟩ := p19.ref (a := 0) (j := 6) (v := 283) (by omega) rfl
  obtain ⟨p21, k21⟩ := p20.new (d := (0, 3)) (w := vN 3) sh286 rfl
  obtain ⟨κ22, m22, x22, p22, k22, c22, z22, f22, -⟩ := i_X3 (N := N) (a := 286) (m := zM m19 286) nsh286 p21
  obtain ⟨p23, k23, r23⟩ := p22.ref (a := 0) (j := 7) (v := 286) (by omega) rfl
  obtain ⟨p24, k24⟩ := p23.new (d := (0, 5)) (w := vN 5) sh289 rfl
  obtain ⟨κ25, m25, x25, p25, k25, c25, z25', f25a, f25b⟩ := i_X5 (N := N) (a := 289) (m := zM m22 289) (by omega) hsh289 p24
  obtain ⟨p26, k26, r26⟩ := p25.ref (a := 0) (j := 8) (v := 289) (by omega) rfl
  obtain ⟨p27, k27⟩ := p26.new (d := (0, 3)) (w := vN 3) sh304 rfl
  obtain ⟨κ28, m28, x28, p28, k28, c28, z28, -, -⟩ := i_X3 (N := N) (a := 304) (m := zM m25 304) nsh304 p27
  obtain ⟨p29, k29, r29⟩ := p28.ref (a := 0) (j := 9) (v := 304) (by omega) rfl
  obtain ⟨p30, k30⟩ := p29.new (d := (0, 5)) (w := vN 5) sh307 rfl
  obtain ⟨κ31, m31, x31, p31, k31, c31, z31, -, -⟩ := i_X5 (N := N) (a := 307) (m := zM m28 307) (by omega) hsh307 p30
  obtain ⟨p32, k32, r32⟩ := p31.ref (a := 0) (j := 10) (v := 307) (by omega) rfl
  have t31 := k32
  have t28 := ((k29.tr k30).tr k31).tr t31
  have t25 := ((k26.tr k27).tr k28).tr t28
  have t22 := ((k23.tr k24).tr k25).tr t25
  have t19 := ((k20.tr k21).tr k22).tr t22
  have t16 := ((k17.tr k18).tr k19).tr t19
  have t14 := (k15.tr k16).tr t16
  have t11 := ((k12.tr k13).tr k14).tr t14
  have t8 := ((k9.tr k10).tr k11).tr t11
  have t5 := ((k6.tr k7).tr k8).tr t8
  have t2 := ((k3.tr k4).tr k5).tr t5
  -- what stays
  have y28 : Fz 307 m28 m31 := (Fz_z (k := 307) (by omega)).tr z31 (by omega)
  have y25 : Fz 304 m25 m31 := ((Fz_z (k := 304) (by omega)).tr z28 (by omega)).tr y28 (by omega)
  have y22 : Fz 289 m22 m31 := ((Fz_z (k := 289) (by omega)).tr z25' (by omega)).tr y25 (by omega)
  have y19 : Fz 286 m19 m31 := ((Fz_z (k := 286) (by omega)).tr z22 (by omega)).tr y22 (by omega)
  have yA : Fz 283 mA m31 := ((Fz_z (k := 283) (by omega)).tr z19 (by omega)).tr y19 (by omega)
  have y14 : Fz 282 m14 m31 := (show Fz 282 m14 mA by
    rw [hmA]
    exact ((Fz_z (k := 282) (by omega)).tr (Fz_J (k := 282) (by omega)) (by omega)).tr (Fz_J (k := 282) (by omega)) (by omega)).tr yA (by omega)
  have y11 : Fz 243 m11 m31 := ((Fz_z (k := 243) (by omega)).tr z14 (by omega)).tr y14 (by omega)
  have y8 : Fz 234 m8 m31 := ((Fz_z (k := 234) (by omega)).tr z11 (by omega)).tr y11 (by omega)
  have nz : ∀ b j, 0 < b → rI (wI m31 0 11 0) b j = rI m31 b j := fun b j hb => rI_n _ _ (by omega)
  refine ⟨_, wI m31 0 11 0, ?_, p32, fun a j v h1 h2 e => ?_, ?_, fun r hr => ?_, ?_, fun k hk => ?_, ?_, ?_, fun j => ?_, fun j hj => ?_, rI_s _ _ _ _⟩
  · unfold F_X8_init
    refine k_rcv (h.o (by omega) s0) ?_
    refine k_nwO ?_
    rw [h.n]
    refine e_bnd x2 ?_
    refine k_stR (p2.o (by omega) s0) ?_
    refine k_nwO ?_
    rw [p3.n]
    refine e_bnd x5 ?_
    refine k_stR (p5.o (by omega) s0) ?_
    refine k_nwO ?_
    rw [p6.n]
    refine k_ldR (p7.o (by omega) s0) (((k4.tr k5).tr (k6.tr k7)) _ _ _ r3) ?_
    refine k_ldR (p7.o (by omega) s0) (k7 _ _ _ r6) ?_
    refine e_bnd x8 ?_
    refine k_stR (p8.o (by omega) s0) ?_
    refine k_nwO ?_
    rw [p9.n]
    refine k_ldR (p10.o (by omega) s0) ((((k4.tr k5).tr (k6.tr k7)).tr (k8.tr (k9.tr k10))) _ _ _ r3) ?_
    refine k_ldR (p10.o (by omega) s0) ((k7.tr (k8.tr (k9.tr k10))) _ _ _ r6) ?_
    refine e_bnd x11 ?_
    refine k_stR (p11.o (by omega) s0) ?_
    refine k_nwO ?_
    rw [p12.n]
    refine k_ldR (p13.o (by omega) s0) ((k10.tr (k11.tr (k12.tr k13))) _ _ _ r9) ?_
    refine e_bnd x14 ?_
    refine k_stR (p14.o (by omega) s0) ?_
    refine k_nwO ?_
    rw [p15.n]
    refine e_bnd x16 ?_
    refine k_stR (p16.o (by omega) s0) ?_
    refine k_nwO ?_
    rw [p17.n]
    refine e_bnd x19 ?_
    refine k_stR (p19.o (by omega) s0) ?_
    refine k_nwO ?_
    rw [p20.n]
    refine e_bnd x22 ?_
    refine k_stR (p22.o (by omega) s0) ?_
    refine k_nwO ?_
    rw [p23.n]
    refine e_bnd x25 ?_
    refine k_stR (p25.o (by omega) s0) ?_
    refine k_nwO ?_
    rw [p26.n]
    refine e_bnd x28 ?_
    refine k_stR (p28.o (by omega) s0) ?_
    refine k_nwO ?_
    rw [p29.n]
    refine e_bnd x31 ?_
    refine k_stR (p31.o (by omega) s0) ?_
    refine k_stZ (p32.o (by omega) s0) (Or.inl rfl) ?_
    rfl
  · rcases (show a = 0 ∨ (1 ≤ a ∧ a < 92) ∨ (92 ≤ a ∧ a < 223) ∨ (223 ≤ a ∧ a < 234) ∨ (234 ≤ a ∧ a < 243) ∨ (243 ≤ a ∧ a < 282) ∨ a = 282 ∨ (283 ≤ a ∧ a < 286) ∨ (286 ≤ a ∧ a < 289) ∨ (289 ≤ a ∧ a < 304) ∨ (304 ≤ a ∧ a < 307) ∨ 307 ≤ a by omega) with w | w | w | w | w | w | w | w | w | w | w | w
    · subst w
      have hl := rr_in sr e
      match j, hl with
      | 0, hl => rw [← Option.some.inj hl.2]; exact ((k4.tr k5).tr t5) _ _ _ r3
      | 1, hl => rw [← Option.some.inj hl.2]; exact ((k7.tr k8).tr t8) _ _ _ r6
      | 2, hl => rw [← Option.some.inj hl.2]; exact ((k10.tr k11).tr t11) _ _ _ r9
      | 3, hl => rw [← Option.some.inj hl.2]; exact ((k13.tr k14).tr t14) _ _ _ r12
      | 4, hl => rw [← Option.some.inj hl.2]; exact (k16.tr t16) _ _ _ r15
      | 5, hl => rw [← Option.some.inj hl.2]; exact ((k18.tr k19).tr t19) _ _ _ r17
      | 6, hl => rw [← Option.some.inj hl.2]; exact ((k21.tr k22).tr t22) _ _ _ r20
      | 7, hl => rw [← Option.some.inj hl.2]; exact ((k24.tr k25).tr t25) _ _ _ r23
      | 8, hl => rw [← Option.some.inj hl.2]; exact ((k27.tr k28).tr t28) _ _ _ r26
      | 9, hl => rw [← Option.some.inj hl.2]; exact ((k30.tr k31).tr t31) _ _ _ r29
      | 10, hl => rw [← Option.some.inj hl.2]; exact r32
      | n + 11, hl => exact absurd hl.1 (by show ¬ n + 11 < 11; omega)
    · exact t2 _ _ _ (c2 a j v w.1 w.2 e)
    · exact t5 _ _ _ (c5 a j v w.1 w.2 e)
    · exact t8 _ _ _ (c8 a j v w.1 w.2 e)
    · exact t11 _ _ _ (c11 a j v w.1 w.2 e)
    · exact t14 _ _ _ (c14 a j v w.1 w.2 e)
    · rw [w] at e
      exact absurd e (rr_0 sr282)
    · exact t19 _ _ _ (c19 a j v w.1 w.2 e)
    · exact t22 _ _ _ (c22 a j v w.1 w.2 e)
    · exact t25 _ _ _ (c25 a j v w.1 w.2 e)
    · exact t28 _ _ _ (c28 a j v w.1 w.2 e)
    · exact t31 _ _ _ (c31 a j v w h2 e)
  · refine F5.fr (fun b j h1 h2 h3 => ?_)
    rw [nz b j h1, (y8 b j (by omega)).1, z8.i (by
      rintro (w | ⟨k, w, _⟩)
      · omega
      · exact h3 k w)]
  · rw [nz _ _ (by omega), nz _ _ (by omega), (y8 _ _ (by omega)).1, (y8 _ _ (by omega)).1]
    exact f8a r hr
  · rw [nz _ _ (by omega), (y8 _ _ (by omega)).1]
    exact f8b
  · rw [← f8c k hk]
    show (rJ m31 232 k, rJ m31 233 k) = (rJ m8 232 k, rJ m8 233 k)
    rw [(y8 _ _ (by omega)).2, (y8 _ _ (by omega)).2]
  · rw [nz _ _ (by omega), (y11 _ _ (by omega)).1]
    exact f11
  · rw [nz _ _ (by omega), (y22 _ _ (by omega)).1]
    exact f22
  · rw [nz _ _ (by omega), (y25 _ _ (by omega)).1]
    exact f25a j
  · refine (show SumC m25 (292 + 3 * j) 2 row0 from f25b j hj).same (fun b i hb => ?_)
    rw [nz _ _ (by omega)]
    exact y25 b i (by omega)
theorem shl_len : shL.length = 354 ∧ rrL.length ≤ 354 ∧ (354, zz 354) = ((354, 6966) : Nat × Nat) := by decide +kernel
theorem G_S (h : Pr 354 κ) (hC : Cp 0 354 κ) : G κ m = S m := by
  obtain ⟨l1, l2, l3⟩ := shl_len
  obtain ⟨h1, h2, h3, h4, h5⟩ := id h
  have e1 : κ.1 = (354, 6966) := h1.trans l3
  have e2 : κ.2.1 = SHf := by
    funext a
    by_cases w : a < 354
    · exact h2 a w
    · rw [h3 a (by omega)]
      unfold SHf
      rw [List.getD_eq_getElem?_getD, List.getElem?_eq_none (by omega)]
      rfl
  have e3 : κ.2.2 = RRf := by
    funext a j
    by_cases w : a < 354
    · cases e : RRf a j with
      | some v => exact hC a j v (Nat.zero_le _) w e
      | none =>
        cases e' : κ.2.2 a j with
        | none => rfl
        | some v =>
          have := h4 a j v e'
          rw [e] at this
          cases this
    · rw [h5 a j (by omega)]
      unfold RRf
      rw [List.getD_eq_getElem?_getD (l := rrL), List.getElem?_eq_none (by omega)]
      rfl
  show (κ.1, κ.2.1, m.1, m.2, κ.2.2) = _
  rw [e1, e2, e3]
  rfl
theorem Tab_of (hF : FmG m) (hM : TabM m) (h7 : ∀ r, r < 29 → rI m 224 r = nI (ba_ r) ∧ rI m 225 r = nI (wy_ r)) (h8 : rI m 231 0 = 0) (h9 : ∀ k, k < 29 → rowC m 231 k = (if k = 0 then 1 else 0, 1)) : Tab m :=
  ⟨fun q => ⟨(hF q).1.1, (hF q).1.2.1, (hF q).1.2.2.1⟩, fun q k hk => ⟨((hF q).2.1.1 k hk).1, ((hF q).2.1.1 k hk).2, ((hF q).2.2 k hk).1, (hM.1 q k hk).1, (hM.1 q k hk).2⟩, fun q size code a1 a2 a3 => ⟨(hF q).2.1.2.1 size code a1 a2 a3, hM.2 q size code a1 a2 a3⟩, fun q size hs => (hF q).2.1.2.2 size hs, fun q k set hk hs => ((hF q).2.2 k hk).2 set hs, fun q j hj => (hF q).1.2.2.2 j hj, h7, h8, h9⟩
def kz0 : (Nat × Nat) × (Nat → Nat × Nat) × (Nat → Nat → Option Nat) := ((0, 0), fun _ => (0, 0), fun _ _ => none)
def mz0 : vM := (fun _ _ => 0, fun _ _ => 0)
theorem Pr0 : Pr 0 kz0 := ⟨rfl, fun a h => absurd h (Nat.not_lt_zero _), fun _ _ => rfl, fun a j v e => absurd (show (none : Option Nat) = some v from e) (fun w => by cases w), fun _ _ _ => rfl⟩
theorem law_start (hN : 1000 ≤ N) {L : Nat} {xs : Nat → Int32} : ∃ m, Rel m ∧ F_L_law N L xs s0 = H_L_law_18 N L xs N 0 322 (nI 0) (S m) := by
  obtain ⟨⟨o0, sh0, sh1, sh92, sh223, sh234, sh243, sh282, sh283, sh286, sh289, sh304, sh307, sh322, s282⟩, sr, sr282⟩ := x8S
  obtain ⟨p1, k1⟩ := Pr0.new (d := (0, 8)) (w := vN 8) sh0 rfl
  obtain ⟨κ2, m2, x2, p2, c2, hF, f1, f2, f3, f4, f5, f6, f7, f8⟩ := i_X8 (N := N) (m := zM mz0 0) hN p1
  obtain ⟨p3, k3⟩ := p2.new (d := (0, 9)) (w := vN 9) sh322 rfl
  obtain ⟨κ4, m4, x4, p4, k4, c4, z4⟩ := i_X9a (N := N) (m := zM m2 322) p3
  have cc : Cp 0 354 κ4 := fun a j v h1 h2 e => by
    by_cases w : a < 322
    · exact (k3.tr k4) _ _ _ (c2 a j v h1 w e)
    · exact c4 a j v (by omega) h2 e
  obtain ⟨m5, y1, y2, y3⟩ := m_layTables (N := N) (m := m4) hN
  have x9 : F_X9_init N 322 (G (kN κ2 (0, 9) (vN 9)) (zM m2 322)) = some ((), S m5) := x4 _ (by
    rw [G_S p4 cc]
    exact e_bnd y1 rfl)
  have lo : ∀ b j, b < 322 → rI m5 b j = rI m2 b j ∧ rJ m5 b j = rJ m2 b j := fun b j hb => by
    rw [y2.i (by omega), y2.j (by omega), ((z4 b j).2 (by omega)).1, ((z4 b j).2 (by omega)).2, zM_I, zM_J, if_neg (by omega), if_neg (by omega)]
    exact ⟨rfl, rfl⟩
  have m322 : ∀ j, rI m5 322 j = 0 := fun j => by
    rw [y2.i (by omega), ((z4 322 j).2 (by omega)).1, zM_I, if_pos rfl]
  have m330 : ∀ j, rI m5 330 j = 0 := fun j => by
    rw [y2.i (by omega), ((z4 330 j).1 (by omega)).1]
  refine ⟨m5, ⟨Tab_of (hF.fr (fun b j _ hb _ => (lo b j (by omega)).1)) y3 (fun r hr => by rw [(lo _ _ (by omega)).1, (lo _ _ (by omega)).1]; exact f1 r hr) (by rw [(lo _ _ (by omega)).1]; exact f2) (fun k hk => by
    rw [← f3 k hk]
    show (rJ m5 232 k, rJ m5 233 k) = (rJ m2 232 k, rJ m2 233 k)
    rw [(lo _ _ (by omega)).2, (lo _ _ (by omega)).2]), ⟨0, fun _ => 0, by omega, fun i j hi _ => absurd hi (Nat.not_lt_zero _), fun i hi => absurd hi (Nat.not_lt_zero _), by rw [(lo _ _ (by omega)).1]; exact f5, m322 5, fun i hi => absurd hi (Nat.not_lt_zero _)⟩, fun st hs => Or.inl ⟨by rw [(lo _ _ (by omega)).1]; exact f6 st, m330 st, (f7 st hs).same (fun b j hb => lo b j (by omega))⟩, ⟨0, fun _ => 0, by omega, by rw [(lo _ _ (by omega)).1]; exact f4, m322 13, fun i hi => absurd hi (Nat.not_lt_zero _)⟩, Or.inl ⟨by rw [(lo _ _ (by omega)).1]; exact f8, m322 15⟩⟩, ?_⟩
  unfold F_L_law
  show nwO (G kz0 mz0) 8 _ = _
  refine k_nwO ?_
  show bnd (F_X8_init N 0 (G (kN kz0 (0, 8) (vN 8)) (zM mz0 0))) _ = _
  refine e_bnd x2 ?_
  refine k_nwO ?_
  rw [p2.n]
  exact e_bnd x9 rfl
end STRT
