section FAML
variable {N k : Nat} {m m' : vM} {s : vS} {κ κ' : (Nat × Nat) × (Nat → Nat × Nat) × (Nat → Nat → Option Nat)}
theorem foL : ∀ q, rrL.getD (fo q) [] = [none, none, none, some (aSz q), some (aCd q), some (aNs q), some (aFs q), some (aNn q), some (aOo q), some (aRe q), some (aTa q), some (aCo q)] := by decide +kernel
theorem fo0 : ∀ q, rrL.getD (aFs q) [] = [] ∧ rrL.getD (aRe q) [] = [] ∧ rrL.getD (aSz q) [] = [] ∧ rrL.getD (aCd q) [] = [] ∧ rrL.getD (aTa q) [] = [] ∧ rrL.getD (aCo q) [] = [] ∧ (rrL.getD (aNn q) []).length = 5 ∧ (rrL.getD (aOo q) []).length = mny q ∧ (rrL.getD (aNs q) []).length = mny q ∧ (∀ k, k < 5 → rrL.getD (aNu q + k) [] = []) ∧ ∀ k, k < mny q → rrL.getD (aOn q + k) [] = [] := by decide +kernel
theorem shq2 : ∀ q, SHf (aTa q) = (1, mny q) ∧ SHf (aCo q) = (1, mny q) ∧ aTa q = aOn q + mny q ∧ aCo q = aOn q + mny q + 1 ∧ aNt q = aOn q + mny q + 2 := by decide +kernel
theorem fo_in {q : Bool} {j v : Nat} (e : RRf (fo q) j = some v) : (j = 3 ∧ v = aSz q) ∨ (j = 4 ∧ v = aCd q) ∨ (j = 5 ∧ v = aNs q) ∨ (j = 6 ∧ v = aFs q) ∨ (j = 7 ∧ v = aNn q) ∨ (j = 8 ∧ v = aOo q) ∨ (j = 9 ∧ v = aRe q) ∨ (j = 10 ∧ v = aTa q) ∨ (j = 11 ∧ v = aCo q) := by
  have hl := rr_in (foL q) e
  match j, hl with
  | 0, hl => cases hl.2
  | 1, hl => cases hl.2
  | 2, hl => cases hl.2
  | 3, hl => exact Or.inl ⟨rfl, (Option.some.inj hl.2).symm⟩
  | 4, hl => exact Or.inr (Or.inl ⟨rfl, (Option.some.inj hl.2).symm⟩)
  | 5, hl => exact Or.inr (Or.inr (Or.inl ⟨rfl, (Option.some.inj hl.2).symm⟩))
  | 6, hl => exact Or.inr (Or.inr (Or.inr (Or.inl ⟨rfl, (Option.some.inj hl.2).symm⟩)))
  | 7, hl => exact Or.inr (Or.inr (Or.inr (Or.inr (Or.inl ⟨rfl, (Option.some.inj hl.2).symm⟩))))
  | 8, hl => exact Or.inr (Or.inr (Or.inr (Or.inr (Or.inr (Or.inl ⟨rfl, (Option.some.inj hl.2).symm⟩)))))
  | 9, hl => exact Or.inr (Or.inr (Or.inr (Or.inr (Or.inr (Or.inr (Or.inl ⟨rfl, (Option.some.inj hl.2).symm⟩))))))
  | 10, hl => exact Or.inr (Or.inr (Or.inr (Or.inr (Or.inr (Or.inr (Or.inr (Or.inl ⟨rfl, (Option.some.inj hl.2).symm⟩)))))))
  | 11, hl => exact Or.inr (Or.inr (Or.inr (Or.inr (Or.inr (Or.inr (Or.inr (Or.inr ⟨rfl, (Option.some.inj hl.2).symm⟩)))))))
  | n + 12, hl => exact absurd hl.1 (by show ¬ n + 12 < 12; omega)
theorem i_X1 {q : Bool} (hN : 1000 ≤ N) (h : Pr (fo q + 1) κ) : ∃ κ' m', F_X1_init N (fo q) (nI (sh_ q)) (nI (mny q)) (G κ m) = some ((), G κ' m') ∧ Pr (aNt q + 3 * mny q) κ' ∧ Kp κ κ' ∧ Cp (fo q) (aNt q + 3 * mny q) κ' ∧ Fz (fo q) m m' ∧ (rI m' (fo q) 0 = nI (sh_ q) ∧ rI m' (fo q) 1 = nI (sh_ q) ∧ rI m' (fo q) 2 = nI (mny q)) ∧ HdG q m' ∧ NuG q m' ∧ ∀ j, j < mny q → NetIs m' (aNt q + 3 * j) (sz_ q j) (rowT q j) ∧ ∀ i, i < 2 ^ sz_ q j → rI m' (aOn q + j) i = onv q j i := by
  obtain ⟨⟨d1, d2, d3, d4, d5, d6⟩, d7⟩ := adr2 q
  obtain ⟨b1, b2', b3, b4⟩ := adr3 q
  obtain ⟨⟨s1, s2, s3, s4, s5, s6, s7, s8⟩, s9, s10⟩ := shq q
  obtain ⟨u1, u2, u3, u4, u5⟩ := shq2 q
  obtain ⟨p1, k1⟩ := h.new (d := (1, 6)) (w := 6) (by rw [d1]; exact s5) rfl
  obtain ⟨p2, k2, r2⟩ := p1.ref (a := fo q) (j := 6) (v := fo q + 1) (by omega) (by rw [d1]; exact gR6)
  obtain ⟨p3, k3, r3⟩ := p2.newM (n := 5) (l := 64) (by rw [show fo q + 1 + 1 = aNn q by omega]; exact s2) (fun j hj => by rw [show fo q + 1 + 1 + 1 + j = aNu q + j by omega]; exact s9 j hj) (fun j hj => by rw [show fo q + 1 + 1 = aNn q by omega, show aNn q + 1 + j = aNu q + j by omega]; exact gNnR q j hj)
  obtain ⟨p4, k4, r4⟩ := p3.ref (a := fo q) (j := 7) (v := fo q + 1 + 1) (by omega) (by rw [show fo q + 1 + 1 = aNn q by omega]; exact gR7)
  obtain ⟨p5, k5⟩ := p4.new (d := (1, 24)) (w := 24) (by rw [show fo q + 1 + 1 + (1 + 5) = aRe q by omega]; exact s6) rfl
  obtain ⟨mC, c1, c2, c3⟩ := g_ren_l (N := N) (κ := kN (kR (kM (kR (kN κ (1, 6) 6) (fo q) 6 (fo q + 1)) 5 64) (fo q) 7 (fo q + 1 + 1)) (1, 24) 24) (a := aRe q) (by omega) (p5.at (by omega) s6) 256 0 N (zM (zMM (zM m (fo q + 1)) (fo q + 1 + 1) 5) (aRe q)) rfl (by omega) (fun j hj => absurd hj (Nat.not_lt_zero _))
  obtain ⟨p6, k6, r6⟩ := p5.ref (a := fo q) (j := 9) (v := aRe q) (by omega) gR9
  have p6 : Pr (aSz q) _ := (show fo q + 1 + 1 + (1 + 5) + 1 = aSz q by omega) ▸ p6
  obtain ⟨p7, k7⟩ := p6.new (d := (1, mny q)) (w := mny q) s3 rfl
  obtain ⟨p8, k8, r8⟩ := p7.ref (a := fo q) (j := 3) (v := aSz q) (by omega) gR3
  have p8 : Pr (aCd q) _ := (show aSz q + 1 = aCd q by omega) ▸ p8
  obtain ⟨p9, k9⟩ := p8.new (d := (1, mny q)) (w := mny q) s4 rfl
  obtain ⟨p10, k10, r10⟩ := p9.ref (a := fo q) (j := 4) (v := aCd q) (by omega) gR4
  have p10 : Pr (aNs q) _ := (show aCd q + 1 = aNs q by omega) ▸ p10
  obtain ⟨p11, k11⟩ := p10.new (d := (4, mny q)) (w := mny q) s7 rfl
  obtain ⟨p12, k12, r12⟩ := p11.ref (a := fo q) (j := 5) (v := aNs q) (by omega) gR5
  have p12 : Pr (aOo q) _ := (show aNs q + 1 = aOo q by omega) ▸ p12
  obtain ⟨p13, k13, r13⟩ := p12.newM (n := mny q) (l := 16) s8 (fun j hj => by rw [show aOo q + 1 + j = aOn q + j by omega]; exact s10 j hj) (fun j hj => by rw [show aOo q + 1 + j = aOn q + j by omega]; exact gOoR q j hj)
  obtain ⟨p14, k14, r14⟩ := p13.ref (a := fo q) (j := 8) (v := aOo q) (by omega) gR8
  have p14 : Pr (aTa q) _ := (show aOo q + (1 + mny q) = aTa q by omega) ▸ p14
  obtain ⟨p15, k15⟩ := p14.new (d := (1, mny q)) (w := mny q) u1 rfl
  obtain ⟨p16, k16, r16⟩ := p15.ref (a := fo q) (j := 10) (v := aTa q) (by omega) gR10
  have p16 : Pr (aCo q) _ := (show aTa q + 1 = aCo q by omega) ▸ p16
  obtain ⟨p17, k17⟩ := p16.new (d := (1, mny q)) (w := mny q) u2 rfl
  obtain ⟨p18, k18, r18⟩ := p17.ref (a := fo q) (j := 11) (v := aCo q) (by omega) gR11
  have p18 : Pr (aNt q + 3 * 0) _ := (show aCo q + 1 = aNt q + 3 * 0 by omega) ▸ p18
  have kp10 := ((((((((k11.tr k12).tr k13).tr k14).tr k15).tr k16).tr k17).tr k18))
  have kp7 := (((k7.tr k8).tr k9).tr k10).tr kp10
  have hC : Cq q _ := fun a j v ha e => (show _ = some v from by
    rcases ha with rfl | rfl | rfl
    · rcases fo_in e with ⟨rfl, rfl⟩ | ⟨rfl, rfl⟩ | ⟨rfl, rfl⟩ | ⟨rfl, rfl⟩ | ⟨rfl, rfl⟩ | ⟨rfl, rfl⟩ | ⟨rfl, rfl⟩ | ⟨rfl, rfl⟩ | ⟨rfl, rfl⟩
      · exact ((k9.tr k10).tr kp10) _ _ _ r8
      · exact kp10 _ _ _ r10
      · exact (((((k13.tr k14).tr k15).tr k16).tr k17).tr k18) _ _ _ r12
      · exact ((((k3.tr k4).tr k5).tr k6).tr kp7) _ _ _ (by rw [← d1]; exact r2)
      · exact ((k5.tr k6).tr kp7) _ _ _ (by rw [show aNn q = fo q + 1 + 1 by omega]; exact r4)
      · exact (((k15.tr k16).tr k17).tr k18) _ _ _ r14
      · exact kp7 _ _ _ r6
      · exact (k17.tr k18) _ _ _ r16
      · exact r18
    · have hl := rr_in (l := rrL.getD (aNn q) []) rfl e
      have hj : j < 5 := by have := (fo0 q).2.2.2.2.2.2.1; omega
      have e2 := gNnR q j hj
      rw [e] at e2
      refine (((k4.tr k5).tr k6).tr kp7) _ _ _ ?_
      rw [e2, show aNn q = fo q + 1 + 1 by omega, r3 j hj]
      exact congrArg some (by omega)
    · have hl := rr_in (l := rrL.getD (aOo q) []) rfl e
      have hj : j < mny q := by have := (fo0 q).2.2.2.2.2.2.2.1; omega
      have e2 := gOoR q j hj
      rw [e] at e2
      refine ((((k14.tr k15).tr k16).tr k17).tr k18) _ _ _ ?_
      rw [e2, r13 j hj]
      exact congrArg some (by omega))
  have hF := FA_of p18 (by omega) hC
  obtain ⟨mE, hmE⟩ : ∃ mE, mE = wI (wI (wI (wI mC (fo q) 12 0) (fo q) 0 (nI (sh_ q))) (fo q) 2 (nI (mny q))) (fo q) 1 (nI (sh_ q)) := ⟨_, rfl⟩
  obtain ⟨mF, hmF⟩ : ∃ mF, mF = zM (zM (zMM (zM (zM (zM mE (aSz q)) (aCd q)) (aNs q)) (aOo q) (mny q)) (aTa q)) (aCo q) := ⟨_, rfl⟩
  have zEF : Fz (aSz q) mE mF := by
    rw [hmF]
    exact (((((Fz_z (Nat.le_refl _)).tr (Fz_z (k := aSz q) (by omega)) (Nat.le_refl _)).tr (Fz_z (k := aSz q) (by omega)) (Nat.le_refl _)).tr (Fz_zz (k := aSz q) (by omega)) (Nat.le_refl _)).tr (Fz_z (k := aSz q) (by omega)) (Nat.le_refl _)).tr (Fz_z (k := aSz q) (by omega)) (Nat.le_refl _)
  have zmC : Fz (fo q) m mC := fun b j hb => by
    rw [c2.i (by omega), c2.j (by omega)]
    exact (((Fz_z (k := fo q) (by omega)).tr (Fz_zz (k := fo q) (by omega)) (Nat.le_refl _)).tr (Fz_z (k := fo q) (by omega)) (Nat.le_refl _)) b j hb
  have zmE : Fz (fo q) m mE := by
    rw [hmE]
    exact (((zmC.tr (Fz_I (k := fo q) (Nat.le_refl _)) (Nat.le_refl _)).tr (Fz_I (k := fo q) (Nat.le_refl _)) (Nat.le_refl _)).tr (Fz_I (k := fo q) (Nat.le_refl _)) (Nat.le_refl _)).tr (Fz_I (k := fo q) (Nat.le_refl _)) (Nat.le_refl _)
  have hdE : HdG q mE := by
    rw [hmE]
    refine ⟨?_, rI_s _ _ _ _, ?_, fun j hj => ?_⟩
    · rw [rI_n _ _ (by omega), rI_n _ _ (by omega), rI_s]
    · rw [rI_n _ _ (by omega), rI_s]
    · rw [rI_n _ _ (by omega), rI_n _ _ (by omega), rI_n _ _ (by omega), rI_n _ _ (by omega)]
      exact c3 j hj
  have hdF : HdG q mF := ⟨by rw [(zEF _ _ (by omega)).1]; exact hdE.1, by rw [(zEF _ _ (by omega)).1]; exact hdE.2.1, by rw [(zEF _ _ (by omega)).1]; exact hdE.2.2.1, fun j hj => by rw [(zEF _ _ (by omega)).1]; exact hdE.2.2.2 j hj⟩
  obtain ⟨mG, n1, n2, n3, n4⟩ := g_numberAll (N := N) (m := mF) (by omega) hF hdF
  obtain ⟨κ', m', j1, j2, j3, j4, j5, j6, j7⟩ := g_net_l (N := N) (q := q) (by omega) (mny q) 0 N _ mG (by omega) (by omega) p18 hC (fun j hj => absurd hj (Nat.not_lt_zero _)) (fun a j v h1 h2 _ => by omega) n3 n4 (fun j hj => absurd hj (Nat.not_lt_zero _))
  have hd' : HdG q m' := ⟨by rw [(j6 _ _ (by omega)).1]; exact n3.1, by rw [(j6 _ _ (by omega)).1]; exact n3.2.1, by rw [(j6 _ _ (by omega)).1]; exact n3.2.2.1, fun j hj => by rw [(j6 _ _ (by omega)).1]; exact n3.2.2.2 j hj⟩
  have kall := ((((((k1.tr k2).tr k3).tr k4).tr k5).tr k6).tr kp7).tr j3
  refine ⟨κ', m', ?_, j2, kall, fun a j v h1 h2 e => ?_, fun b j hb => ?_, ⟨hd'.1, hd'.2.1, hd'.2.2.1⟩, hd', ⟨fun k hk => by rw [(j6 _ _ (by omega)).1, (j6 _ _ (by omega)).1]; exact n4.1 k hk, fun size code a1 a2 a3 => by rw [(j6 _ _ (by omega)).1]; exact n4.2.1 size code a1 a2 a3, fun j hj => by rw [(j6 _ _ (by omega)).1]; exact n4.2.2 j hj⟩, j7⟩
  · have J : J_X1_init_55 N (fo q) (nI (sh_ q)) (nI (mny q)) (fo q) (nI (sh_ q)) (G (kR (kN (kR (kM (kR (kN κ (1, 6) 6) (fo q) 6 (fo q + 1)) 5 64) (fo q) 7 (fo q + 1 + 1)) (1, 24) 24) (fo q) 9 (aRe q)) (wI (wI (wI mC (fo q) 12 0) (fo q) 0 (nI (sh_ q))) (fo q) 2 (nI (mny q)))) = some ((), G κ' m') := by
      unfold J_X1_init_55
      refine k_stI (p6.o (by omega) s1) ?_
      rw [← hmE]
      refine k_nwA (n := mny q) rfl (by omega) ?_
      rw [p6.n]
      refine k_stR (p7.o (by omega) s1) ?_
      refine k_nwA (n := mny q) rfl (by omega) ?_
      rw [p8.n]
      refine k_stR (p9.o (by omega) s1) ?_
      refine k_nwA (n := mny q) rfl (by omega) ?_
      rw [p10.n]
      refine k_stR (p11.o (by omega) s1) ?_
      refine k_nwM (n := mny q) (l := 16) rfl rfl (by omega) ?_
      rw [p12.n]
      refine k_stR (p13.o (by omega) s1) ?_
      refine k_nwA (n := mny q) rfl (by omega) ?_
      rw [p14.n]
      refine k_stR (p15.o (by omega) s1) ?_
      refine k_nwA (n := mny q) rfl (by omega) ?_
      rw [p16.n]
      refine k_stR (p17.o (by omega) s1) ?_
      rw [← hmF]
      refine e_bnd n1 ?_
      exact j1
    unfold F_X1_init
    refine k_rcv (h.o (by omega) s1) ?_
    refine k_nwA (n := 6) rfl (by omega) ?_
    rw [h.n]
    refine k_stR (p1.o (by omega) s1) ?_
    refine k_nwM (n := 5) (l := 64) rfl rfl (by omega) ?_
    rw [p2.n]
    refine k_stR (p3.o (by omega) s1) ?_
    refine e_bnd (r := aRe q) (s' := G (kN (kR (kM (kR (kN κ (1, 6) 6) (fo q) 6 (fo q + 1)) 5 64) (fo q) 7 (fo q + 1 + 1)) (1, 24) 24) mC) ?_ ?_
    · unfold F_X1_allRenamings
      refine k_nwA (n := 24) rfl (by omega) ?_
      rw [p4.n, show fo q + 1 + 1 + (1 + 5) = aRe q by omega]
      exact c1
    · refine k_stR (p5.o (by omega) s1) ?_
      refine k_stI (p6.o (by omega) s1) ?_
      refine k_stZ (p6.o (by omega) s1) (by cases q <;> decide) ?_
      refine k_stI (p6.o (by omega) s1) ?_
      by_cases z : nI (sh_ q) = 0
      · refine e_t z ?_
        rw [z] at J
        rw [z]
        exact J
      · refine e_f z ?_
        have z1 : nI (sh_ q) = 1 := by
          cases q with
          | false => exact absurd rfl z
          | true => rfl
        rw [z1] at J
        rw [z1]
        exact J
  · by_cases w : aNt q ≤ a
    · exact j5 a j v w h2 e
    · by_cases w2 : a = fo q ∨ a = aNn q ∨ a = aOo q
      · exact j3 _ _ _ (hC a j v w2 e)
      · by_cases w3 : a = aNs q
        · subst w3
          have hl := rr_in (l := rrL.getD (aNs q) []) rfl e
          have hj : j < mny q := by have := (fo0 q).2.2.2.2.2.2.2.2.1; omega
          have e2 := gNsR q j hj
          rw [e] at e2
          rw [e2]
          exact j4 j hj
        · obtain ⟨z1, z2, z3, z4, z5, z6, -, -, -, z7, z8⟩ := fo0 q
          refine absurd e (rr_0 ?_)
          rcases (show a = aFs q ∨ a = aRe q ∨ a = aSz q ∨ a = aCd q ∨ a = aTa q ∨ a = aCo q ∨ (aNu q ≤ a ∧ a < aNu q + 5) ∨ (aOn q ≤ a ∧ a < aOn q + mny q) by omega) with v | v | v | v | v | v | v | v
          · rw [v]; exact z1
          · rw [v]; exact z2
          · rw [v]; exact z3
          · rw [v]; exact z4
          · rw [v]; exact z5
          · rw [v]; exact z6
          · have := z7 (a - aNu q) (by omega)
            rw [show aNu q + (a - aNu q) = a by omega] at this
            exact this
          · have := z8 (a - aOn q) (by omega)
            rw [show aOn q + (a - aOn q) = a by omega] at this
            exact this
  · rw [(j6 _ _ (by omega)).1, (j6 _ _ (by omega)).2, n2.i (by unfold nfP nuP; omega), n2.j (by unfold nfP nuP; omega), (zEF _ _ (by omega)).1, (zEF _ _ (by omega)).2]
    exact zmE b j hb
end FAML
