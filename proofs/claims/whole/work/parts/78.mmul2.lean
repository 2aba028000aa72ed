section MMUL2
variable {N : Nat} {m : vM} {s : vS}
/-- terms of a kind lie among the numbers that it has -/
def In (q : Bool) (o : Row) : Prop := ∀ k, k < 29 → (o k).1 ≠ 0 → k < mny q
theorem m_mul_g {q : Bool} {kd f t u w : Nat} {o p : Row} {K : Nat → Int32 → Int32 → Int32 → Int32 → Int32 → vS → Option (Unit × vS)} (hN : 100 ≤ N) (hq : q = true ↔ kd = 1) (hkd : kd < 3) (ht : t < 16) (hu : u < 16) (hw : w < 16) (hut : u ≠ t) (hwt : w ≠ t) (lo : Lows o) (lp : Lows p) (io : In q o) (ip : In q p) (hf : f < 29) :
    ∀ (d g n : Nat) (m : vM) (X : Option Row), g + d = 29 → d < n → Tab m → AccM m t X → RowM m u o → RowM m w p →
    ∃ m', H_X9_multiply_50 N K n 322 (nI u) (nI w) (nI t) (nI kd) (nI f) (nI g) (S m) = K 322 (nI u) (nI w) (nI t) (nI kd) (nI (f + 1)) (S m') ∧ Fr (moP t) m m' ∧ AccM m' t (fld (gstep q (fun f g => sz_ q f + sz_ q g - sh_ q) o p f) d g X)
  | _, _, 0, _, _, _, h, _, _, _, _ => by omega
  | 0, g, n + 1, m, X, hg, _, hT, hA, _, _ => by
    refine ⟨m, ?_, Fr.rf, hA⟩
    refine Eq.trans u_H_X9_multiply_50 ?_
    refine e_t (by rw [leL (by decide) (by omega)]; show 29 ≤ g; omega) ?_
    refine e_nm ?_
    rw [addR]
  | d + 1, g, n + 1, m, X, hg, hd, hT, hA, r1, r2 => by
    have ha := adr q
    have hg29 : g < 29 := by omega
    have e1 : rJ m 332 (29 * u + f) = (o f).1 := congrArg Prod.fst (r1 f hf)
    have e2 : rJ m 333 (29 * u + f) = (o f).2 := congrArg Prod.snd (r1 f hf)
    have e3 : rJ m 332 (29 * w + g) = (p g).1 := congrArg Prod.fst (r2 g hg29)
    have e4 : rJ m 333 (29 * w + g) = (p g).2 := congrArg Prod.snd (r2 g hg29)
    have i1 := lt29 hu hf
    have i2 := lt29 hw hg29
    have nx : ∀ m1 X1, Fr (moP t) m m1 → AccM m1 t X1 → gstep q (fun f g => sz_ q f + sz_ q g - sh_ q) o p f g X = X1 → (∀ R, J_X9_multiply_162 N K (H_X9_multiply_50 N K n) 322 (nI u) (nI w) (nI t) (nI kd) (nI f) (nI g) (S m1) = R → H_X9_multiply_50 N K (n + 1) 322 (nI u) (nI w) (nI t) (nI kd) (nI f) (nI g) (S m) = R) → ∃ m', H_X9_multiply_50 N K (n + 1) 322 (nI u) (nI w) (nI t) (nI kd) (nI f) (nI g) (S m) = K 322 (nI u) (nI w) (nI t) (nI kd) (nI (f + 1)) (S m') ∧ Fr (moP t) m m' ∧ AccM m' t (fld (gstep q (fun f g => sz_ q f + sz_ q g - sh_ q) o p f) (d + 1) g X) := by
      intro m1 X1 f1 A1 st hgo
      obtain ⟨m', g1, g2, g3⟩ := m_mul_g (K := K) hN hq hkd ht hu hw hut hwt lo lp io ip hf d (g + 1) n m1 X1 (by omega) (by omega) (hT.fr (fun b j hb => f1 b j (moP_tab hb))) A1 (r1.fr hut f1) (r2.fr hwt f1)
      refine ⟨m', hgo _ ?_, f1.tr g2, by rw [fld, st]; exact g3⟩
      unfold J_X9_multiply_162
      refine e_nm ?_
      rw [addR]
      exact g1
    have h29 : ¬ (29 : Int32) ≤ nI g := by rw [leL (by decide) (by omega)]; show ¬ 29 ≤ g; omega
    by_cases zf : (o f).1 = 0
    · refine nx m X Fr.rf hA (by unfold gstep; rw [if_pos (Or.inl zf)]) (fun R hR => ?_)
      refine Eq.trans u_H_X9_multiply_50 ?_
      refine e_f h29 ?_
      refine e_bnd (m_isTerm hu hf) ?_
      exact e_t (b2_f (fun z => z (e1.trans zf))) hR
    by_cases zg : (p g).1 = 0
    · refine nx m X Fr.rf hA (by unfold gstep; rw [if_pos (Or.inr zg)]) (fun R hR => ?_)
      refine Eq.trans u_H_X9_multiply_50 ?_
      refine e_f h29 ?_
      refine e_bnd (m_isTerm hu hf) ?_
      refine e_f (b2_nz (fun z => zf (e1.symm.trans z))) ?_
      refine e_bnd (m_isTerm hw hg29) ?_
      exact e_t (b2_f (fun z => z (e3.trans zg))) hR
    have hfm := io f hf zf
    have hgm := ip g hg29 zg
    have hgs : gstep q (fun f g => sz_ q f + sz_ q g - sh_ q) o p f g X = stB q f g (sz_ q f + sz_ q g - sh_ q) o p X := by unfold gstep; rw [if_neg (fun w => w.elim zf zg)]
    have start : ∀ R, (if rI m 322 25 = 0 then bnd (F_X9_times N 322 (o f).1 (o f).2 (p g).1 (p g).2 (S m)) (fun _ s => ldI s 322 9 25 (fun v25 => if v25 = 0 then ldJ s 322 9 23 (fun v26 => ldJ s 322 9 24 (fun v27 => bnd (F_X9_multiplyBy N 322 (nI kd) (nI f) (nI g) v26 v27 (nI t) s) (fun _ s => J_X9_multiply_162 N K (H_X9_multiply_50 N K n) 322 (nI u) (nI w) (nI t) (nI kd) (nI f) (nI g) s))) else J_X9_multiply_162 N K (H_X9_multiply_50 N K n) 322 (nI u) (nI w) (nI t) (nI kd) (nI f) (nI g) s)) else J_X9_multiply_162 N K (H_X9_multiply_50 N K n) 322 (nI u) (nI w) (nI t) (nI kd) (nI f) (nI g) (S m)) = R → H_X9_multiply_50 N K (n + 1) 322 (nI u) (nI w) (nI t) (nI kd) (nI f) (nI g) (S m) = R := by
      intro R hR
      refine Eq.trans u_H_X9_multiply_50 ?_
      refine e_f h29 ?_
      refine e_bnd (m_isTerm hu hf) ?_
      refine e_f (b2_nz (fun z => zf (e1.symm.trans z))) ?_
      refine e_bnd (m_isTerm hw hg29) ?_
      refine e_f (b2_nz (fun z => zg (e3.symm.trans z))) ?_
      refine e_ldI fmO ?_
      refine e_i (fun z => ?_) (fun z => ?_)
      · rw [if_pos z] at hR
        refine e_ldR fmO fmR11 ?_
        rw [mulL, nI_add]
        refine e_alJV fmA11 rfl (by omega) e1 ?_
        refine e_ldR fmO fmR12 ?_
        refine e_alJV fmA12 rfl (by omega) e2 ?_
        refine e_ldR fmO fmR11 ?_
        rw [mulL, nI_add]
        refine e_alJV fmA11 rfl (by omega) e3 ?_
        refine e_ldR fmO fmR12 ?_
        refine e_alJV fmA12 rfl (by omega) e4 ?_
        exact hR
      · rw [if_neg z] at hR
        exact hR
    cases X with
    | none =>
      have h25 : rI m 322 25 = 1 := hA.1
      refine nx m none Fr.rf hA (by rw [hgs]; exact stB_none) (fun R hR => start R ?_)
      rw [if_neg (by rw [h25]; decide)]
      exact hR
    | some row =>
      have h25 : rI m 322 25 = 0 := hA.1.1
      have lof := lo f hf
      have lpg := lp g hg29
      obtain ⟨m1, t1, tK, tA⟩ := m_times (N := N) (m := m) (a := (o f).1) (b := (o f).2) (c := (p g).1) (d := (p g).2) (o := False) hN lof.1 lpg.1 (by rw [h25]; exact (b2_f id).symm)
      have fK : Fr (fun a j => a = 322 ∧ (j = 23 ∨ j = 24 ∨ j = 25)) m m1 := fun a j hj => ⟨tK.1 a j (by omega), tK.2 a j (by omega)⟩
      have f1 : Fr (moP t) m m1 := fK.mo (fun a j h => Or.inl ⟨h.1, by omega⟩)
      have rows : ∀ j, j < 29 → rowM m1 t j = rowM m t j := fun j hj => by
        show (rJ m1 332 (29 * t + j), rJ m1 333 (29 * t + j)) = (rJ m 332 (29 * t + j), rJ m 333 (29 * t + j))
        rw [tK.2 _ _ (by omega), tK.2 _ _ (by omega)]
      rw [if_neg id] at tA
      cases hfm2 : fmul (o f).1 (o f).2 (p g).1 (p g).2 with
      | none =>
        rw [hfm2] at tA
        refine nx m1 none f1 ⟨tA.1, fun j hj => by rw [rows j hj]; exact hA.2 j hj⟩ (by rw [hgs]; unfold stB; rw [hfm2]) (fun R hR => start R ?_)
        rw [if_pos h25]
        refine e_bnd t1 ?_
        refine e_ldIV fmO tA.1 ?_
        exact e_f (by decide) hR
      | some b =>
        rw [hfm2] at tA
        obtain ⟨c1, c2, c3⟩ := tA
        have A1 : AccM m1 t (some row) := ⟨⟨c1, fun j hj => by rw [rows j hj]; exact hA.1.2 j hj⟩, fun j hj => by rw [rows j hj]; exact hA.2 j hj⟩
        obtain ⟨m2, b1, b2', b3⟩ := m_multiplyBy (N := N) (m := m1) (q := q) (b := b) hN hq hkd hfm hgm ht (fmul_pos lof.1 lpg.1 hfm2) (hT.fr (fun b j hb => f1 b j (moP_tab hb))) A1
        refine nx m2 _ (f1.tr b2') b3 (by rw [hgs]; unfold stB; rw [hfm2]) (fun R hR => start R ?_)
        rw [if_pos h25]
        refine e_bnd t1 ?_
        refine e_ldIV fmO c1 ?_
        refine e_t rfl ?_
        refine e_ldJV fmO c2 ?_
        refine e_ldJV fmO c3 ?_
        refine e_bnd b1 ?_
        exact hR
def moQ (t b j : Nat) : Prop := moP t b j ∨ (b = 331 ∧ j = t)
/-- the end of a row: its kind, and what comes of a row without terms -/
def kdE (row : Row) (kd : Nat) : Nat := if cnt (fun k => (row k).1 ≠ 0) 29 = 0 then 2 else kd
theorem m_end {t kd : Nat} {X : Option Row} {K : Option (Unit × vS)} (hN : 100 ≤ N) (ht : t < 16) (hkd : kd < 3) (hA : AccM m t X) :
    ∃ m', (ldR (S m) 322 9 10 (fun r10 => asI (S m) r10 (nI t) (nI kd) (fun s => bnd (F_X9_settle N 322 (nI t) s) (fun _ s => some ((), s))))) = some ((), S m') ∧ Fr (fun b j => b = 331 ∧ j = t) m m' ∧ AccM m' t X ∧ ∀ row, X = some row → rI m' 331 t = nI (kdE row kd) := by
  have h := m_settle (N := N) (m := wI m 331 t (nI kd)) ht hN
  have f : Fr (fun b j => b = 331 ∧ j = t) m (wI (wI m 331 t (nI kd)) 331 t (if cnt (fun k => rJ (wI m 331 t (nI kd)) 332 (29 * t + k) ≠ 0) 29 = 0 then 2 else rI (wI m 331 t (nI kd)) 331 t)) := (Fr.rf.sI ⟨rfl, rfl⟩).sI ⟨rfl, rfl⟩
  refine ⟨_, ?_, f, hA.fr f (by omega) (fun k hk => by omega), fun row e => ?_⟩
  · refine e_ldR fmO fmR10 ?_
    refine e_asI fmA10 rfl (by omega) ?_
    exact e_bnd h rfl
  · rw [rI_s, rI_s]
    have hx := hA.1
    rw [e] at hx
    have hr := hx.2
    unfold kdE
    rw [cnt_c (p := fun k => rJ (wI m 331 t (nI kd)) 332 (29 * t + k) ≠ 0) (q := fun k => (row k).1 ≠ 0) 29 (fun k hk => by
      have e1 : rJ m 332 (29 * t + k) = (row k).1 := congrArg Prod.fst (hr k hk)
      show rJ m 332 (29 * t + k) ≠ 0 ↔ _
      rw [e1])]
    by_cases z : cnt (fun k => (row k).1 ≠ 0) 29 = 0
    · rw [if_pos z, if_pos z]; rfl
    · rw [if_neg z, if_neg z]
theorem m_mul_f {q : Bool} {kd t u w : Nat} {o p : Row} (hN : 100 ≤ N) (hq : q = true ↔ kd = 1) (hkd : kd < 3) (ht : t < 16) (hu : u < 16) (hw : w < 16) (hut : u ≠ t) (hwt : w ≠ t) (lo : Lows o) (lp : Lows p) (io : In q o) (ip : In q p) :
    ∀ (d f n : Nat) (m : vM) (X : Option Row), f + d = 29 → d < n → Tab m → AccM m t X → RowM m u o → RowM m w p →
    ∃ m', H_X9_multiply_40 N n 322 (nI u) (nI w) (nI t) (nI kd) (nI f) (S m) = some ((), S m') ∧ Fr (moQ t) m m' ∧ AccM m' t (fld (fstep q (fun f g => sz_ q f + sz_ q g - sh_ q) o p 29) d f X) ∧ ∀ row, fld (fstep q (fun f g => sz_ q f + sz_ q g - sh_ q) o p 29) d f X = some row → rI m' 331 t = nI (kdE row kd)
  | _, _, 0, _, _, _, h, _, _, _, _ => by omega
  | 0, f, n + 1, m, X, hf, _, hT, hA, _, _ => by
    obtain ⟨m', g1, g2, g3, g4⟩ := m_end (N := N) (m := m) (K := none) hN ht hkd hA
    refine ⟨m', ?_, g2.mo (fun b j h => Or.inr h), g3, g4⟩
    refine Eq.trans u_H_X9_multiply_40 ?_
    refine e_t (by rw [leL (by decide) (by omega)]; show 29 ≤ f; omega) ?_
    exact g1
  | d + 1, f, n + 1, m, X, hf, hd, hT, hA, r1, r2 => by
    obtain ⟨m1, g1, g2, g3⟩ := m_mul_g (N := N) (K := H_X9_multiply_40 N n) hN hq hkd ht hu hw hut hwt lo lp io ip (show f < 29 by omega) 29 0 N m X (by omega) (by omega) hT hA r1 r2
    obtain ⟨m', j1, j2, j3, j4⟩ := m_mul_f hN hq hkd ht hu hw hut hwt lo lp io ip d (f + 1) n m1 _ (by omega) (by omega) (hT.fr (fun b j hb => g2 b j (moP_tab hb))) g3 (r1.fr hut g2) (r2.fr hwt g2)
    refine ⟨m', ?_, (g2.mo (fun b j h => Or.inl h)).tr j2, j3, j4⟩
    refine Eq.trans u_H_X9_multiply_40 ?_
    refine e_f (by rw [leL (by decide) (by omega)]; show ¬ 29 ≤ f; omega) ?_
    exact g1.trans j1
theorem m_emptyA {t : Nat} (hN : 100 ≤ N) (ht : t < 16) (ho : rI m 322 25 = 0) : ∃ m', F_X9_empty N 322 (nI t) (S m) = some ((), S m') ∧ Fr (moQ t) m m' ∧ AccM m' t (some row0) := by
  obtain ⟨m', h1, h2, h3, h4⟩ := m_empty (N := N) (m := m) ht hN
  have hr : RowM m' t row0 := fun k hk => by
    show (rJ m' 332 (29 * t + k), rJ m' 333 (29 * t + k)) = (0, 1)
    rw [(h3 k hk).1, (h3 k hk).2]
  refine ⟨m', h1, fun a j hj => ⟨?_, h4 a j (by unfold moQ moP at hj; omega)⟩, ⟨by rw [h2, if_neg (by omega)]; exact ho, hr⟩, fun k hk => by rw [hr k hk]; exact Low_0⟩
  rw [h2, if_neg (by unfold moQ at hj; omega)]
theorem RowM.fq {t u : Nat} {o : Row} {m m' : vM} (h : RowM m u o) (hu : u ≠ t) (g : Fr (moQ t) m m') : RowM m' u o := fun k hk => by
  rw [← h k hk]
  show (rJ m' 332 (29 * u + k), rJ m' 333 (29 * u + k)) = (rJ m 332 (29 * u + k), rJ m 333 (29 * u + k))
  rw [g.j (by unfold moQ moP; omega), g.j (by unfold moQ moP; omega)]
theorem moQ_tab {t b j : Nat} (h : tabP b j) : ¬ moQ t b j := by
  unfold tabP at h
  unfold moQ moP
  omega
/-- the lesser of two kinds -/
def mn (a b : Nat) : Nat := if b ≤ a then b else a
theorem m_multiply {q : Bool} {k1 k2 t u w : Nat} {o p : Row} (hN : 100 ≤ N) (hk1 : k1 < 3) (hk2 : k2 < 3) (hq : q = true ↔ mn k1 k2 = 1) (ht : t < 16) (hu : u < 16) (hw : w < 16) (hut : u ≠ t) (hwt : w ≠ t) (lo : Lows o) (lp : Lows p) (io : In q o) (ip : In q p) (hT : Tab m) (ho : rI m 322 25 = 0) (r1 : RowM m u o) (r2 : RowM m w p) (e1 : rI m 331 u = nI k1) (e2 : rI m 331 w = nI k2) :
    ∃ m', F_X9_multiply N 322 (nI u) (nI w) (nI t) (S m) = some ((), S m') ∧ Fr (moQ t) m m' ∧ AccM m' t (mulG q (fun f g => sz_ q f + sz_ q g - sh_ q) o p 29) ∧ ∀ row, mulG q (fun f g => sz_ q f + sz_ q g - sh_ q) o p 29 = some row → rI m' 331 t = nI (kdE row (mn k1 k2)) := by
  have hkm : mn k1 k2 < 3 := by unfold mn; split <;> omega
  obtain ⟨m1, h1, h2, h3⟩ := m_emptyA (N := N) hN ht ho
  obtain ⟨m', g1, g2, g3, g4⟩ := m_mul_f (N := N) hN hq hkm ht hu hw hut hwt lo lp io ip 29 0 N m1 (some row0) rfl (by omega) (hT.fr (fun b j hb => h2 b j (moQ_tab hb))) h3 (r1.fq hut h2) (r2.fq hwt h2)
  have hJ : J_X9_multiply_30 N 322 (nI u) (nI w) (nI t) (nI (mn k1 k2)) (S m) = some ((), S m') := by
    unfold J_X9_multiply_30
    refine e_bnd h1 ?_
    exact g1
  refine ⟨m', ?_, h2.tr g2, g3, g4⟩
  unfold F_X9_multiply
  refine e_rcv fmO ?_
  refine e_ldR fmO fmR10 ?_
  refine e_alIV fmA10 rfl (by omega) e1 ?_
  refine e_ldR fmO fmR10 ?_
  refine e_alIV fmA10 rfl (by omega) e2 ?_
  by_cases z : k2 ≤ k1
  · refine e_t (by rw [nI_leI (by omega) (by omega)]; exact z) ?_
    refine e_ldR fmO fmR10 ?_
    refine e_alIV fmA10 rfl (by omega) e2 ?_
    unfold mn at hJ
    rw [if_pos z] at hJ
    exact hJ
  · refine e_f (by rw [nI_leI (by omega) (by omega)]; exact z) ?_
    refine e_ldR fmO fmR10 ?_
    refine e_alIV fmA10 rfl (by omega) e1 ?_
    unfold mn at hJ
    rw [if_neg z] at hJ
    exact hJ
end MMUL2
