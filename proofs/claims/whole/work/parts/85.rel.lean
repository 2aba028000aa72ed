/-! the relation of the two states, and what keeps it -/
section REL
variable {N : Nat} {m m' : vM} {s : vS}
def HandR (m : vM) (aC jM aM nn : Nat) (r : Nat → Nat) : Prop := nn ≤ 8 ∧ Sym nn r ∧ (∀ i, i < nn → bt (r i) i = 0) ∧ rI m aC 0 = nI nn ∧ rI m 322 jM = nI nn ∧ ∀ i, i < nn → rI m (aC + 1) i = nI (r i) ∧ rI m aM i = nI (r i) ∧ r i < 2 ^ nn
def Good (k : Nat) (o : Row) : Prop := k < 3 ∧ Lows o ∧ (k ≠ 1 → In false o) ∧ (k = 2 → ∀ j, j < 29 → (o j).1 = 0)
def StH (m : vM) (hC sC hM kM uM lM st k : Nat) (o : Row) : Prop := rI m hC st = 1 ∧ rI m hM st = 1 ∧ Good k o ∧ SumC m (sC + 3 * st) k o ∧ rI m kM st = nI k ∧ ∀ j, j < 29 → (rJ m uM (29 * st + j), rJ m lM (29 * st + j)) = o j
def StN (m : vM) (hC sC hM st : Nat) : Prop := rI m hC st = 0 ∧ rI m hM st = 0 ∧ SumC m (sC + 3 * st) 2 row0
def StR (m : vM) (hC sC hM kM uM lM st : Nat) : Prop := StN m hC sC hM st ∨ ∃ k o, StH m hC sC hM kM uM lM st k o
def TapeR (m : vM) (z : Nat) (t : Nat → Nat) : Prop := z ≤ 60 ∧ rI m 234 3 = nI z ∧ rI m 322 13 = nI z ∧ ∀ i, i < z → t i < 128 ∧ rI m 235 i = nI (t i) ∧ rI m 334 i = nI (t i)
def ImgR (m : vM) : Prop := (rI m 0 11 = 0 ∧ rI m 322 15 = 0) ∨ (rI m 0 11 = 1 ∧ rI m 322 15 = 1 ∧ (∃ nn r, HandR m 304 16 335 nn r) ∧ ∀ st, st < 4 → StR m 308 310 336 337 338 339 st)
def StsR (m : vM) : Prop := ∀ st, st < 4 → StR m 290 292 330 331 332 333 st
def Rel (m : vM) : Prop := Tab m ∧ (∃ nn r, HandR m 286 5 328 nn r) ∧ StsR m ∧ (∃ z t, TapeR m z t) ∧ ImgR m
def hanP (a j : Nat) : Prop := a = 286 ∨ a = 287 ∨ (a = 322 ∧ j = 5) ∨ a = 328
def stoP (a j : Nat) : Prop := a = 290 ∨ (292 ≤ a ∧ a ≤ 303) ∨ a = 330 ∨ (a = 331 ∧ j < 4) ∨ ((a = 332 ∨ a = 333) ∧ j < 116)
def tapP (a j : Nat) : Prop := (a = 234 ∧ j = 3) ∨ a = 235 ∨ (a = 322 ∧ j = 13) ∨ a = 334
def imgP (a j : Nat) : Prop := (a = 0 ∧ j = 11) ∨ (a = 322 ∧ (j = 15 ∨ j = 16)) ∨ a = 304 ∨ a = 305 ∨ a = 335 ∨ a = 308 ∨ (310 ≤ a ∧ a ≤ 321) ∨ (336 ≤ a ∧ a ≤ 339)
def prP (a j : Nat) : Prop := tabP a j ∨ hanP a j ∨ stoP a j ∨ tapP a j ∨ imgP a j
theorem HandR.same {aC jM aM nn : Nat} {r : Nat → Nat} (h : HandR m aC jM aM nn r) (e : ∀ a j, (a = aC ∨ a = aC + 1 ∨ (a = 322 ∧ j = jM) ∨ a = aM) → rI m' a j = rI m a j) : HandR m' aC jM aM nn r := by
  obtain ⟨h1, h2, h3, h4, h5, h6⟩ := h
  refine ⟨h1, h2, h3, by rw [e _ _ (by omega)]; exact h4, by rw [e _ _ (by omega)]; exact h5, fun i hi => ?_⟩
  rw [e _ _ (by omega), e aM i (by omega)]
  exact h6 i hi
theorem SumC.same {a k : Nat} {o : Row} (h : SumC m a k o) (e : ∀ b j, (a ≤ b ∧ b ≤ a + 2) → rI m' b j = rI m b j ∧ rJ m' b j = rJ m b j) : SumC m' a k o := by
  refine ⟨by rw [(e _ _ (by omega)).1]; exact h.1, fun j hj => ?_⟩
  rw [← h.2 j hj]
  show (rJ m' (a + 1) j, rJ m' (a + 2) j) = (rJ m (a + 1) j, rJ m (a + 2) j)
  rw [(e _ _ (by omega)).2, (e _ _ (by omega)).2]
theorem StR.same {hC sC hM kM uM lM st : Nat} (h : StR m hC sC hM kM uM lM st) (e : ∀ a j, ((a = hC ∧ j = st) ∨ (sC + 3 * st ≤ a ∧ a ≤ sC + 3 * st + 2) ∨ (a = hM ∧ j = st) ∨ (a = kM ∧ j = st) ∨ ((a = uM ∨ a = lM) ∧ 29 * st ≤ j ∧ j < 29 * st + 29)) → rI m' a j = rI m a j ∧ rJ m' a j = rJ m a j) : StR m' hC sC hM kM uM lM st := by
  rcases h with ⟨h1, h2, h3⟩ | ⟨k, o, h1, h2, h3, h4, h5, h6⟩
  · exact Or.inl ⟨by rw [(e _ _ (by omega)).1]; exact h1, by rw [(e hM st (by omega)).1]; exact h2, h3.same (fun b j hb => e b j (by omega))⟩
  · refine Or.inr ⟨k, o, by rw [(e _ _ (by omega)).1]; exact h1, by rw [(e hM st (by omega)).1]; exact h2, h3, h4.same (fun b j hb => e b j (by omega)), by rw [(e kM st (by omega)).1]; exact h5, fun j hj => ?_⟩
    rw [(e uM _ (by omega)).2, (e lM _ (by omega)).2]
    exact h6 j hj
theorem StsR.same (h : StsR m) (e : ∀ a j, stoP a j → rI m' a j = rI m a j ∧ rJ m' a j = rJ m a j) : StsR m' := fun st hs => (h st hs).same (fun a j ha => e a j (by unfold stoP; omega))
theorem TapeR.same {z : Nat} {t : Nat → Nat} (h : TapeR m z t) (e : ∀ a j, tapP a j → rI m' a j = rI m a j) : TapeR m' z t := by
  obtain ⟨h1, h2, h3, h4⟩ := h
  refine ⟨h1, by rw [e _ _ (by unfold tapP; omega)]; exact h2, by rw [e _ _ (by unfold tapP; omega)]; exact h3, fun i hi => ?_⟩
  rw [e _ _ (by unfold tapP; omega), e 334 _ (by unfold tapP; omega)]
  exact h4 i hi
theorem ImgR.same (h : ImgR m) (e : ∀ a j, imgP a j → rI m' a j = rI m a j ∧ rJ m' a j = rJ m a j) : ImgR m' := by
  rcases h with ⟨h1, h2⟩ | ⟨h1, h2, ⟨nn, r, h3⟩, h4⟩
  · exact Or.inl ⟨by rw [(e _ _ (by unfold imgP; omega)).1]; exact h1, by rw [(e _ _ (by unfold imgP; omega)).1]; exact h2⟩
  · exact Or.inr ⟨by rw [(e _ _ (by unfold imgP; omega)).1]; exact h1, by rw [(e _ _ (by unfold imgP; omega)).1]; exact h2, ⟨nn, r, h3.same (fun a j ha => (e a j (by unfold imgP; omega)).1)⟩, fun st hs => (h4 st hs).same (fun a j ha => e a j (by unfold imgP; omega))⟩
theorem Rel.same (h : Rel m) (e : ∀ a j, prP a j → rI m' a j = rI m a j ∧ rJ m' a j = rJ m a j) : Rel m' := by
  obtain ⟨h1, ⟨nn, r, h2⟩, h3, ⟨z, t, h4⟩, h5⟩ := h
  exact ⟨h1.fr (fun a j ha => e a j (Or.inl ha)), ⟨nn, r, h2.same (fun a j ha => (e a j (Or.inr (Or.inl (by unfold hanP; omega)))).1)⟩, h3.same (fun a j ha => e a j (Or.inr (Or.inr (Or.inl ha)))), ⟨z, t, h4.same (fun a j ha => (e a j (Or.inr (Or.inr (Or.inr (Or.inl ha))))).1)⟩, h5.same (fun a j ha => e a j (Or.inr (Or.inr (Or.inr (Or.inr ha)))))⟩
theorem Rel.fr {P : Nat → Nat → Prop} (h : Rel m) (f : Fr P m m') (hp : ∀ a j, prP a j → ¬ P a j) : Rel m' := h.same (fun a j ha => f a j (hp a j ha))
/-- one answer on both sides, and the relation again -/
def SameI (F G : vS → Option (Int32 × vS)) (m : vM) : Prop := ∃ v m1 m2, F (S m) = some (v, S m1) ∧ G (S m1) = some (v, S m2) ∧ Rel m2
def SameJ (F G : vS → Option (Int64 × vS)) (m : vM) : Prop := ∃ v m1 m2, F (S m) = some (v, S m1) ∧ G (S m1) = some (v, S m2) ∧ Rel m2
theorem SameI.ro {F G : vS → Option (Int32 × vS)} (v : Int32) (h : Rel m) (h1 : F (S m) = some (v, S m)) (h2 : G (S m) = some (v, S m)) : SameI F G m := ⟨v, m, m, h1, h2, h⟩
theorem SameJ.ro {F G : vS → Option (Int64 × vS)} (v : Int64) (h : Rel m) (h1 : F (S m) = some (v, S m)) (h2 : G (S m) = some (v, S m)) : SameJ F G m := ⟨v, m, m, h1, h2, h⟩
theorem HandR.net {nn : Nat} {r : Nat → Nat} (h : HandR m 286 5 328 nn r) : NetIs m 286 nn r := ⟨h.2.2.2.1, h.1, fun i hi => ⟨(h.2.2.2.2.2 i hi).1, (h.2.2.2.2.2 i hi).2.2⟩⟩
theorem HandR.mod {nn : Nat} {r : Nat → Nat} (h : HandR m 286 5 328 nn r) : HandM m nn r := ⟨h.2.2.2.2.1, h.1, fun i hi => ⟨(h.2.2.2.2.2 i hi).2.1, (h.2.2.2.2.2 i hi).2.2⟩⟩
/-- a number is in range, or told as none -/
theorem rng (x : Int32) {n : Nat} (hn : n < 2 ^ 31) : (∃ j, j < n ∧ x = nI j) ∨ ¬ ((0 : Int32) ≤ x ∧ x < nI n) := by
  rcases pk_ix x hn with h | h | h
  · exact Or.inr (fun w => absurd w.1 (Int32.not_le.mpr h))
  · exact Or.inr (fun w => absurd w.2 (Int32.not_lt.mpr h))
  · exact Or.inl h
theorem in_r (x : Int32) {n : Nat} (hn : n + 1 < 2 ^ 31) : ((0 : Int32) ≤ x ∧ x ≤ nI n) ↔ ((0 : Int32) ≤ x ∧ x < nI (n + 1)) := by
  rcases pk_ix x hn with h | h | ⟨j, hj, rfl⟩
  · exact ⟨fun w => absurd w.1 (Int32.not_le.mpr h), fun w => absurd w.1 (Int32.not_le.mpr h)⟩
  · constructor
    · intro w
      have h1 := Int32.le_trans h w.2
      exact absurd h1 (by rw [nI_leI (by omega) (by omega)]; omega)
    · intro w
      exact absurd w.2 (Int32.not_lt.mpr h)
  · have h0 : (0 : Int32) ≤ nI j := nI_pos' (by omega)
    rw [nI_leI (by omega) (by omega), nI_ltI (by omega) (by omega)]
    exact ⟨fun w => ⟨w.1, by omega⟩, fun w => ⟨w.1, by omega⟩⟩
theorem c_famHas {q : Bool} (hT : Tab m) (x : Int32) : F_X1_has N (fo q) x (S m) = some (b2 ((0 : Int32) ≤ x ∧ x < nI (mny q)), S m) := by
  unfold F_X1_has
  refine e_rcv gO ?_
  by_cases h1 : x < 0
  · refine e_t h1 ?_
    rw [b2_f (fun h => absurd h.1 (Int32.not_le.mpr h1))]
    rfl
  · refine e_f h1 ?_
    refine e_ldIV gO (hT.1 q).2.2 ?_
    first
      | (by_cases h2 : x < nI (mny q)
         · refine e_t h2 ?_
           rw [b2_t ⟨Int32.not_lt.mp h1, h2⟩]
           rfl
         · refine e_f h2 ?_
           rw [b2_f (fun h => h2 h.2)]
           rfl)
      | (by_cases h2 : nI (mny q) ≤ x
         · refine e_t h2 ?_
           rw [b2_f (fun h => absurd h.2 (Int32.not_lt.mpr h2))]
           rfl
         · refine e_f h2 ?_
           rw [b2_t ⟨Int32.not_lt.mp h1, Int32.not_le.mp h2⟩]
           rfl)
theorem c_isStore (x : Int32) : F_X8_isStore N x s = some (b2 ((0 : Int32) ≤ x ∧ x < nI 4), s) := by
  unfold F_X8_isStore
  by_cases h1 : x < 0
  · refine e_t h1 ?_
    rw [b2_f (fun h => absurd h.1 (Int32.not_le.mpr h1))]
    rfl
  · refine e_f h1 ?_
    by_cases h2 : (4 : Int32) ≤ x
    · refine e_t h2 ?_
      rw [b2_f (fun h => absurd h.2 (Int32.not_lt.mpr h2))]
      rfl
    · refine e_f h2 ?_
      rw [b2_t ⟨Int32.not_lt.mp h1, Int32.not_le.mp h2⟩]
      rfl
theorem c_isPart (x : Int32) : F_X8_isPart N x s = some (b2 ((0 : Int32) ≤ x ∧ x < nI 2), s) := by
  unfold F_X8_isPart J_X8_isPart_9 J_X8_isPart_14
  rcases rng x (n := 2) (by decide) with ⟨j, hj, rfl⟩ | h
  · rw [b2_t ⟨nI_pos' (by omega), nI_lt hj (by decide)⟩]
    rcases (show j = 0 ∨ j = 1 by omega) with rfl | rfl
    · exact e_t rfl rfl
    · exact e_f (by decide) (e_t rfl rfl)
  · rw [b2_f h]
    refine e_f (fun e => h (by rw [e]; decide)) ?_
    exact e_f (fun e => h (by rw [e]; decide)) rfl
theorem m_inR (x : Int32) {n : Nat} (hn : n + 1 < 2 ^ 31) : F_X9_in N x 0 (nI n) s = some (b2 ((0 : Int32) ≤ x ∧ x < nI (n + 1)), s) := by
  rw [m_in, b2_c (in_r x hn)]
theorem m_isPoint {nn : Nat} (h5 : rI m 322 5 = nI nn) (h8 : nn ≤ 8) (x : Int32) : F_X9_isPoint N 322 x (S m) = some (b2 ((0 : Int32) ≤ x ∧ x < nI nn), S m) := by
  unfold F_X9_isPoint
  refine e_rcv fmO ?_
  refine e_ldIV fmO h5 ?_
  rcases Nat.eq_zero_or_pos nn with rfl | hp
  · have e : F_X9_in N x 0 (nI 0 - 1) (S m) = some (b2 ((0 : Int32) ≤ x ∧ x < nI 0), S m) := by
      rw [m_in]
      rw [b2_f (c := (0 : Int32) ≤ x ∧ x ≤ nI 0 - 1), b2_f]
      · exact fun w => absurd (Int32.lt_of_le_of_lt w.1 w.2) (by decide)
      · exact fun w => absurd (Int32.le_trans w.1 w.2) (by decide)
    refine e_bnd e ?_
    exact rtZ_b2 _ _
  · rw [show nI nn - 1 = nI (nn - 1) from subR (by show 1 ≤ nn; omega)]
    have h := m_inR (N := N) (s := S m) x (n := nn - 1) (by omega)
    rw [show nn - 1 + 1 = nn by omega] at h
    refine e_bnd h ?_
    exact rtZ_b2 _ _
end REL
