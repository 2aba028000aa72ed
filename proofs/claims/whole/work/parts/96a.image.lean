section IMAGE
variable {N : Nat} {m m' : vM} {s : vS}
theorem c_netB_l {a b : Nat} (ha : NetAt a) (hb : NetAt b) (hab : a + 1 ≠ b + 1) : ∀ (d i n : Nat) (m : vM), i + d = 8 → d < n → (∀ j, j < i → rI m (a + 1) j = rI m (b + 1) j) →
    ∃ m', H_X3_become_10 N n a b (nI i) (S m) = some ((), S m') ∧ Fr (fun c _ => c = a + 1) m m' ∧ ∀ j, j < 8 → rI m' (a + 1) j = rI m (b + 1) j
  | _, _, 0, _, _, h, _ => by omega
  | 0, i, n + 1, m, hi, _, h => by
    refine ⟨m, ?_, Fr.rf, fun j hj => h j (by omega)⟩
    refine Eq.trans u_H_X3_become_10 ?_
    exact e_t (by rw [leL (by decide) (by omega)]; show 8 ≤ i; omega) rfl
  | d + 1, i, n + 1, m, hi, hd, h => by
    obtain ⟨m', g1, g2, g3⟩ := c_netB_l ha hb hab d (i + 1) n (wI m (a + 1) i (rI m (b + 1) i)) (by omega) (by omega) (fun j hj => by
      rw [rI_n (a' := b + 1) _ _ (by omega)]
      by_cases z : j = i
      · rw [z, rI_s]
      · rw [rI_n _ _ (by omega)]; exact h j (by omega))
    refine ⟨m', ?_, g2.pI rfl, fun j hj => by rw [g3 j hj, rI_n _ _ (by omega)]⟩
    refine Eq.trans u_H_X3_become_10 ?_
    refine e_f (by rw [leL (by decide) (by omega)]; show ¬ 8 ≤ i; omega) ?_
    refine e_ldR ha.o ha.r1 ?_
    refine e_ldR hb.o hb.r1 ?_
    refine e_alI hb.a1 rfl (by omega) ?_
    refine e_asI ha.a1 rfl (by omega) ?_
    refine e_nm ?_
    rw [addR]
    exact g1
theorem c_netB {a b : Nat} (ha : NetAt a) (hb : NetAt b) (hab : a ≠ b ∧ a ≠ b + 1 ∧ b ≠ a + 1) (hN : 100 ≤ N) :
    ∃ m', F_X3_become N a b (S m) = some ((), S m') ∧ Fr (fun c j => (c = a ∧ j = 0) ∨ c = a + 1) m m' ∧ rI m' a 0 = rI m b 0 ∧ ∀ j, j < 8 → rI m' (a + 1) j = rI m (b + 1) j := by
  obtain ⟨m', g1, g2, g3⟩ := c_netB_l (N := N) ha hb (by omega) 8 0 N (wI m a 0 (rI m b 0)) rfl (by omega) (fun j hj => absurd hj (Nat.not_lt_zero _))
  have f : Fr (fun c j => (c = a ∧ j = 0) ∨ c = a + 1) m (wI m a 0 (rI m b 0)) := Fr.rf.sI (Or.inl ⟨rfl, rfl⟩)
  refine ⟨m', ?_, f.tr (g2.mo (fun _ _ w => Or.inr w)), by rw [g2.i (by omega), rI_s], fun j hj => by rw [g3 j hj, rI_n _ _ (by omega)]⟩
  unfold F_X3_become
  refine e_rcv ha.o ?_
  refine e_ldI hb.o ?_
  refine e_stI ha.o ?_
  exact g1
/-! shelves: the one in use (false), the one kept (true) -/
def sb (k : Bool) : Nat := if k = true then 307 else 289
theorem sbO {k : Bool} : isOc (sb k) 5 = true := by cases k <;> decide +kernel
theorem sbR0 {k : Bool} : RRf (sb k) 0 = some (sb k + 1) := by cases k <;> rfl
theorem sbR1 {k : Bool} : RRf (sb k) 1 = some (sb k + 2) := by cases k <;> rfl
theorem sbA0 {k : Bool} (i : Int32) : isAc (sb k + 1) 3 i = inb i 4 := by cases k <;> rfl
theorem sbA1 {k : Bool} (i : Int32) : isAc (sb k + 2) 5 i = inb i 4 := by cases k <;> rfl
theorem sbRs : ∀ k st, st < 4 → RRf (sb k + 2) st = some (sb k + 3 + 3 * st) := by decide +kernel
theorem sbS {k : Bool} {st : Nat} (h : st < 4) : SumAt (sb k + 3 + 3 * st) := by
  cases k with
  | false => exact sumS h
  | true => exact sumK h
theorem sb_ne (k : Bool) : (sb k = 289 ∧ sb (!k) = 307) ∨ (sb k = 307 ∧ sb (!k) = 289) := by cases k <;> decide
/-- holds are 0 or 1 -/
def H01 (m : vM) (a : Nat) : Prop := ∀ st, st < 4 → rI m a st = 0 ∨ rI m a st = 1
theorem c_shelfB_l {k : Bool} (hN : 100 ≤ N) : ∀ (d i n : Nat) (m : vM), i + d = 4 → d < n → H01 m (sb (!k) + 1) → (∀ j, j < i → rI m (sb k + 1) j = rI m (sb (!k) + 1) j ∧ rI m (sb k + 3 + 3 * j) 0 = rI m (sb (!k) + 3 + 3 * j) 0 ∧ ∀ t, t < 29 → rowC m (sb k + 3 + 3 * j) t = rowC m (sb (!k) + 3 + 3 * j) t) →
    ∃ m', H_X5_become_2 N n (sb k) (sb (!k)) (nI i) (S m) = some ((), S m') ∧ Fr (fun c _ => sb k + 1 ≤ c ∧ c ≤ sb k + 14) m m' ∧ ∀ j, j < 4 → rI m' (sb k + 1) j = rI m (sb (!k) + 1) j ∧ rI m' (sb k + 3 + 3 * j) 0 = rI m (sb (!k) + 3 + 3 * j) 0 ∧ ∀ t, t < 29 → rowC m' (sb k + 3 + 3 * j) t = rowC m (sb (!k) + 3 + 3 * j) t
  | _, _, 0, _, _, h, _, _ => by omega
  | 0, i, n + 1, m, hi, _, _, h => by
    refine ⟨m, ?_, Fr.rf, fun j hj => h j (by omega)⟩
    refine Eq.trans u_H_X5_become_2 ?_
    exact e_t (by rw [leL (by decide) (by omega)]; show 4 ≤ i; omega) rfl
  | d + 1, i, n + 1, m, hi, hd, h01, h => by
    have hsb := sb_ne k
    obtain ⟨m1, c1, c2, c3, c4⟩ := c_copy (N := N) (m := wI m (sb k + 1) i (rI m (sb (!k) + 1) i)) (a := sb k + 3 + 3 * i) (b := sb (!k) + 3 + 3 * i) (sbS (by omega)) (sbS (by omega)) (by omega) hN
    have f1 : Fr (fun c j => (c = sb k + 1 ∧ j = i) ∨ (sb k + 3 + 3 * i ≤ c ∧ c ≤ sb k + 3 + 3 * i + 2)) m m1 := fun c j hc => by
      rw [c2, if_neg (by omega), c4 c j (by omega), rI_n _ _ (by omega)]
      exact ⟨rfl, rfl⟩
    have src : ∀ j, j < 4 → rI m1 (sb (!k) + 1) j = rI m (sb (!k) + 1) j ∧ rI m1 (sb (!k) + 3 + 3 * j) 0 = rI m (sb (!k) + 3 + 3 * j) 0 ∧ ∀ t, t < 29 → rowC m1 (sb (!k) + 3 + 3 * j) t = rowC m (sb (!k) + 3 + 3 * j) t := fun j hj => ⟨f1.i (by omega), f1.i (by omega), fun t ht => by
      show (rJ m1 _ t, rJ m1 _ t) = (rJ m _ t, rJ m _ t)
      rw [f1.j (by omega), f1.j (by omega)]⟩
    obtain ⟨m', g1, g2, g3⟩ := c_shelfB_l hN d (i + 1) n m1 (by omega) (by omega) (fun st hs => by rw [(src st hs).1]; exact h01 st hs) (fun j hj => by
      have sj := src j (by omega)
      rw [sj.1, sj.2.1]
      by_cases z : j = i
      · subst z
        refine ⟨by rw [c2, if_neg (by omega), rI_s], by rw [c2, if_pos ⟨rfl, rfl⟩, rI_n _ _ (by omega)], fun t ht => ?_⟩
        rw [sj.2.2 t ht]
        show (rJ m1 _ t, rJ m1 _ t) = (rJ m _ t, rJ m _ t)
        rw [(c3 t ht).1, (c3 t ht).2]
        rfl
      · have hj' := h j (by omega)
        refine ⟨by rw [f1.i (by omega)]; exact hj'.1, by rw [f1.i (by omega)]; exact hj'.2.1, fun t ht => ?_⟩
        rw [sj.2.2 t ht, ← hj'.2.2 t ht]
        show (rJ m1 _ t, rJ m1 _ t) = (rJ m _ t, rJ m _ t)
        rw [f1.j (by omega), f1.j (by omega)])
    refine ⟨m', ?_, (f1.mo (fun c j w => by omega)).tr g2, fun j hj => ?_⟩
    · refine Eq.trans u_H_X5_become_2 ?_
      refine e_f (by rw [leL (by decide) (by omega)]; show ¬ 4 ≤ i; omega) ?_
      refine e_ldR sbO sbR0 ?_
      refine e_ldR sbO sbR0 ?_
      refine e_alZ sbA0 rfl (by omega) ?_
      refine e_asZ sbA0 rfl (by omega) (h01 i (by omega)) ?_
      refine e_ldR sbO sbR1 ?_
      refine e_alR sbA1 (by decide) rfl (by omega) (sbRs k i (by omega)) ?_
      refine e_ldR sbO sbR1 ?_
      refine e_alR sbA1 (by decide) rfl (by omega) (sbRs (!k) i (by omega)) ?_
      refine e_bnd c1 ?_
      refine e_nm ?_
      rw [addR]
      exact g1
    · have sj := src j hj
      have gj := g3 j hj
      exact ⟨gj.1.trans sj.1, gj.2.1.trans sj.2.1, fun t ht => (gj.2.2 t ht).trans (sj.2.2 t ht)⟩
theorem c_shelfB {k : Bool} (hN : 100 ≤ N) (h : H01 m (sb (!k) + 1)) :
    ∃ m', F_X5_become N (sb k) (sb (!k)) (S m) = some ((), S m') ∧ Fr (fun c _ => sb k + 1 ≤ c ∧ c ≤ sb k + 14) m m' ∧ ∀ j, j < 4 → rI m' (sb k + 1) j = rI m (sb (!k) + 1) j ∧ rI m' (sb k + 3 + 3 * j) 0 = rI m (sb (!k) + 3 + 3 * j) 0 ∧ ∀ t, t < 29 → rowC m' (sb k + 3 + 3 * j) t = rowC m (sb (!k) + 3 + 3 * j) t := by
  obtain ⟨m', g1, g2, g3⟩ := c_shelfB_l (N := N) (k := k) hN 4 0 N m rfl (by omega) h (fun j hj => absurd hj (Nat.not_lt_zero _))
  refine ⟨m', ?_, g2, g3⟩
  unfold F_X5_become
  exact e_rcv sbO g1
/-! the model's copies -/
theorem m_img_r {nn : Nat} (h8 : nn ≤ 8) : ∀ (d i n : Nat) (m : vM), i + d = nn → d < n → rI m 322 5 = nI nn → (∀ j, j < i → rI m 335 j = rI m 328 j) →
    ∃ m', H_X9_image_15 N n 322 (nI i) (S m) = H_X9_image_43 N N 322 0 (S m') ∧ Fr (fun c _ => c = 335) m m' ∧ ∀ j, j < nn → rI m' 335 j = rI m 328 j
  | _, _, 0, _, _, h, _, _ => by omega
  | 0, i, n + 1, m, hi, _, h5, h => by
    refine ⟨m, ?_, Fr.rf, fun j hj => h j (by omega)⟩
    refine Eq.trans u_H_X9_image_15 ?_
    refine e_ldIV fmO h5 ?_
    exact e_t (by rw [nI_leI (by omega) (by omega)]; omega) rfl
  | d + 1, i, n + 1, m, hi, hd, h5, h => by
    obtain ⟨m', g1, g2, g3⟩ := m_img_r h8 d (i + 1) n (wI m 335 i (rI m 328 i)) (by omega) (by omega) (by rw [rI_n _ _ (by omega)]; exact h5) (fun j hj => by
      rw [rI_n (a' := 328) _ _ (by omega)]
      by_cases z : j = i
      · rw [z, rI_s]
      · rw [rI_n _ _ (by omega)]; exact h j (by omega))
    refine ⟨m', ?_, g2.pI rfl, fun j hj => by rw [g3 j hj, rI_n _ _ (by omega)]⟩
    refine Eq.trans u_H_X9_image_15 ?_
    refine e_ldIV fmO h5 ?_
    refine e_f (by rw [nI_leI (by omega) (by omega)]; omega) ?_
    refine e_ldR fmO fmR17 ?_
    refine e_ldR fmO fmR6 ?_
    refine e_alI fmA6 rfl (by omega) ?_
    refine e_asI fmA17 rfl (by omega) ?_
    refine e_nm ?_
    rw [addR]
    exact g1
theorem m_img_s : ∀ (d i n : Nat) (m : vM), i + d = 4 → d < n → H01 m 330 → (∀ j, j < i → rI m 336 j = rI m 330 j ∧ rI m 337 j = rI m 331 j) →
    ∃ m', H_X9_image_43 N n 322 (nI i) (S m) = H_X9_image_80 N N 322 0 (S m') ∧ Fr (fun c _ => c = 336 ∨ c = 337) m m' ∧ ∀ j, j < 4 → rI m' 336 j = rI m 330 j ∧ rI m' 337 j = rI m 331 j
  | _, _, 0, _, _, h, _, _ => by omega
  | 0, i, n + 1, m, hi, _, _, h => by
    refine ⟨m, ?_, Fr.rf, fun j hj => h j (by omega)⟩
    refine Eq.trans u_H_X9_image_43 ?_
    exact e_t (by rw [leL (by decide) (by omega)]; show 4 ≤ i; omega) rfl
  | d + 1, i, n + 1, m, hi, hd, h01, h => by
    have f0 : Fr (fun c _ => c = 336 ∨ c = 337) m (wI (wI m 336 i (rI m 330 i)) 337 i (rI m 331 i)) := (Fr.rf.sI (Or.inl rfl)).sI (Or.inr rfl)
    obtain ⟨m', g1, g2, g3⟩ := m_img_s d (i + 1) n (wI (wI m 336 i (rI m 330 i)) 337 i (rI m 331 i)) (by omega) (by omega) (fun st hs => by rw [f0.i (by omega)]; exact h01 st hs) (fun j hj => by
      rw [f0.i (a := 330) (by omega), f0.i (a := 331) (by omega)]
      by_cases z : j = i
      · rw [z, rI_s, rI_n _ _ (by omega), rI_s]; exact ⟨rfl, rfl⟩
      · rw [rI_n _ _ (by omega), rI_n _ _ (by omega), rI_n _ _ (by omega), rI_n _ _ (by omega)]; exact h j (by omega))
    refine ⟨m', ?_, f0.tr g2, fun j hj => by rw [(g3 j hj).1, (g3 j hj).2, f0.i (by omega), f0.i (by omega)]; exact ⟨rfl, rfl⟩⟩
    refine Eq.trans u_H_X9_image_43 ?_
    refine e_f (by rw [leL (by decide) (by omega)]; show ¬ 4 ≤ i; omega) ?_
    refine e_ldR fmO fmR18 ?_
    refine e_ldR fmO fmR9 ?_
    refine e_alZ fmA9 rfl (by omega) ?_
    refine e_asZ fmA18 rfl (by omega) (h01 i (by omega)) ?_
    refine e_ldR fmO fmR19 ?_
    refine e_ldR fmO fmR10 ?_
    refine e_alIV fmA10 rfl (by omega) (rI_n _ _ (by omega)) ?_
    refine e_asI fmA19 rfl (by omega) ?_
    refine e_nm ?_
    rw [addR]
    exact g1
theorem m_img_j {nn : Nat} : ∀ (d i n : Nat) (m : vM), i + d = 116 → d < n → rI m 322 5 = nI nn → (∀ j, j < i → rJ m 338 j = rJ m 332 j ∧ rJ m 339 j = rJ m 333 j) →
    ∃ m', H_X9_image_80 N n 322 (nI i) (S m) = some (nI nn, S m') ∧ Fr (fun c _ => c = 338 ∨ c = 339) m m' ∧ ∀ j, j < 116 → rJ m' 338 j = rJ m 332 j ∧ rJ m' 339 j = rJ m 333 j
  | _, _, 0, _, _, h, _, _ => by omega
  | 0, i, n + 1, m, hi, _, h5, h => by
    refine ⟨m, ?_, Fr.rf, fun j hj => h j (by omega)⟩
    refine Eq.trans u_H_X9_image_80 ?_
    refine e_t (by rw [leL (by decide) (by omega)]; show 116 ≤ i; omega) ?_
    exact e_ldIV fmO h5 rfl
  | d + 1, i, n + 1, m, hi, hd, h5, h => by
    have f0 : Fr (fun c _ => c = 338 ∨ c = 339) m (wJ (wJ m 338 i (rJ m 332 i)) 339 i (rJ m 333 i)) := (Fr.rf.sJ (Or.inl rfl)).sJ (Or.inr rfl)
    obtain ⟨m', g1, g2, g3⟩ := m_img_j d (i + 1) n (wJ (wJ m 338 i (rJ m 332 i)) 339 i (rJ m 333 i)) (by omega) (by omega) h5 (fun j hj => by
      rw [f0.j (a := 332) (by omega), f0.j (a := 333) (by omega)]
      by_cases z : j = i
      · rw [z, rJ_s, rJ_n _ _ (by omega), rJ_s]; exact ⟨rfl, rfl⟩
      · rw [rJ_n _ _ (by omega), rJ_n _ _ (by omega), rJ_n _ _ (by omega), rJ_n _ _ (by omega)]; exact h j (by omega))
    refine ⟨m', ?_, f0.tr g2, fun j hj => by rw [(g3 j hj).1, (g3 j hj).2, f0.j (by omega), f0.j (by omega)]; exact ⟨rfl, rfl⟩⟩
    refine Eq.trans u_H_X9_image_80 ?_
    refine e_f (by rw [leL (by decide) (by omega)]; show ¬ 116 ≤ i; omega) ?_
    refine e_ldR fmO fmR20 ?_
    refine e_ldR fmO fmR11 ?_
    refine e_alJ fmA11 rfl (by omega) ?_
    refine e_asJ fmA20 rfl (by omega) ?_
    refine e_ldR fmO fmR21 ?_
    refine e_ldR fmO fmR12 ?_
    refine e_alJV fmA12 rfl (by omega) (rJ_n _ _ (by omega)) ?_
    refine e_asJ fmA21 rfl (by omega) ?_
    refine e_nm ?_
    rw [addR]
    exact g1
theorem m_bak_r {nn : Nat} (h8 : nn ≤ 8) : ∀ (d i n : Nat) (m : vM), i + d = nn → d < n → rI m 322 5 = nI nn → (∀ j, j < i → rI m 328 j = rI m 335 j) →
    ∃ m', H_X9_back_20 N n 322 (nI i) (S m) = H_X9_back_48 N N 322 0 (S m') ∧ Fr (fun c _ => c = 328) m m' ∧ ∀ j, j < nn → rI m' 328 j = rI m 335 j
  | _, _, 0, _, _, h, _, _ => by omega
  | 0, i, n + 1, m, hi, _, h5, h => by
    refine ⟨m, ?_, Fr.rf, fun j hj => h j (by omega)⟩
    refine Eq.trans u_H_X9_back_20 ?_
    refine e_ldIV fmO h5 ?_
    exact e_t (by rw [nI_leI (by omega) (by omega)]; omega) rfl
  | d + 1, i, n + 1, m, hi, hd, h5, h => by
    obtain ⟨m', g1, g2, g3⟩ := m_bak_r h8 d (i + 1) n (wI m 328 i (rI m 335 i)) (by omega) (by omega) (by rw [rI_n _ _ (by omega)]; exact h5) (fun j hj => by
      rw [rI_n (a' := 335) _ _ (by omega)]
      by_cases z : j = i
      · rw [z, rI_s]
      · rw [rI_n _ _ (by omega)]; exact h j (by omega))
    refine ⟨m', ?_, g2.pI rfl, fun j hj => by rw [g3 j hj, rI_n _ _ (by omega)]⟩
    refine Eq.trans u_H_X9_back_20 ?_
    refine e_ldIV fmO h5 ?_
    refine e_f (by rw [nI_leI (by omega) (by omega)]; omega) ?_
    refine e_ldR fmO fmR6 ?_
    refine e_ldR fmO fmR17 ?_
    refine e_alI fmA17 rfl (by omega) ?_
    refine e_asI fmA6 rfl (by omega) ?_
    refine e_nm ?_
    rw [addR]
    exact g1
theorem m_bak_s : ∀ (d i n : Nat) (m : vM), i + d = 4 → d < n → H01 m 336 → (∀ j, j < i → rI m 330 j = rI m 336 j ∧ rI m 331 j = rI m 337 j) →
    ∃ m', H_X9_back_48 N n 322 (nI i) (S m) = H_X9_back_85 N N 322 0 (S m') ∧ Fr (fun c j => c = 330 ∨ (c = 331 ∧ j < 4)) m m' ∧ ∀ j, j < 4 → rI m' 330 j = rI m 336 j ∧ rI m' 331 j = rI m 337 j
  | _, _, 0, _, _, h, _, _ => by omega
  | 0, i, n + 1, m, hi, _, _, h => by
    refine ⟨m, ?_, Fr.rf, fun j hj => h j (by omega)⟩
    refine Eq.trans u_H_X9_back_48 ?_
    exact e_t (by rw [leL (by decide) (by omega)]; show 4 ≤ i; omega) rfl
  | d + 1, i, n + 1, m, hi, hd, h01, h => by
    have f0 : Fr (fun c j => c = 330 ∨ (c = 331 ∧ j < 4)) m (wI (wI m 330 i (rI m 336 i)) 331 i (rI m 337 i)) := (Fr.rf.sI (Or.inl rfl)).sI (Or.inr ⟨rfl, by omega⟩)
    obtain ⟨m', g1, g2, g3⟩ := m_bak_s d (i + 1) n (wI (wI m 330 i (rI m 336 i)) 331 i (rI m 337 i)) (by omega) (by omega) (fun st hs => by rw [f0.i (by omega)]; exact h01 st hs) (fun j hj => by
      rw [f0.i (a := 336) (by omega), f0.i (a := 337) (by omega)]
      by_cases z : j = i
      · rw [z, rI_s, rI_n _ _ (by omega), rI_s]; exact ⟨rfl, rfl⟩
      · rw [rI_n _ _ (by omega), rI_n _ _ (by omega), rI_n _ _ (by omega), rI_n _ _ (by omega)]; exact h j (by omega))
    refine ⟨m', ?_, f0.tr g2, fun j hj => by rw [(g3 j hj).1, (g3 j hj).2, f0.i (by omega), f0.i (by omega)]; exact ⟨rfl, rfl⟩⟩
    refine Eq.trans u_H_X9_back_48 ?_
    refine e_f (by rw [leL (by decide) (by omega)]; show ¬ 4 ≤ i; omega) ?_
    refine e_ldR fmO fmR9 ?_
    refine e_ldR fmO fmR18 ?_
    refine e_alZ fmA18 rfl (by omega) ?_
    refine e_asZ fmA9 rfl (by omega) (h01 i (by omega)) ?_
    refine e_ldR fmO fmR10 ?_
    refine e_ldR fmO fmR19 ?_
    refine e_alIV fmA19 rfl (by omega) (rI_n _ _ (by omega)) ?_
    refine e_asI fmA10 rfl (by omega) ?_
    refine e_nm ?_
    rw [addR]
    exact g1
theorem m_bak_j {nn : Nat} : ∀ (d i n : Nat) (m : vM), i + d = 116 → d < n → rI m 322 5 = nI nn → (∀ j, j < i → rJ m 332 j = rJ m 338 j ∧ rJ m 333 j = rJ m 339 j) →
    ∃ m', H_X9_back_85 N n 322 (nI i) (S m) = some (nI nn, S m') ∧ Fr (fun c j => (c = 332 ∨ c = 333) ∧ j < 116) m m' ∧ ∀ j, j < 116 → rJ m' 332 j = rJ m 338 j ∧ rJ m' 333 j = rJ m 339 j
  | _, _, 0, _, _, h, _, _ => by omega
  | 0, i, n + 1, m, hi, _, h5, h => by
    refine ⟨m, ?_, Fr.rf, fun j hj => h j (by omega)⟩
    refine Eq.trans u_H_X9_back_85 ?_
    refine e_t (by rw [leL (by decide) (by omega)]; show 116 ≤ i; omega) ?_
    exact e_ldIV fmO h5 rfl
  | d + 1, i, n + 1, m, hi, hd, h5, h => by
    have f0 : Fr (fun c j => (c = 332 ∨ c = 333) ∧ j < 116) m (wJ (wJ m 332 i (rJ m 338 i)) 333 i (rJ m 339 i)) := (Fr.rf.sJ ⟨Or.inl rfl, by omega⟩).sJ ⟨Or.inr rfl, by omega⟩
    obtain ⟨m', g1, g2, g3⟩ := m_bak_j d (i + 1) n (wJ (wJ m 332 i (rJ m 338 i)) 333 i (rJ m 339 i)) (by omega) (by omega) h5 (fun j hj => by
      rw [f0.j (a := 338) (by omega), f0.j (a := 339) (by omega)]
      by_cases z : j = i
      · rw [z, rJ_s, rJ_n _ _ (by omega), rJ_s]; exact ⟨rfl, rfl⟩
      · rw [rJ_n _ _ (by omega), rJ_n _ _ (by omega), rJ_n _ _ (by omega), rJ_n _ _ (by omega)]; exact h j (by omega))
    refine ⟨m', ?_, f0.tr g2, fun j hj => by rw [(g3 j hj).1, (g3 j hj).2, f0.j (by omega), f0.j (by omega)]; exact ⟨rfl, rfl⟩⟩
    refine Eq.trans u_H_X9_back_85 ?_
    refine e_f (by rw [leL (by decide) (by omega)]; show ¬ 116 ≤ i; omega) ?_
    refine e_ldR fmO fmR11 ?_
    refine e_ldR fmO fmR20 ?_
    refine e_alJ fmA20 rfl (by omega) ?_
    refine e_asJ fmA11 rfl (by omega) ?_
    refine e_ldR fmO fmR12 ?_
    refine e_ldR fmO fmR21 ?_
    refine e_alJV fmA21 rfl (by omega) (rJ_n _ _ (by omega)) ?_
    refine e_asJ fmA12 rfl (by omega) ?_
    refine e_nm ?_
    rw [addR]
    exact g1
theorem StR.h01 {hC sC hM kM uM lM : Nat} (h : ∀ st, st < 4 → StR m hC sC hM kM uM lM st) : H01 m hC ∧ H01 m hM := by
  constructor
  · intro st hs
    rcases h st hs with ⟨h1, -⟩ | ⟨k, o, h1, -⟩
    · exact Or.inl h1
    · exact Or.inr h1
  · intro st hs
    rcases h st hs with ⟨-, h1, -⟩ | ⟨k, o, -, h1, -⟩
    · exact Or.inl h1
    · exact Or.inr h1
/-- a store's relation, at another place with the same contents -/
theorem StR.move {hC sC hM kM uM lM hC' sC' hM' kM' uM' lM' st : Nat} (h : StR m hC sC hM kM uM lM st) (e1 : rI m' hC' st = rI m hC st) (e2 : rI m' (sC' + 3 * st) 0 = rI m (sC + 3 * st) 0) (e3 : ∀ t, t < 29 → rowC m' (sC' + 3 * st) t = rowC m (sC + 3 * st) t) (e4 : rI m' hM' st = rI m hM st) (e5 : rI m' kM' st = rI m kM st) (e6 : ∀ t, t < 29 → rJ m' uM' (29 * st + t) = rJ m uM (29 * st + t) ∧ rJ m' lM' (29 * st + t) = rJ m lM (29 * st + t)) : StR m' hC' sC' hM' kM' uM' lM' st := by
  rcases h with ⟨h1, h2, h3⟩ | ⟨k, o, h1, h2, h3, h4, h5, h6⟩
  · exact Or.inl ⟨e1.trans h1, e4.trans h2, e2.trans h3.1, fun t ht => (e3 t ht).trans (h3.2 t ht)⟩
  · exact Or.inr ⟨k, o, e1.trans h1, e4.trans h2, h3, ⟨e2.trans h4.1, fun t ht => (e3 t ht).trans (h4.2 t ht)⟩, e5.trans h5, fun t ht => by rw [(e6 t ht).1, (e6 t ht).2]; exact h6 t ht⟩
theorem call_image (hN : 1000 ≤ N) (hR : Rel m) : SameI (F_X8_image N 0) (F_X9_image N 322) m := by
  obtain ⟨hT, ⟨nn, r, hh⟩, hS, hTp, -⟩ := id hR
  obtain ⟨c1, c2, c3, c4, c5, c6⟩ := id hh
  have hS01 := StR.h01 hS
  obtain ⟨m1, a1, a2, a3, a4⟩ := c_netB (N := N) (m := m) net304 net286 (by omega) (by omega)
  have f1 : Fr (fun c _ => 304 ≤ c ∧ c ≤ 305) m m1 := a2.mo (fun c j w => by omega)
  obtain ⟨m2, b1, b2', b3⟩ := c_shelfB (N := N) (m := m1) (k := true) (by omega) (fun st hs => by
    show rI m1 290 st = 0 ∨ rI m1 290 st = 1
    rw [f1.i (by omega)]
    exact hS01.1 st hs)
  have f2 : Fr (fun c _ => 304 ≤ c ∧ c ≤ 321) m m2 := (f1.mo (fun c j w => by omega)).tr (b2'.mo (fun c j w => by have w : 308 ≤ c ∧ c ≤ 321 := w; omega))
  have f3 : Fr (fun c j => (304 ≤ c ∧ c ≤ 321) ∨ (c = 0 ∧ j = 11)) m (wI m2 0 11 1) := (f2.mo (fun _ _ w => Or.inl w)).sI (Or.inr ⟨rfl, rfl⟩)
  -- the model
  have f4 : Fr (fun c j => (304 ≤ c ∧ c ≤ 321) ∨ (c = 0 ∧ j = 11) ∨ (c = 322 ∧ (j = 15 ∨ j = 16))) m (wI (wI (wI m2 0 11 1) 322 15 1) 322 16 (nI nn)) := ((f3.mo (fun c j w => by omega)).sI (by omega)).sI (by omega)
  obtain ⟨m3, d1, d2, d3⟩ := m_img_r (N := N) c1 nn 0 N (wI (wI (wI m2 0 11 1) 322 15 1) 322 16 (nI nn)) (by omega) (by omega) (by rw [f4.i (by omega)]; exact c5) (fun j hj => absurd hj (Nat.not_lt_zero _))
  obtain ⟨m4, e1, e2, e3⟩ := m_img_s (N := N) 4 0 N m3 rfl (by omega) (fun st hs => by rw [d2.i (by omega), f4.i (by omega)]; exact hS01.2 st hs) (fun j hj => absurd hj (Nat.not_lt_zero _))
  obtain ⟨m5, g1, g2, g3⟩ := m_img_j (N := N) (nn := nn) 116 0 N m4 rfl (by omega) (by rw [e2.i (by omega), d2.i (by omega), f4.i (by omega)]; exact c5) (fun j hj => absurd hj (Nat.not_lt_zero _))
  have f5 : Fr (fun c j => imgP c j ∨ c = 306 ∨ c = 307 ∨ c = 309) m m5 := (((f4.mo (fun c j w => by unfold imgP; omega)).tr (d2.mo (fun c j w => by unfold imgP; omega))).tr (e2.mo (fun c j w => by unfold imgP; omega))).tr (g2.mo (fun c j w => by unfold imgP; omega))
  refine ⟨nI nn, wI m2 0 11 1, m5, ?_, ?_, ?_⟩
  · unfold F_X8_image
    refine e_rcv fxO ?_
    refine e_ldR fxO fxR9 ?_
    refine e_ldR fxO fxR7 ?_
    refine e_bnd a1 ?_
    refine e_ldR fxO fxR10 ?_
    refine e_ldR fxO fxR8 ?_
    refine e_bnd b1 ?_
    refine e_stZ fxO (Or.inr rfl) ?_
    refine e_ldR fxO fxR7 ?_
    refine e_ldIV net286.o (show rI (wI m2 0 11 1) 286 0 = nI nn by rw [f3.i (by omega)]; exact c4) ?_
    rfl
  · unfold F_X9_image
    refine e_rcv fmO ?_
    refine e_stZ fmO (Or.inr rfl) ?_
    refine e_ldIV fmO (show rI (wI (wI m2 0 11 1) 322 15 1) 322 5 = nI nn by rw [rI_n _ _ (by omega), f3.i (by omega)]; exact c5) ?_
    refine e_stI fmO ?_
    exact d1.trans (e1.trans g1)
  · have keep : ∀ a j, prP a j → ¬ imgP a j → rI m5 a j = rI m a j ∧ rJ m5 a j = rJ m a j := fun a j hp hn => f5 a j (fun w => w.elim hn (fun w => by unfold prP tabP hanP stoP tapP imgP at hp; omega))
    obtain ⟨z, t, hTp⟩ := hTp
    have w15 : rI m5 322 15 = 1 := by
      rw [g2.i (by omega), e2.i (by omega), d2.i (by omega), rI_n _ _ (by omega), rI_s]
    have w16 : rI m5 322 16 = nI nn := by
      rw [g2.i (by omega), e2.i (by omega), d2.i (by omega), rI_s]
    have w11 : rI m5 0 11 = 1 := by
      rw [g2.i (by omega), e2.i (by omega), d2.i (by omega), rI_n _ _ (by omega), rI_n _ _ (by omega), rI_s]
    have back2 : ∀ a j, a ≤ 321 → a ≠ 0 → rI m5 a j = rI m2 a j ∧ rJ m5 a j = rJ m2 a j := fun a j h1 h2 => by
      rw [g2.i (by omega), e2.i (by omega), d2.i (by omega), rI_n _ _ (by omega), rI_n _ _ (by omega), rI_n _ _ (by omega), g2.j (by omega), e2.j (by omega), d2.j (by omega)]
      exact ⟨rfl, rfl⟩
    refine ⟨hT.fr (fun a j ha => keep a j (Or.inl ha) (by unfold tabP at ha; unfold imgP; omega)), ⟨nn, r, hh.same (fun a j ha => (keep a j (Or.inr (Or.inl (by unfold hanP; omega))) (by unfold imgP; omega)).1)⟩, hS.same (fun a j ha => keep a j (Or.inr (Or.inr (Or.inl ha))) (by unfold stoP at ha; unfold imgP; omega)), ⟨z, t, hTp.same (fun a j ha => (keep a j (Or.inr (Or.inr (Or.inr (Or.inl ha)))) (by unfold tapP at ha; unfold imgP; omega)).1)⟩, Or.inr ⟨w11, w15, ⟨nn, r, c1, c2, c3, ?_, w16, fun i hi => ⟨?_, ?_, (c6 i hi).2.2⟩⟩, fun st hs => ?_⟩⟩
    · rw [(back2 304 0 (by omega) (by omega)).1, b2'.i (by show ¬ (308 ≤ 304 ∧ _); omega), a3]
      exact c4
    · rw [(back2 305 i (by omega) (by omega)).1, b2'.i (by show ¬ (308 ≤ 305 ∧ _); omega), a4 i (by omega)]
      exact (c6 i hi).1
    · rw [g2.i (by omega), e2.i (by omega), d3 i hi, f4.i (by omega)]
      exact (c6 i hi).2.1
    · have b3s := b3 st hs
      have e3s := e3 st hs
      refine (hS st hs).move ?_ ?_ (fun t ht => ?_) ?_ ?_ (fun t ht => ?_)
      · rw [(back2 308 st (by omega) (by omega)).1]
        exact b3s.1.trans (f1.i (by show ¬ (304 ≤ 290 ∧ _); omega))
      · rw [(back2 _ 0 (by omega) (by omega)).1]
        exact b3s.2.1.trans (f1.i (by show ¬ (304 ≤ 292 + 3 * st ∧ _); omega))
      · have q := b3s.2.2 t ht
        show (rJ m5 (310 + 3 * st + 1) t, rJ m5 (310 + 3 * st + 2) t) = (rJ m (292 + 3 * st + 1) t, rJ m (292 + 3 * st + 2) t)
        rw [(back2 _ t (by omega) (by omega)).2, (back2 _ t (by omega) (by omega)).2]
        refine Eq.trans q ?_
        show (rJ m1 (292 + 3 * st + 1) t, rJ m1 (292 + 3 * st + 2) t) = _
        rw [f1.j (by omega), f1.j (by omega)]
      · rw [g2.i (by omega), e3s.1, d2.i (by omega), f4.i (by omega)]
      · rw [g2.i (by omega), e3s.2, d2.i (by omega), f4.i (by omega)]
      · have q := g3 (29 * st + t) (by omega)
        rw [q.1, q.2, e2.j (by omega), e2.j (by omega), d2.j (by omega), d2.j (by omega), f4.j (by omega), f4.j (by omega)]
        exact ⟨rfl, rfl⟩
theorem call_back (hN : 1000 ≤ N) (hR : Rel m) : SameI (F_X8_back N 0) (F_X9_back N 322) m := by
  obtain ⟨hT, -, -, hTp, hI⟩ := id hR
  rcases hI with ⟨i1, i2⟩ | ⟨i1, i2, ⟨nn, r, hh⟩, hS⟩
  · refine SameI.ro (-3) hR ?_ ?_
    · unfold F_X8_back
      refine e_rcv fxO ?_
      refine e_ldIV fxO i1 ?_
      exact e_t rfl rfl
    · unfold F_X9_back
      refine e_rcv fmO ?_
      refine e_ldIV fmO i2 ?_
      exact e_t rfl rfl
  obtain ⟨c1, c2, c3, c4, c5, c6⟩ := id hh
  have hS01 := StR.h01 hS
  obtain ⟨m1, a1, a2, a3, a4⟩ := c_netB (N := N) (m := m) net286 net304 (by omega) (by omega)
  have f1 : Fr (fun c _ => 286 ≤ c ∧ c ≤ 287) m m1 := a2.mo (fun c j w => by omega)
  obtain ⟨m2, b1, b2', b3⟩ := c_shelfB (N := N) (m := m1) (k := false) (by omega) (fun st hs => by
    show rI m1 308 st = 0 ∨ rI m1 308 st = 1
    rw [f1.i (by omega)]
    exact hS01.1 st hs)
  have f2 : Fr (fun c _ => 286 ≤ c ∧ c ≤ 303) m m2 := (f1.mo (fun c j w => by omega)).tr (b2'.mo (fun c j w => by have w : 290 ≤ c ∧ c ≤ 303 := w; omega))
  have f4 : Fr (fun c j => (286 ≤ c ∧ c ≤ 303) ∨ (c = 322 ∧ j = 5)) m (wI m2 322 5 (nI nn)) := (f2.mo (fun _ _ w => Or.inl w)).sI (Or.inr ⟨rfl, rfl⟩)
  obtain ⟨m3, d1, d2, d3⟩ := m_bak_r (N := N) c1 nn 0 N (wI m2 322 5 (nI nn)) (by omega) (by omega) (rI_s _ _ _ _) (fun j hj => absurd hj (Nat.not_lt_zero _))
  obtain ⟨m4, e1, e2, e3⟩ := m_bak_s (N := N) 4 0 N m3 rfl (by omega) (fun st hs => by rw [d2.i (by omega), f4.i (by omega)]; exact hS01.2 st hs) (fun j hj => absurd hj (Nat.not_lt_zero _))
  obtain ⟨m5, g1, g2, g3⟩ := m_bak_j (N := N) (nn := nn) 116 0 N m4 rfl (by omega) (by rw [e2.i (by omega), d2.i (by omega), rI_s]) (fun j hj => absurd hj (Nat.not_lt_zero _))
  have n289 : rI m2 286 0 = nI nn := by rw [b2'.i (by show ¬ (290 ≤ 286 ∧ _); omega), a3]; exact c4
  refine ⟨nI nn, m2, m5, ?_, ?_, ?_⟩
  · unfold F_X8_back
    refine e_rcv fxO ?_
    refine e_ldIV fxO i1 ?_
    refine e_f (by decide) ?_
    refine e_ldR fxO fxR7 ?_
    refine e_ldR fxO fxR9 ?_
    refine e_bnd a1 ?_
    refine e_ldR fxO fxR8 ?_
    refine e_ldR fxO fxR10 ?_
    refine e_bnd b1 ?_
    refine e_ldR fxO fxR7 ?_
    refine e_ldIV net286.o n289 ?_
    rfl
  · unfold F_X9_back
    refine e_rcv fmO ?_
    refine e_ldIV fmO (show rI m2 322 15 = 1 by rw [f2.i (by omega)]; exact i2) ?_
    refine e_f (by decide) ?_
    refine e_ldIV fmO (show rI m2 322 16 = nI nn by rw [f2.i (by omega)]; exact c5) ?_
    refine e_stI fmO ?_
    exact d1.trans (e1.trans g1)
  · have f5 : Fr (fun c j => (286 ≤ c ∧ c ≤ 303) ∨ (c = 322 ∧ j = 5) ∨ c = 328 ∨ c = 330 ∨ (c = 331 ∧ j < 4) ∨ ((c = 332 ∨ c = 333) ∧ j < 116)) m m5 := (((f4.mo (fun c j w => by omega)).tr (d2.mo (fun c j w => by omega))).tr (e2.mo (fun c j w => by omega))).tr (g2.mo (fun c j w => by omega))
    have keep : ∀ a j, prP a j → ¬ hanP a j → ¬ stoP a j → rI m5 a j = rI m a j ∧ rJ m5 a j = rJ m a j := fun a j hp h1 h2 => f5 a j (by
      unfold prP tabP tapP imgP at hp
      unfold hanP at h1 hp
      unfold stoP at h2 hp
      omega)
    obtain ⟨z, t, hTp⟩ := hTp
    have back2 : ∀ a j, a ≤ 321 → rI m5 a j = rI m2 a j ∧ rJ m5 a j = rJ m2 a j := fun a j h1 => by
      rw [g2.i (by omega), e2.i (by omega), d2.i (by omega), rI_n _ _ (by omega), g2.j (by omega), e2.j (by omega), d2.j (by omega)]
      exact ⟨rfl, rfl⟩
    refine ⟨hT.fr (fun a j ha => keep a j (Or.inl ha) (by unfold tabP at ha; unfold hanP; omega) (by unfold tabP at ha; unfold stoP; omega)), ⟨nn, r, c1, c2, c3, ?_, ?_, fun i hi => ⟨?_, ?_, (c6 i hi).2.2⟩⟩, fun st hs => ?_, ⟨z, t, hTp.same (fun a j ha => (keep a j (Or.inr (Or.inr (Or.inr (Or.inl ha)))) (by unfold tapP at ha; unfold hanP; omega) (by unfold tapP at ha; unfold stoP; omega)).1)⟩, ImgR.same (Or.inr ⟨i1, i2, ⟨nn, r, hh⟩, hS⟩) (fun a j ha => keep a j (Or.inr (Or.inr (Or.inr (Or.inr ha)))) (by unfold imgP at ha; unfold hanP; omega) (by unfold imgP at ha; unfold stoP; omega))⟩
    · rw [(back2 286 0 (by omega)).1]
      exact n289
    · rw [g2.i (by omega), e2.i (by omega), d2.i (by omega), rI_s]
    · rw [(back2 287 i (by omega)).1, b2'.i (by show ¬ (290 ≤ 287 ∧ _); omega), a4 i (by omega)]
      exact (c6 i hi).1
    · rw [g2.i (by omega), e2.i (by omega), d3 i hi, f4.i (by omega)]
      exact (c6 i hi).2.1
    · have b3s := b3 st hs
      have e3s := e3 st hs
      refine (hS st hs).move ?_ ?_ (fun t ht => ?_) ?_ ?_ (fun t ht => ?_)
      · rw [(back2 290 st (by omega)).1]
        exact b3s.1.trans (f1.i (by show ¬ (286 ≤ 308 ∧ 308 ≤ 287); omega))
      · rw [(back2 _ 0 (by omega)).1]
        exact b3s.2.1.trans (f1.i (by show ¬ (286 ≤ 310 + 3 * st ∧ 310 + 3 * st ≤ 287); omega))
      · have q := b3s.2.2 t ht
        show (rJ m5 (292 + 3 * st + 1) t, rJ m5 (292 + 3 * st + 2) t) = (rJ m (310 + 3 * st + 1) t, rJ m (310 + 3 * st + 2) t)
        rw [(back2 _ t (by omega)).2, (back2 _ t (by omega)).2]
        refine Eq.trans q ?_
        show (rJ m1 (310 + 3 * st + 1) t, rJ m1 (310 + 3 * st + 2) t) = _
        rw [f1.j (by omega), f1.j (by omega)]
      · rw [g2.i (by omega), e3s.1, d2.i (by omega), f4.i (by omega)]
      · rw [g2.i (by omega), e3s.2, d2.i (by omega), f4.i (by omega)]
      · have q := g3 (29 * st + t) (by omega)
        rw [q.1, q.2, e2.j (by omega), e2.j (by omega), d2.j (by omega), d2.j (by omega), f4.j (by omega), f4.j (by omega)]
        exact ⟨rfl, rfl⟩
end IMAGE
