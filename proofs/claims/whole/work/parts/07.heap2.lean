section VHEAP2
variable {X : VX} {cc : ByteArray} {own : String} {nL fr lo : Nat} {ini : Bool} {E : VX → Prop} {sF s : vS} {ρ : Type} {res : ρ} {pc : Nat} {ls : Array Slot} {rest : List Value}
theorem up2_at {α : Type} {f : Nat → Nat → α} {a k : Nat} {v : α} (j : Nat) : up2 f a k v a j = if j = k then v else f a j := by
  simp [up2]
theorem updI {b : Nat} {s : vS} {ci a k : Nat} {x : Int32} (h : vty ci k = .int ∨ vty ci k = .boolean) (j : Nat) : updV (fv b s ci a) k (.int x) j = fv b (setI s a k x) ci a j := by
  unfold updV
  by_cases e : j = k
  · rw [if_pos e, e]
    have g : gI (setI s a k x) a k = x := by simp [gI, setI, up2]
    unfold fv
    rcases h with h | h <;> rw [h] <;> simp only [g]
  · rw [if_neg e]
    have g : gI (setI s a k x) a j = gI s a j := by simp [gI, setI, up2, e]
    unfold fv
    rw [g]; rfl
theorem updJ {b : Nat} {s : vS} {ci a k : Nat} {x : Int64} (h : vty ci k = .long) (j : Nat) : updV (fv b s ci a) k (.long x) j = fv b (setJ s a k x) ci a j := by
  unfold updV
  by_cases e : j = k
  · rw [if_pos e, e]
    have g : gJ (setJ s a k x) a k = x := by simp [gJ, setJ, up2]
    unfold fv
    rw [h]; simp only [g]
  · rw [if_neg e]
    have g : gJ (setJ s a k x) a j = gJ s a j := by simp [gJ, setJ, up2, e]
    unfold fv
    rw [g]; rfl
theorem updR {b : Nat} {s : vS} {ci a k : Nat} {r : Nat} (h : isRf (vty ci k) = true) (j : Nat) : updV (fv b s ci a) k (.ref (b + r)) j = fv b (setR s a k (some r)) ci a j := by
  unfold updV
  by_cases e : j = k
  · rw [if_pos e, e]
    have g : gR (setR s a k (some r)) a k = some r := by simp [gR, setR, up2]
    rw [fv_ref h, g]; rfl
  · rw [if_neg e]
    have g : gR (setR s a k (some r)) a j = gR s a j := by simp [gR, setR, up2, e]
    unfold fv
    rw [g]; rfl
theorem v_putI {a index : Nat} {x : Int32} (ci k : Nat) {f : vS → Option ρ} (h : stI s a ci k x f = some res) (hk : k < vN ci) (hty : vty ci k = .int) (hfin : (vT ci k).2.2.2 = false ∨ ((vT ci k).2.2.2 = true ∧ ini = true ∧ vC ci = own)) (hw : Cond.fieldLink own index (vT ci k).1 (vT ci k).2.1 (vT ci k).2.2.1 ∈ TT) (hdg : decode cc pc = .ok (.putfield index, 3))
    (kk : ∀ s', f s' = some res → V X (cc, own, nL, fr, lo, ini) E sF s' (G0 X (pc + 3) ls rest)) : V X (cc, own, nL, fr, lo, ini) E sF s (G0 X pc ls (.int x :: .ref (xb X + a) :: rest)) := by
  obtain ⟨hO, h⟩ := v_chk h
  exact v_put (s' := setI s a k x) hO hk hfin (by rw [hty]; rfl) (by rw [hty]; rfl) rfl rfl oth_I (fun j _ => updI (Or.inl hty) j) hw hdg (kk _ h)
theorem v_putZ {a index : Nat} {x : Int32} (ci k : Nat) {f : vS → Option ρ} (h : stZ s a ci k x f = some res) (hk : k < vN ci) (hty : vty ci k = .boolean) (hfin : (vT ci k).2.2.2 = false ∨ ((vT ci k).2.2.2 = true ∧ ini = true ∧ vC ci = own)) (hw : Cond.fieldLink own index (vT ci k).1 (vT ci k).2.1 (vT ci k).2.2.1 ∈ TT) (hdg : decode cc pc = .ok (.putfield index, 3))
    (kk : ∀ s', f s' = some res → V X (cc, own, nL, fr, lo, ini) E sF s' (G0 X (pc + 3) ls rest)) : V X (cc, own, nL, fr, lo, ini) E sF s (G0 X pc ls (.int x :: .ref (xb X + a) :: rest)) := by
  obtain ⟨⟨hO, hz⟩, h⟩ := v_chk h
  exact v_put (s' := setI s a k x) hO hk hfin (by rw [hty]; exact (nar_z hz).1) (by rw [hty]; exact (nar_z hz).2) rfl rfl oth_I (fun j _ => updI (Or.inr hty) j) hw hdg (kk _ h)
theorem v_putJ {a index : Nat} {x : Int64} (ci k : Nat) {f : vS → Option ρ} (h : stJ s a ci k x f = some res) (hk : k < vN ci) (hty : vty ci k = .long) (hfin : (vT ci k).2.2.2 = false ∨ ((vT ci k).2.2.2 = true ∧ ini = true ∧ vC ci = own)) (hw : Cond.fieldLink own index (vT ci k).1 (vT ci k).2.1 (vT ci k).2.2.1 ∈ TT) (hdg : decode cc pc = .ok (.putfield index, 3))
    (kk : ∀ s', f s' = some res → V X (cc, own, nL, fr, lo, ini) E sF s' (G0 X (pc + 3) ls rest)) : V X (cc, own, nL, fr, lo, ini) E sF s (G0 X pc ls (.long x :: .ref (xb X + a) :: rest)) := by
  obtain ⟨hO, h⟩ := v_chk h
  exact v_put (s' := setJ s a k x) hO hk hfin (by rw [hty]; rfl) (by rw [hty]; rfl) rfl rfl oth_J (fun j _ => updJ hty j) hw hdg (kk _ h)
theorem v_putR {a index r : Nat} (ci k : Nat) {f : vS → Option ρ} (h : stR s a ci k r f = some res) (hk : k < vN ci) (hty : isRf (vty ci k) = true) (hfin : (vT ci k).2.2.2 = false ∨ ((vT ci k).2.2.2 = true ∧ ini = true ∧ vC ci = own)) (hw : Cond.fieldLink own index (vT ci k).1 (vT ci k).2.1 (vT ci k).2.2.1 ∈ TT) (hdg : decode cc pc = .ok (.putfield index, 3))
    (kk : ∀ s', f s' = some res → V X (cc, own, nL, fr, lo, ini) E sF s' (G0 X (pc + 3) ls rest)) : V X (cc, own, nL, fr, lo, ini) E sF s (G0 X pc ls (.ref (xb X + r) :: .ref (xb X + a) :: rest)) := by
  obtain ⟨hO, h⟩ := v_chk h
  refine v_put (s' := setR s a k (some r)) hO hk hfin ?_ ?_ rfl rfl oth_R (fun j _ => updR hty j) hw hdg (kk _ h)
  · cases e : vty ci k <;> rw [e] at hty <;> first | rfl | cases hty
  · cases e : vty ci k <;> rw [e] at hty <;> first | rfl | cases hty
/-! arrays -/
theorem vKn.A {D : va_G} {ka : Nat → ClassId} {U : State} (h : vKn D ka U) (kd : Nat) (h1 : 1 ≤ kd := by decide) (h2 : kd ≤ 6 := by decide) : ArrOfT U (ka kd) (kty kd) := (h.2.1 kd h1 h2).1
theorem ar_in {s : vS} {a kd : Nat} {i : Int32} {cA : ClassId} {f : Nat → Value} (hA : isA s a kd i = true) : ¬ (i < 0 ∨ (arrV cA (sh s a).2 f).slots.size ≤ i.toNatClampNeg) := by
  rw [arrV_size]; exact (isA_spec hA).2.2
theorem ar_lt {s : vS} {a kd : Nat} {i : Int32} (hA : isA s a kd i = true) : i.toNatClampNeg < (sh s a).2 := Nat.not_le.mp fun q => (isA_spec hA).2.2 (Or.inr q)
theorem v_iald {a : Nat} {i : Int32} {f : Int32 → Option ρ} (hdg : decode cc pc = .ok (.iaload, 1)) (h : alI s a i f = some res)
    (kk : ∀ v, f v = some res → V X (cc, own, nL, fr, lo, ini) E sF s (G0 X (pc + 1) ls (.int v :: rest))) : V X (cc, own, nL, fr, lo, ini) E sF s (G0 X pc ls (.int i :: .ref (xb X + a) :: rest)) := by
  obtain ⟨hA, h⟩ := v_chk h
  have k := kk _ h
  exact ⟨k.1, k.2.1, fun C e h1 h2 H locs hW hS => W.iald (v := .int (gI s a i.toNatClampNeg)) C.x C.b (hW.arr hA (by decide)) (C.K.A 1 (by decide) (by decide) _ _) (fun q => by cases q) (ar_in hA) (by rw [arrV_read _ _ (ar_lt hA)]; rfl) rfl rfl hdg (k.2.2 C e h1 h2 H locs hW hS)⟩
theorem v_lald {a : Nat} {i : Int32} {f : Int64 → Option ρ} (hdg : decode cc pc = .ok (.laload, 1)) (h : alJ s a i f = some res)
    (kk : ∀ v, f v = some res → V X (cc, own, nL, fr, lo, ini) E sF s (G0 X (pc + 1) ls (.long v :: rest))) : V X (cc, own, nL, fr, lo, ini) E sF s (G0 X pc ls (.int i :: .ref (xb X + a) :: rest)) := by
  obtain ⟨hA, h⟩ := v_chk h
  have k := kk _ h
  exact ⟨k.1, k.2.1, fun C e h1 h2 H locs hW hS => W.lald (v := .long (gJ s a i.toNatClampNeg)) C.x C.b (hW.arr hA (by decide)) (C.K.A 2 (by decide) (by decide) _ _) (fun q => by cases q) (ar_in hA) (by rw [arrV_read _ _ (ar_lt hA)]; rfl) rfl rfl hdg (k.2.2 C e h1 h2 H locs hW hS)⟩
theorem v_zald {a : Nat} {i : Int32} {f : Int32 → Option ρ} (hdg : decode cc pc = .ok (.baload, 1)) (h : alZ s a i f = some res)
    (kk : ∀ v, f v = some res → V X (cc, own, nL, fr, lo, ini) E sF s (G0 X (pc + 1) ls (.int v :: rest))) : V X (cc, own, nL, fr, lo, ini) E sF s (G0 X pc ls (.int i :: .ref (xb X + a) :: rest)) := by
  obtain ⟨hA, h⟩ := v_chk h
  have k := kk _ h
  exact ⟨k.1, k.2.1, fun C e h1 h2 H locs hW hS => W.zald (v := .int (gI s a i.toNatClampNeg)) C.x C.b (hW.arr hA (by decide)) (C.K.A 3 (by decide) (by decide) _ _) (fun q => by cases q) (ar_in hA) (by rw [arrV_read _ _ (ar_lt hA)]; rfl) rfl rfl hdg (k.2.2 C e h1 h2 H locs hW hS)⟩
theorem av_ref {b : Nat} {s : vS} {kd a k : Nat} (h : 4 ≤ kd ∧ kd ≤ 6) : av b s kd a k = va_rf ((gR s a k).map (b + ·)) := by
  unfold av
  obtain ⟨h1, h2⟩ := h
  rcases (show kd = 4 ∨ kd = 5 ∨ kd = 6 by omega) with rfl | rfl | rfl <;> rfl
theorem kty_ref {kd : Nat} (h : 4 ≤ kd ∧ kd ≤ 6) : (kty kd).isReference = true := by
  obtain ⟨h1, h2⟩ := h
  rcases (show kd = 4 ∨ kd = 5 ∨ kd = 6 by omega) with rfl | rfl | rfl <;> rfl
theorem v_aald {a : Nat} (kd : Nat) {i : Int32} {f : Nat → Option ρ} (hdg : decode cc pc = .ok (.aaload, 1)) (h : alR s a kd i f = some res)
    (kk : ∀ r, f r = some res → V X (cc, own, nL, fr, lo, ini) E sF s (G0 X (pc + 1) ls (.ref (xb X + r) :: rest))) : V X (cc, own, nL, fr, lo, ini) E sF s (G0 X pc ls (.int i :: .ref (xb X + a) :: rest)) := by
  obtain ⟨⟨hA, hkd⟩, h⟩ := v_chk h
  obtain ⟨r, hr, h⟩ := orN_some h
  have k := kk r h
  exact ⟨k.1, k.2.1, fun C e h1 h2 H locs hW hS => W.aald (v := .ref (xb X + r)) (ty := kty kd) C.x C.b (hW.arr hA (by omega)) (C.K.A kd (by omega) (by omega) _ _) (kty_ref hkd) (fun q => by cases q) (ar_in hA) (by rw [arrV_read _ _ (ar_lt hA), av_ref hkd, hr]; rfl) rfl rfl hdg (k.2.2 C e h1 h2 H locs hW hS)⟩
theorem v_alen {a : Nat} {f : Int32 → Option ρ} (hdg : decode cc pc = .ok (.arraylength, 1)) (h : aln s a f = some res)
    (kk : ∀ v, f v = some res → V X (cc, own, nL, fr, lo, ini) E sF s (G0 X (pc + 1) ls (.int v :: rest))) : V X (cc, own, nL, fr, lo, ini) E sF s (G0 X pc ls (.ref (xb X + a) :: rest)) := by
  obtain ⟨⟨ha, hk⟩, h⟩ := v_chk h
  have k := kk _ h
  refine ⟨k.1, k.2.1, fun C e h1 h2 H locs hW hS => ?_⟩
  have hc := hW.2 a ha
  unfold vCell at hc
  rw [if_neg hk] at hc
  exact W.alen (n := Int32.ofNat (sh s a).2) C.x C.b hc.2 (C.K.A _ (by omega) hc.1 _ _) (by rw [arrV_size] <;> rfl) rfl rfl hdg (k.2.2 C e h1 h2 H locs hW hS)
/-- an array's place is written -/
theorem v_ast {a kd : Nat} {i : Int32} {v : Value} {s' : vS} {g g' : JFrame} (hA : isA s a kd i = true) (hkd : 1 ≤ kd)
    (row : vCtx X (cc, own, nL, fr, lo, ini) sF → ∀ H locs cells slots, H[xb X + a]? = some (arrV (xka X kd) (sh s a).2 (av (xb X) s kd a)) → vWo (xD X) (xka X) (xb X) s H → (∀ H' : Heap, H'[xb X + a]? = some ((arrV (xka X kd) (sh s a).2 (av (xb X) s kd a)).setSlot i.toNatClampNeg v) → H'.size = H.size → (∀ q, q ≠ xb X + a → H'[q]? = H[q]?) → xW X H' (locs ++ [⟨xb X + a, i.toNatClampNeg⟩]) cells slots g') → xW X H locs cells slots g)
    (e1 : s'.1 = s.1) (e2 : sh s' = sh s) (e3 : ∀ a', a' ≠ a → gI s' a' = gI s a' ∧ gJ s' a' = gJ s a' ∧ gR s' a' = gR s a') (e4 : updV (av (xb X) s kd a) i.toNatClampNeg v = av (xb X) s' kd a)
    (kk : V X (cc, own, nL, fr, lo, ini) E sF s' g') : V X (cc, own, nL, fr, lo, ini) E sF s g := by
  have en : sn s' = sn s := congrArg Prod.fst e1
  have ez : sz s' = sz s := congrArg Prod.snd e1
  refine ⟨by rw [← en]; exact kk.1, by rw [← ez]; exact kk.2.1, fun C e h1 h2 H locs hW hS => ?_⟩
  refine row C _ _ _ _ (hW.arr hA (by omega)) hW fun H' g1 g2 g3 => ?_
  rw [← en, ← ez]
  refine kk.2.2 C e (by rw [en]; exact h1) (by rw [ez]; exact h2) H' _ (hW.one en e2 e3 ?_ g2 g3) (hS.put g2 g3 (Nat.le_add_right _ _))
  have hc := hW.2 a (isA_spec hA).1
  unfold vCell at hc ⊢
  rw [e2]
  have hs := (isA_spec hA).2.1
  rw [hs] at hc ⊢
  rw [if_neg (by omega)] at hc ⊢
  exact ⟨hc.1, by rw [g1, arrV_store, e4]⟩
theorem uavI {b : Nat} {s : vS} {kd a k : Nat} {x : Int32} (h : kd = 1 ∨ kd = 3) : updV (av b s kd a) k (.int x) = av b (setI s a k x) kd a := by
  funext j
  unfold updV
  by_cases e : j = k
  · rw [if_pos e, e]
    have g : gI (setI s a k x) a k = x := by simp [gI, setI, up2]
    rcases h with rfl | rfl <;> simp only [av, g]
  · rw [if_neg e]
    have g : gI (setI s a k x) a j = gI s a j := by simp [gI, setI, up2, e]
    unfold av
    rw [g]; rfl
theorem uavJ {b : Nat} {s : vS} {a k : Nat} {x : Int64} : updV (av b s 2 a) k (.long x) = av b (setJ s a k x) 2 a := by
  funext j
  unfold updV
  by_cases e : j = k
  · rw [if_pos e, e]
    have g : gJ (setJ s a k x) a k = x := by simp [gJ, setJ, up2]
    simp only [av, g]
  · rw [if_neg e]
    have g : gJ (setJ s a k x) a j = gJ s a j := by simp [gJ, setJ, up2, e]
    simp only [av, g]
theorem uavR {b : Nat} {s : vS} {kd a k r : Nat} (h : 4 ≤ kd ∧ kd ≤ 6) : updV (av b s kd a) k (.ref (b + r)) = av b (setR s a k (some r)) kd a := by
  funext j
  unfold updV
  by_cases e : j = k
  · rw [if_pos e, e]
    have g : gR (setR s a k (some r)) a k = some r := by simp [gR, setR, up2]
    rw [av_ref h, g]; rfl
  · rw [if_neg e]
    have g : gR (setR s a k (some r)) a j = gR s a j := by simp [gR, setR, up2, e]
    rw [av_ref h, av_ref h, g]
theorem v_iast {a : Nat} {i x : Int32} {f : vS → Option ρ} (hdg : decode cc pc = .ok (.iastore, 1)) (h : asI s a i x f = some res)
    (kk : ∀ s', f s' = some res → V X (cc, own, nL, fr, lo, ini) E sF s' (G0 X (pc + 1) ls rest)) : V X (cc, own, nL, fr, lo, ini) E sF s (G0 X pc ls (.int x :: .int i :: .ref (xb X + a) :: rest)) := by
  obtain ⟨hA, h⟩ := v_chk h
  exact v_ast (s' := setI s a i.toNatClampNeg x) hA (by decide) (fun C H locs cells slots hc _ w => W.iast C.x C.b hc (C.K.A 1 (by decide) (by decide) _ _) (fun q => by cases q) (ar_in hA) rfl rfl hdg w) rfl rfl oth_I (uavI (Or.inl rfl)) (kk _ h)
theorem v_last {a : Nat} {i : Int32} {x : Int64} {f : vS → Option ρ} (hdg : decode cc pc = .ok (.lastore, 1)) (h : asJ s a i x f = some res)
    (kk : ∀ s', f s' = some res → V X (cc, own, nL, fr, lo, ini) E sF s' (G0 X (pc + 1) ls rest)) : V X (cc, own, nL, fr, lo, ini) E sF s (G0 X pc ls (.long x :: .int i :: .ref (xb X + a) :: rest)) := by
  obtain ⟨hA, h⟩ := v_chk h
  exact v_ast (s' := setJ s a i.toNatClampNeg x) hA (by decide) (fun C H locs cells slots hc _ w => W.last C.x C.b hc (C.K.A 2 (by decide) (by decide) _ _) (fun q => by cases q) (ar_in hA) rfl rfl hdg w) rfl rfl oth_J uavJ (kk _ h)
theorem v_zast {a : Nat} {i x : Int32} {f : vS → Option ρ} (hdg : decode cc pc = .ok (.bastore, 1)) (h : asZ s a i x f = some res)
    (kk : ∀ s', f s' = some res → V X (cc, own, nL, fr, lo, ini) E sF s' (G0 X (pc + 1) ls rest)) : V X (cc, own, nL, fr, lo, ini) E sF s (G0 X pc ls (.int x :: .int i :: .ref (xb X + a) :: rest)) := by
  obtain ⟨⟨hA, hz⟩, h⟩ := v_chk h
  exact v_ast (s' := setI s a i.toNatClampNeg x) hA (by decide) (fun C H locs cells slots hc _ w => W.zast C.x C.b hc (C.K.A 3 (by decide) (by decide) _ _) (fun q => by cases q) (ar_in hA) rfl rfl hdg (fun H' g1 g2 g3 => w H' (by rw [g1, (nar_z hz).1]) g2 g3)) rfl rfl oth_I (uavI (Or.inr rfl)) (kk _ h)
theorem v_aast {a : Nat} (kd ci : Nat) {i : Int32} {r : Nat} {f : vS → Option ρ} (hdg : decode cc pc = .ok (.aastore, 1)) (h : asR s a kd ci i r f = some res)
    (kk : ∀ s', f s' = some res → V X (cc, own, nL, fr, lo, ini) E sF s' (G0 X (pc + 1) ls rest)) : V X (cc, own, nL, fr, lo, ini) E sF s (G0 X pc ls (.ref (xb X + r) :: .int i :: .ref (xb X + a) :: rest)) := by
  obtain ⟨⟨⟨hA, hO⟩, hkd⟩, h⟩ := v_chk h
  refine v_ast (s' := setR s a i.toNatClampNeg (some r)) hA (by omega) (fun C H locs cells slots hc hW w => ?_) rfl rfl oth_R (uavR (by omega)) (kk _ h)
  obtain ⟨cellV, g1, g2, g3, -⟩ := hW.obj hO
  have hci := (isO_spec hO).2.2
  have hcls := (C.K.1 ci hci).2
  obtain ⟨kC, hkC, -⟩ := id hcls.2
  have hra : ∃ nm, kty kd = .object nm ∧ nm = vC ci := by rcases hkd with ⟨rfl, rfl⟩ | ⟨rfl, rfl⟩ <;> exact ⟨_, rfl, rfl⟩
  obtain ⟨nm, hty, hnm⟩ := hra
  have h2 := (C.K.2.1 kd (by omega) (by omega)).2
  rw [hty] at h2
  obtain ⟨kA, comp, k1, k2, k3, -⟩ := h2
  have hcomp : comp = (xD X).1 ci := Option.some.inj (k3.symm.trans (by rw [hnm]; exact hcls.1))
  subst hcomp
  exact W.aast C.x C.b hc (fun q h => by cases h) (fun h => by cases h) k1 k2 rfl hkC ⟨fun q => (isA_spec hA).2.2 (Or.inl q), by rw [arrV_size]; exact ar_lt hA⟩ g1 (fun q h => by rw [g3] at h; cases h) (by rw [g2]; exact hkC) (by rw [g2]; exact va_assign hcls) rfl rfl hdg w
end VHEAP2
