section VMULTI
variable {X : VX} {cc : ByteArray} {own : String} {nL fr lo : Nat} {ini : Bool} {E : VX → Prop} {sF s : vS} {ρ : Type} {res : ρ} {pc : Nat} {ls : Array Slot} {rest : List Value}
theorem mo_outer (c : ClassId) (N h0 : Nat) : ∀ i : Nat, Jvm.Free.Multi.outerC c N h0 i = arrV c N (fun j => va_rf (if j < i then some (h0 + 1 + j) else none))
  | 0 => by
    show ({ cls := c, slots := Array.replicate N .null, vm := .none } : Cell) = _
    rw [arrV_new]
    congr 1
  | i + 1 => by
    show (Jvm.Free.Multi.outerC c N h0 i).setSlot i (.ref (h0 + 1 + i)) = _
    rw [mo_outer c N h0 i, arrV_store]
    congr 1
    funext j
    unfold updV
    by_cases e : j = i
    · rw [if_pos e, e, if_pos (Nat.lt_succ_self i)]; rfl
    · rw [if_neg e]
      show va_rf (if j < i then some (h0 + 1 + j) else none) = _
      by_cases h : j < i
      · rw [if_pos h, if_pos (by omega)]
      · rw [if_neg h, if_neg (by omega)]
theorem v_newm {index : Nat} {n k : Int32} {f : Nat → vS → Option ρ} (h : nwM s n k f = some res) (hcl : Cond.classLink own index "[[I" ∈ TT) (hw : Cond.arrayClass (newarray.typeOf (aty 1)) ∈ TT) (hdg : decode cc pc = .ok (.multianewarray index 2, 4))
    (kk : ∀ q s', f q s' = some res → V X (cc, own, nL, fr, lo, ini) E sF s' (G0 X (pc + 4) ls (.ref (xb X + q) :: rest))) : V X (cc, own, nL, fr, lo, ini) E sF s (G0 X pc ls (.int k :: .int n :: rest)) := by
  obtain ⟨⟨⟨hn, hN⟩, ⟨hk, hM⟩⟩, h⟩ := v_chk h
  have kq := kk _ _ h
  have k1 : sn s + (1 + n.toNatClampNeg) ≤ sn sF := kq.1
  have k2 : sz s + (n.toNatClampNeg + n.toNatClampNeg * k.toNatClampNeg) ≤ sz sF := kq.2.1
  refine ⟨by omega, by omega, fun C e h1 h2 H locs hW hS => ?_⟩
  obtain ⟨-, -, r3, r4⟩ := C.r
  intro T hT Xs
  have hcl2 : (Cond.classLink own index ("[" ++ (FieldType.array FieldType.int).toString)).before (xargs X) (xs X) = true := C.ts hcl
  have hint : (Cond.arrayClass FieldType.int).before (xargs X) (xs X) = true := C.ts hw
  obtain ⟨vm₁, cA, comp, -, fA, fC, hO, -, X', step⟩ := Xs.multianewarray2F C.x C.ow hcl2 (vAOI.use C.K.2.2.2.2.2) hint (g := G0 X pc ls (.int k :: .int n :: rest)) rfl (by rw [C.b]; exact hdg) rfl hn hk (by omega) (by show k.toNatClampNeg * 4 ≤ _; omega) (by omega) (by rfl) (by rfl) (by omega) (by omega)
  have ec : comp = xka X 1 := by
    have h3 := (C.K.2.1 1 (by decide) (by decide)).2
    have h4 : (xs X).vm.findClass ("[" ++ FieldType.int.toString) = some (xka X 1) := h3
    have h5 : (FieldType.array FieldType.int).toString = "[" ++ FieldType.int.toString := by decide +kernel
    rw [h5] at fC
    exact Option.some.inj (fC.symm.trans h4)
  have ea : cA = xka X 6 := by
    have h3 := (C.K.2.1 6 (by decide) (by decide)).2
    have h4 : (xs X).vm.findClass ("[" ++ (FieldType.array FieldType.int).toString) = some (xka X 6) := h3
    exact Option.some.inj (fA.symm.trans h4)
  subst ec
  subst ea
  generalize hF : Jvm.Free.Multi.fill (T.setVm vm₁) (xka X 6) (xka X 1) n.toNatClampNeg k.toNatClampNeg (defaultValue .int) n.toNatClampNeg = F at X' step
  have hTh : (T.setVm vm₁).heap = H := hT
  obtain ⟨f1, f2, -, -⟩ := Jvm.Free.Multi.fill_facts (T.setVm vm₁) (xka X 6) (xka X 1) n.toNatClampNeg k.toNatClampNeg (defaultValue .int) n.toNatClampNeg
  rw [hF, hTh] at f1 f2
  have hold : ∀ x : Nat, x < H.size → F.heap[x]? = H[x]? := fun x hx => by
    have := Jvm.Free.Multi.fill_old (T.setVm vm₁) (xka X 6) (xka X 1) n.toNatClampNeg k.toNatClampNeg (defaultValue .int) (a := x) (by rw [hTh]; exact hx) n.toNatClampNeg
    rw [hF, hTh] at this
    exact this
  have hrow : ∀ j : Nat, j < n.toNatClampNeg → F.heap[H.size + 1 + j]? = some (arrV (xka X 1) k.toNatClampNeg (fun _ => .int 0)) := fun j hj => by
    have := Jvm.Free.Multi.fill_inner (T.setVm vm₁) (xka X 6) (xka X 1) n.toNatClampNeg k.toNatClampNeg (defaultValue .int) n.toNatClampNeg j hj
    rw [hF, hTh] at this
    rw [this, ← arrV_new]
    rfl
  rw [mo_outer] at f2
  have hsz := hW.1
  have w1 : vWo (xD X) (xka X) (xb X) (pushM s n.toNatClampNeg k.toNatClampNeg) F.heap := by
    refine ⟨by rw [f1, hsz]; show _ = xb X + (sn s + (1 + n.toNatClampNeg)); omega, fun a ha => ?_⟩
    have ha : a < sn s + (1 + n.toNatClampNeg) := ha
    by_cases q0 : a = sn s
    · have e0 : sh (pushM s n.toNatClampNeg k.toNatClampNeg) a = (6, n.toNatClampNeg) := by show (if a = s.1.1 then _ else _) = _; exact if_pos q0
      unfold vCell
      rw [e0, if_neg (show ¬ (6 : Nat) = 0 by decide)]
      refine ⟨Nat.le_refl 6, ?_⟩
      rw [q0, ← hsz, f2]
      congr 2
      funext j
      rw [show av (xb X) (pushM s n.toNatClampNeg k.toNatClampNeg) (6, n.toNatClampNeg).1 (sn s) j = va_rf ((gR (pushM s n.toNatClampNeg k.toNatClampNeg) (sn s) j).map (xb X + ·)) from rfl]
      have e3 : gR (pushM s n.toNatClampNeg k.toNatClampNeg) (sn s) j = if j < n.toNatClampNeg then some (sn s + 1 + j) else none := by
        show (if sn s = s.1.1 then (fun j => if j < n.toNatClampNeg then some (s.1.1 + 1 + j) else none) else if s.1.1 < sn s ∧ sn s ≤ s.1.1 + n.toNatClampNeg then (fun _ => none) else s.2.2.2.2 (sn s)) j = _
        rw [if_pos (show sn s = s.1.1 from rfl)]; rfl
      rw [e3, hsz]
      by_cases hj : j < n.toNatClampNeg
      · rw [if_pos hj, if_pos hj]
        show Value.ref (xb X + sn s + 1 + j) = Value.ref (xb X + (sn s + 1 + j))
        rw [show xb X + sn s + 1 + j = xb X + (sn s + 1 + j) by omega]
      · rw [if_neg hj, if_neg hj]; rfl
    · by_cases q1 : a < sn s
      · have hc := hW.2 a q1
        have g0 : ¬ (s.1.1 ≤ a ∧ a ≤ s.1.1 + n.toNatClampNeg) := by have : sn s = s.1.1 := rfl; omega
        have g1 : ¬ (s.1.1 < a ∧ a ≤ s.1.1 + n.toNatClampNeg) := by have : sn s = s.1.1 := rfl; omega
        have e1 : gI (pushM s n.toNatClampNeg k.toNatClampNeg) a = gI s a := by show (if _ then _ else _) = _; exact if_neg g0
        have e2 : gJ (pushM s n.toNatClampNeg k.toNatClampNeg) a = gJ s a := by show (if _ then _ else _) = _; exact if_neg g0
        have e3 : gR (pushM s n.toNatClampNeg k.toNatClampNeg) a = gR s a := by show (if a = s.1.1 then _ else if _ then _ else _) = _; rw [if_neg (show ¬ a = s.1.1 from q0), if_neg g1]; rfl
        have e0 : sh (pushM s n.toNatClampNeg k.toNatClampNeg) a = sh s a := by show (if a = s.1.1 then _ else if _ then _ else _) = _; rw [if_neg (show ¬ a = s.1.1 from q0), if_neg g1]; rfl
        have p1 : ∀ ci, fv (xb X) (pushM s n.toNatClampNeg k.toNatClampNeg) ci a = fv (xb X) s ci a := fun ci => by funext j; simp only [fv, e1, e2, e3]
        have p2 : ∀ kd, av (xb X) (pushM s n.toNatClampNeg k.toNatClampNeg) kd a = av (xb X) s kd a := fun kd => by funext j; simp only [av, e1, e2, e3]
        have hq : F.heap[xb X + a]? = H[xb X + a]? := hold _ (by omega)
        unfold vCell at hc ⊢
        rw [e0, p1, p2]
        split
        · next h0 => rw [if_pos h0] at hc; exact ⟨hc.1, hc.2.kept hq⟩
        · next h0 => rw [if_neg h0] at hc; exact ⟨hc.1, hq.trans hc.2⟩
      · have g0 : s.1.1 ≤ a ∧ a ≤ s.1.1 + n.toNatClampNeg := by have : sn s = s.1.1 := rfl; omega
        have g1 : s.1.1 < a ∧ a ≤ s.1.1 + n.toNatClampNeg := by have : sn s = s.1.1 := rfl; omega
        have e0 : sh (pushM s n.toNatClampNeg k.toNatClampNeg) a = (1, k.toNatClampNeg) := by show (if a = s.1.1 then _ else if _ then _ else _) = _; rw [if_neg (show ¬ a = s.1.1 from q0), if_pos g1]
        have e1 : gI (pushM s n.toNatClampNeg k.toNatClampNeg) a = fun _ => 0 := by show (if _ then _ else _) = _; exact if_pos g0
        unfold vCell
        rw [e0, if_neg (show ¬ (1 : Nat) = 0 by decide)]
        refine ⟨by show (1 : Nat) ≤ 6; decide, ?_⟩
        have hr := hrow (a - sn s - 1) (by omega)
        rw [show H.size + 1 + (a - sn s - 1) = xb X + a by omega] at hr
        rw [hr]
        congr 2
        funext j
        show Value.int 0 = Value.int _
        rw [e1]
  have hS' : va_S (fun q => xb X ≤ q) (xH0 X) F.heap locs := hS.grow (by omega) hold
  have hk2 := kq.2.2 C e (by show xn X ≤ sn s + (1 + n.toNatClampNeg); omega) (by show xz X ≤ sz s + (n.toNatClampNeg + n.toNatClampNeg * k.toNatClampNeg); omega) F.heap locs w1 hS'
  rw [show sn (pushM s n.toNatClampNeg k.toNatClampNeg) - xn X = sn s - xn X + 1 + n.toNatClampNeg from (by show sn s + (1 + n.toNatClampNeg) - xn X = _; omega), show sz (pushM s n.toNatClampNeg k.toNatClampNeg) - xz X = sz s - xz X + n.toNatClampNeg + n.toNatClampNeg * k.toNatClampNeg from (by show sz s + (n.toNatClampNeg + n.toNatClampNeg * k.toNatClampNeg) - xz X = _; omega)] at hk2
  obtain ⟨t, a1, b1⟩ := hk2 F rfl X'
  refine ⟨t, step t ?_, b1⟩
  have et : T.heap.size = xb X + sn s := by rw [hT]; exact hsz
  rw [et]
  exact a1
end VMULTI
