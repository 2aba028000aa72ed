section VCALLS
variable {X : VX} {cc : ByteArray} {own : String} {nL fr lo : Nat} {ini : Bool} {E : VX → Prop} {sF s : vS} {ρ : Type} {res : ρ} {pc : Nat} {ls : Array Slot} {rest : List Value}
/-! new cells -/
theorem vWo_push {D : va_G} {ka : Nat → ClassId} {b : Nat} {s : vS} {H H1 : Heap} {d : Nat × Nat} {w : Nat} (h : vWo D ka b s H) (e : vCell D ka b (push s d w) (sn s) H1) (z : H1.size = H.size + 1) (oq : ∀ q, q < H.size → H1[q]? = H[q]?) : vWo D ka b (push s d w) H1 := by
  refine ⟨by rw [z, h.1]; rfl, fun a ha => ?_⟩
  have ha : a < sn s + 1 := ha
  by_cases q : a = sn s
  · rw [q]; exact e
  · have h1 := h.2 a (by omega)
    have e1 : gI (push s d w) a = gI s a := by show (if a = s.1.1 then _ else _) = _; exact if_neg q
    have e2 : gJ (push s d w) a = gJ s a := by show (if a = s.1.1 then _ else _) = _; exact if_neg q
    have e3 : gR (push s d w) a = gR s a := by show (if a = s.1.1 then _ else _) = _; exact if_neg q
    have e0 : sh (push s d w) a = sh s a := by show (if a = s.1.1 then _ else _) = _; exact if_neg q
    have f1 : ∀ ci, fv b (push s d w) ci a = fv b s ci a := fun ci => by funext k; simp only [fv, e1, e2, e3]
    have f2 : ∀ kd, av b (push s d w) kd a = av b s kd a := fun kd => by funext k; simp only [av, e1, e2, e3]
    have hq : H1[b + a]? = H[b + a]? := oq _ (by rw [h.1]; omega)
    unfold vCell at h1 ⊢
    rw [e0, f1, f2]
    split
    · next h0 => rw [if_pos h0] at h1; exact ⟨h1.1, h1.2.kept hq⟩
    · next h0 => rw [if_neg h0] at h1; exact ⟨h1.1, hq.trans h1.2⟩
theorem va_S.grow {A : Nat → Prop} {H0 H H1 : Heap} {locs : List Loc} (hS : va_S A H0 H locs) (z : H.size ≤ H1.size) (o : ∀ q, q < H.size → H1[q]? = H[q]?) : va_S A H0 H1 locs := ⟨Nat.le_trans hS.1 z, fun q h1 h2 => (o q (Nat.lt_of_lt_of_le h1 hS.1)).trans (hS.2.1 q h1 h2), hS.2.2⟩
def okty (t : FieldType) : Bool := match t with
  | .int => true
  | .boolean => true
  | .long => true
  | .object _ => true
  | .array _ => true
  | _ => false
theorem vty_k : ∀ ci, ci < 10 → ∀ k, k < vN ci → okty (vty ci k) = true := by decide +kernel
theorem new_fv {b : Nat} {s : vS} {d : Nat × Nat} {w ci k : Nat} (h : okty (vty ci k) = true) : defaultValue (vty ci k) = fv b (push s d w) ci (sn s) k := by
  have e1 : gI (push s d w) (sn s) k = 0 := by show up1 _ _ _ _ k = _; unfold up1; rw [if_pos (show sn s = s.1.1 from rfl)]
  have e2 : gJ (push s d w) (sn s) k = 0 := by show up1 _ _ _ _ k = _; unfold up1; rw [if_pos (show sn s = s.1.1 from rfl)]
  have e3 : gR (push s d w) (sn s) k = none := by show up1 _ _ _ _ k = _; unfold up1; rw [if_pos (show sn s = s.1.1 from rfl)]
  unfold fv
  rw [e1, e2, e3]
  cases q : vty ci k <;> rw [q] at h <;> first | rfl | cases h
theorem new_av {b : Nat} {s : vS} {d : Nat × Nat} {w kd k : Nat} (h : 1 ≤ kd ∧ kd ≤ 6) : defaultValue (kty kd) = av b (push s d w) kd (sn s) k := by
  have e1 : gI (push s d w) (sn s) k = 0 := by show up1 _ _ _ _ k = _; unfold up1; rw [if_pos (show sn s = s.1.1 from rfl)]
  have e2 : gJ (push s d w) (sn s) k = 0 := by show up1 _ _ _ _ k = _; unfold up1; rw [if_pos (show sn s = s.1.1 from rfl)]
  have e3 : gR (push s d w) (sn s) k = none := by show up1 _ _ _ _ k = _; unfold up1; rw [if_pos (show sn s = s.1.1 from rfl)]
  unfold av
  rw [e1, e2, e3]
  obtain ⟨h1, h2⟩ := h
  rcases (show kd = 1 ∨ kd = 2 ∨ kd = 3 ∨ kd = 4 ∨ kd = 5 ∨ kd = 6 by omega) with rfl | rfl | rfl | rfl | rfl | rfl <;> rfl
theorem push_sh {s : vS} {d : Nat × Nat} {w : Nat} : sh (push s d w) (sn s) = d := by show va_up _ _ _ _ = _; unfold va_up; rw [if_pos (show sn s = s.1.1 from rfl)]
theorem v_new {index : Nat} (ci : Nat) {f : Nat → vS → Option ρ} (h : nwO s ci f = some res) (hci : ci < 10) (hcl : Cond.classLink own index (vC ci) ∈ TT) (hins : Cond.instantiable (vC ci) (vN ci) ∈ TT) (hini : Cond.initialized (vC ci) ∈ TT) (hdg : decode cc pc = .ok (.new index, 3))
    (kk : ∀ q s', f q s' = some res → V X (cc, own, nL, fr, lo, ini) E sF s' (G0 X (pc + 3) ls (.ref (xb X + q) :: rest))) : V X (cc, own, nL, fr, lo, ini) E sF s (G0 X pc ls rest) := by
  have k := kk _ _ h
  have k1 : sn s + 1 ≤ sn sF := k.1
  have k2 : sz s + vN ci ≤ sz sF := k.2.1
  refine ⟨by omega, by omega, fun C e h1 h2 H locs hW hS => ?_⟩
  obtain ⟨-, -, r3, r4⟩ := C.r
  have hKn := C.K.1 ci hci
  refine W.newcK C.x C.b C.ow (C.ts hcl) (C.ts hins) (C.ts hini) rfl hdg (by omega) (by omega) hKn.2.1 (h := xb X + sn s) hW.1 fun H1 kC hkC e1 z1 o1 => ?_
  have z1 : H1.size = H.size + 1 := by rw [z1, hW.1]
  have o1 : ∀ q, q < H.size → H1[q]? = H[q]? := fun q hq => o1 q (by rw [← hW.1]; exact hq)
  have hob := u_born (vty ci) C.tt (vin_ok ci hci) hKn hkC e1 (vty_ok ci hci)
  have w1 : vWo (xD X) (xka X) (xb X) (push s (0, ci) (vN ci)) H1 := vWo_push hW (by
    unfold vCell
    rw [push_sh, if_pos rfl]
    exact ⟨hci, hob.to fun j hj => new_fv (vty_k ci hci j hj)⟩) z1 o1
  have hk := k.2.2 C e (by show xn X ≤ sn s + 1; omega) (by show xz X ≤ sz s + vN ci; omega) H1 locs w1 (hS.grow (by omega) o1)
  rw [show sn (push s (0, ci) (vN ci)) - xn X = sn s - xn X + 1 from Nat.succ_sub h1, show sz (push s (0, ci) (vN ci)) - xz X = sz s - xz X + vN ci from (by show sz s + vN ci - xz X = _; omega)] at hk
  exact hk
theorem v_newa (kd : Nat) {n : Int32} {f : Nat → vS → Option ρ} (h : nwA s kd n f = some res) (hkd : 1 ≤ kd ∧ kd ≤ 3) (hw : Cond.arrayClass (newarray.typeOf (aty kd)) ∈ TT) (hdg : decode cc pc = .ok (.newarray (aty kd), 2))
    (kk : ∀ q s', f q s' = some res → V X (cc, own, nL, fr, lo, ini) E sF s' (G0 X (pc + 2) ls (.ref (xb X + q) :: rest))) : V X (cc, own, nL, fr, lo, ini) E sF s (G0 X pc ls (.int n :: rest)) := by
  obtain ⟨⟨hn, hN⟩, h⟩ := v_chk h
  have k := kk _ _ h
  have k1 : sn s + 1 ≤ sn sF := k.1
  have k2 : sz s + n.toNatClampNeg ≤ sz sF := k.2.1
  refine ⟨by omega, by omega, fun C e h1 h2 H locs hW hS => ?_⟩
  obtain ⟨-, -, r3, r4⟩ := C.r
  have hty : newarray.typeOf (aty kd) = kty kd := by
    obtain ⟨a, b⟩ := hkd
    rcases (show kd = 1 ∨ kd = 2 ∨ kd = 3 by omega) with rfl | rfl | rfl <;> rfl
  refine va_newaK C.x C.b (atype := aty kd) (C.ts hw) rfl hdg rfl hn rfl (by
    rw [hty]
    have : componentBytes (kty kd) ≤ 8 := by
      obtain ⟨a, b⟩ := hkd
      rcases (show kd = 1 ∨ kd = 2 ∨ kd = 3 by omega) with rfl | rfl | rfl <;> decide
    have h3 := Nat.mul_le_mul hN this
    omega) (by omega) (by omega) (h := xb X + sn s) hW.1 fun H1 cA e1 z1 o1 _ hNm => ?_
  have z1 : H1.size = H.size + 1 := by rw [z1, hW.1]
  have o1 : ∀ q, q < H.size → H1[q]? = H[q]? := fun q hq => o1 q (by rw [← hW.1]; exact hq)
  have hca : cA = xka X kd := by
    have h3 := (C.K.2.1 kd hkd.1 (by omega)).2
    have h4 : (xs X).vm.findClass ("[" ++ (kty kd).toString) = some (xka X kd) := by
      obtain ⟨a, b⟩ := hkd
      rcases (show kd = 1 ∨ kd = 2 ∨ kd = 3 by omega) with rfl | rfl | rfl <;> exact h3
    rw [hty] at hNm
    exact Option.some.inj (hNm.symm.trans h4)
  subst hca
  have w1 : vWo (xD X) (xka X) (xb X) (push s (kd, n.toNatClampNeg) n.toNatClampNeg) H1 := vWo_push hW (by
    unfold vCell
    rw [push_sh, if_neg (by simp; omega)]
    refine ⟨by show kd ≤ 6; omega, ?_⟩
    rw [e1, hty]
    congr 2
    funext j
    exact new_av (by omega)) z1 o1
  have hk := k.2.2 C e (by show xn X ≤ sn s + 1; omega) (by show xz X ≤ sz s + n.toNatClampNeg; omega) H1 locs w1 (hS.grow (by omega) o1)
  rw [show sn (push s (kd, n.toNatClampNeg) n.toNatClampNeg) - xn X = sn s - xn X + 1 from Nat.succ_sub h1, show sz (push s (kd, n.toNatClampNeg) n.toNatClampNeg) - xz X = sz s - xz X + n.toNatClampNeg from (by show sz s + n.toNatClampNeg - xz X = _; omega)] at hk
  exact hk
/-- new Net[n], new Sum[n] -/
theorem v_newq (kd : Nat) {index : Nat} {n : Int32} {f : Nat → vS → Option ρ} (h : nwA s kd n f = some res) (hkd : kd = 4 ∨ kd = 5) (hcl : Cond.classLink own index (if kd = 4 then RX3 else RX6) ∈ TT) (hdg : decode cc pc = .ok (.anewarray index, 3))
    (kk : ∀ q s', f q s' = some res → V X (cc, own, nL, fr, lo, ini) E sF s' (G0 X (pc + 3) ls (.ref (xb X + q) :: rest))) : V X (cc, own, nL, fr, lo, ini) E sF s (G0 X pc ls (.int n :: rest)) := by
  obtain ⟨⟨hn, hN⟩, h⟩ := v_chk h
  have k := kk _ _ h
  have k1 : sn s + 1 ≤ sn sF := k.1
  have k2 : sz s + n.toNatClampNeg ≤ sz sF := k.2.1
  refine ⟨by omega, by omega, fun C e h1 h2 H locs hW hS => ?_⟩
  obtain ⟨-, -, r3, r4⟩ := C.r
  have hov : va_AO (if kd = 4 then RX3 else RX6) (xs X) := by
    rcases hkd with rfl | rfl
    · exact C.K.2.2.2.1
    · exact C.K.2.2.2.2.1
  refine W.anew C.x C.b C.ow (C.ts hcl) (va_AO.use hov) rfl hdg rfl hn (by omega) (by omega) (by omega) fun cA kA comp f1 f2 f3 f4 => ?_
  generalize hH1 : H.push ({ cls := cA, slots := Array.replicate n.toNatClampNeg .null, vm := .none } : Cell) = H1
  have z1 : H1.size = H.size + 1 := by rw [← hH1, Array.size_push]
  have e1 : H1[H.size]? = some (arrV cA n.toNatClampNeg (fun _ => .null)) := by rw [← hH1, Array.getElem?_push_size, ← arrV_new]
  have o1 : ∀ q, q < H.size → H1[q]? = H[q]? := fun q hq => by rw [← hH1, Array.getElem?_push, if_neg (Nat.ne_of_lt hq)]
  have hca : cA = xka X kd := by
    have h3 := (C.K.2.1 kd (by omega) (by omega)).2
    rcases hkd with rfl | rfl
    · obtain ⟨_, _, _, _, _, h4⟩ := h3
      exact Option.some.inj (f1.symm.trans h4)
    · obtain ⟨_, _, _, _, _, h4⟩ := h3
      exact Option.some.inj (f1.symm.trans h4)
  subst hca
  have w1 : vWo (xD X) (xka X) (xb X) (push s (kd, n.toNatClampNeg) n.toNatClampNeg) H1 := vWo_push hW (by
    unfold vCell
    rw [push_sh, if_neg (by simp; omega)]
    refine ⟨by show kd ≤ 6; omega, ?_⟩
    rw [← hW.1, e1]
    congr 2
    funext j
    rw [← new_av (by omega)]
    rcases hkd with rfl | rfl <;> rfl) z1 o1
  have hk := k.2.2 C e (by show xn X ≤ sn s + 1; omega) (by show xz X ≤ sz s + n.toNatClampNeg; omega) H1 locs w1 (hS.grow (by omega) o1)
  rw [show sn (push s (kd, n.toNatClampNeg) n.toNatClampNeg) - xn X = sn s - xn X + 1 from Nat.succ_sub h1, show sz (push s (kd, n.toNatClampNeg) n.toNatClampNeg) - xz X = sz s - xz X + n.toNatClampNeg from (by show sz s + n.toNatClampNeg - xz X = _; omega), ← hW.1] at hk
  exact hk
/-! contracts, calls, ends -/
def vQ (D : va_G) (ka : Nat → ClassId) (b : Nat) (rv : Option Value) (s' : vS) : Array Value → State → Outcome → State → Prop := fun _ st oc t => oc = .returned rv ∧ vWo D ka b s' t.heap ∧ va_F (fun q => b ≤ q) st t
def vPc (D : va_G) (ka : Nat → ClassId) (b : Nat) (av : List Value) (s : vS) : Array Value → State → Prop := va_Pc av (fun U => vWo D ka b s U.heap ∧ vKn D ka U ∧ b ≤ U.heap.size)
theorem vPc.blind {D : va_G} {ka : Nat → ClassId} {b : Nat} {av : List Value} {s : vS} : FrameBlind (vPc D ka b av s) := fun a U g mk q => ⟨q.1, q.2.1, q.2.2.1.warm (State.WarmedH.refl U), q.2.2.2⟩
/-- y's contract: from the picture s to the picture s', with the answer rv -/
def vMet (l : Launch) (D : va_G) (ka : Nat → ClassId) (b : Nat) (y : MethodName) (bytes : ByteArray) (maxL : Nat) (ret : Option FieldType) (fr lo : Nat) (av : List Value) (s s' : vS) (rv : Option Value) : Prop :=
  sn s ≤ sn s' ∧ sz s ≤ sz s' ∧ Met l y (Cond.code y bytes maxL ret :: TT) { frames := fr, cells := sn s' - sn s, slots := sz s' - sz s, locals := lo } (vPc D ka b av s) (vQ D ka b rv s') (sn s' - sn s) (sz s' - sz s) (fun q => b ≤ q)
/-- what the tables say of a method that is called -/
def vCl (y : MethodName) (bytes : ByteArray) (maxL : Nat) (ret : Option FieldType) (n : Nat) : Prop := Cond.code y bytes maxL ret ∈ TT ∧ Cond.initialized y.cls ∈ TT ∧ (y.cls ≠ "java/lang/invoke/MethodHandle" ∧ y.cls ≠ "java/lang/invoke/VarHandle" ∧ (parseMethodDescriptor y.desc).map (fun d => d.parameters.length) = some n)
theorem v_run {st0 : List Value} {s' : vS} {rv : Option Value} {aa : Array Value} (e1 : sn s ≤ sn s') (e2 : sz s ≤ sz s')
    (hr : vCtx X (cc, own, nL, fr, lo, ini) sF → sn s' - xn X ≤ (xR X).cells → sz s' - xz X ≤ (xR X).slots → xn X ≤ sn s → xz X ≤ sz s → ∀ H locs, vWo (xD X) (xka X) (xb X) s H → va_S (fun q => xb X ≤ q) (xH0 X) H locs → va_Run (xp X) (xl X) (xe X) (xR X) (xs X) (xm X) (xargs X) (xbelow X) (xmeth X) (xc X) H locs (sn s - xn X) (sz s - xz X) (sn s' - sn s) (sz s' - sz s) (G0 X pc ls st0) rest (vQ (xD X) (xka X) (xb X) rv s' aa) (fun q => xb X ≤ q))
    (kk : V X (cc, own, nL, fr, lo, ini) E sF s' (G0 X (pc + 3) ls (rv.toList ++ rest))) : V X (cc, own, nL, fr, lo, ini) E sF s (G0 X pc ls st0) := by
  refine ⟨Nat.le_trans e1 kk.1, Nat.le_trans e2 kk.2.1, fun C e h1 h2 H locs hW hS => ?_⟩
  obtain ⟨-, -, r3, r4⟩ := C.r
  have k1 := kk.1
  have k2 := kk.2.1
  intro T hT Xs
  obtain ⟨v, st₀, t, T', L, g0, X', hL, g1, g2, ⟨hv, hw, hz, hk⟩, st⟩ := hr C (by omega) (by omega) h1 h2 H locs hW hS T hT Xs
  cases hv
  rw [g0] at hz hk
  rw [← g1] at hw hz hk
  have hS' : va_S (fun q => xb X ≤ q) (xH0 X) T'.heap (locs ++ L) := ⟨Nat.le_trans hS.1 hz, fun q q1 q2 => (hk q (Nat.lt_of_lt_of_le q1 hS.1) q2).trans (hS.2.1 q q1 q2), fun q hq => by
    rcases List.mem_append.mp hq with h | h
    · exact hS.2.2 q h
    · exact hL q h⟩
  rw [show sn s - xn X + (sn s' - sn s) = sn s' - xn X by omega, show sz s - xz X + (sz s' - sz s) = sz s' - xz X by omega] at X'
  obtain ⟨t2, a1, b1⟩ := kk.2.2 C e (by omega) (by omega) T'.heap (locs ++ L) hw hS' T' rfl X'
  exact ⟨t2, st t2 a1, b1⟩
theorem vCtx.fix (C : vCtx X (cc, own, nL, fr, lo, ini) sF) : CallFix (xp X) (xm X) (xc X) cc nL (xs X) (xargs X) TT own := ⟨C.x, C.b, C.ml, C.ow, C.tt⟩
theorem vCtx.pre (C : vCtx X (cc, own, nL, fr, lo, ini) sF) {av : List Value} {H : Heap} {locs : List Loc} (hW : vWo (xD X) (xka X) (xb X) s H) (hS : va_S (fun q => xb X ≤ q) (xH0 X) H locs) : PreS (xs X) H (vPc (xD X) (xka X) (xb X) av s) av := ⟨vPc.blind, fun U hU hWm => ⟨rfl, by rw [hU]; exact hW, C.K.warm hWm, by rw [hU]; exact Nat.le_trans C.bz hS.1⟩⟩
section CALL
variable {y : MethodName} {bytes : ByteArray} {maxL fr' lo' n index : Nat} {ret : Option FieldType} {As : List Value} {s' : vS} {rv : Option Value}
theorem vCtx.cb (C : vCtx X (cc, own, nL, fr, lo, ini) sF) (hl : vCl y bytes maxL ret n) (hlink : Cond.methodLink own index y ∈ TT) (hR : fr' + 1 ≤ fr ∧ 8 + (maxL + 11) + lo' ≤ lo) (c z : Nat) : CallB (xR X) (xs X) (xargs X) own index y bytes maxL ret (Cond.code y bytes maxL ret :: TT) { frames := fr', cells := c, slots := z, locals := lo' } c z n :=
  callB_of n C.tt (tt_in hl.1) rfl rfl rfl (C.ts hl.2.1) (C.ts hlink) hl.2.2 (by rw [C.r.1, C.r.2.1]; exact hR)
theorem v_callS (hM : vMet (xl X) (xD X) (xka X) (xb X) y bytes maxL ret fr' lo' As s s' rv) (hl : vCl y bytes maxL ret n) (hst : Cond.static y ∈ TT) (hlink : Cond.methodLink own index y ∈ TT) (hR : fr' + 1 ≤ fr ∧ 8 + (maxL + 11) + lo' ≤ lo) {st0 : List Value} (hn : As.length = n) (hstack : st0 = As.reverse ++ rest) (hls : ls.size = nL) (hr : (rest.map fun v => v.category).sum ≤ 8) (hdg : decode cc pc = .ok (.invokestatic index, 3))
    (kk : V X (cc, own, nL, fr, lo, ini) E sF s' (G0 X (pc + 3) ls (rv.toList ++ rest))) : V X (cc, own, nL, fr, lo, ini) E sF s (G0 X pc ls st0) := by
  refine v_run (aa := As.toArray) hM.1 hM.2.1 (fun C hc hz h1 h2 H locs hW hS => ?_) kk
  have m1 := hM.1
  have m2 := hM.2.1
  exact va_runS (As := As) (rest := rest) C.fix hM.2.2 ⟨C.cb hl hlink hR _ _, C.ts hst⟩ (C.pre hW hS) rfl hn hls hstack (lv_room hr) hdg ⟨by omega, by omega⟩
theorem v_callV {b ci : Nat} (hM : vMet (xl X) (xD X) (xka X) (xb X) y bytes maxL ret fr' lo' (.ref (xb X + b) :: As) s s' rv) (hO : isO s b ci = true) (hy : vC ci = y.cls) (hl : vCl y bytes maxL ret n) (hin : Cond.instanceMethod y ∈ TT) (hsel : Cond.selects y.cls y y ∈ TT) (hlink : Cond.methodLink own index y ∈ TT) (hR : fr' + 1 ≤ fr ∧ 8 + (maxL + 11) + lo' ≤ lo) {st0 : List Value} (hn : As.length = n) (hstack : st0 = As.reverse ++ .ref (xb X + b) :: rest) (hls : ls.size = nL) (hr : (rest.map fun v => v.category).sum ≤ 8) (hdg : decode cc pc = .ok (.invokevirtual index, 3))
    (kk : V X (cc, own, nL, fr, lo, ini) E sF s' (G0 X (pc + 3) ls (rv.toList ++ rest))) : V X (cc, own, nL, fr, lo, ini) E sF s (G0 X pc ls st0) := by
  refine v_run (aa := (Value.ref (xb X + b) :: As).toArray) hM.1 hM.2.1 (fun C hc hz h1 h2 H locs hW hS => ?_) kk
  have m1 := hM.1
  have m2 := hM.2.1
  have hci := (isO_spec hO).2.2
  exact va_runV (C := y.cls) (b := xb X + b) (As := As) (rest := rest) C.fix hM.2.2 ⟨C.cb hl hlink hR _ _, C.ts hin, C.ts hsel⟩ ⟨(C.pre hW hS).1, by rw [← hy]; exact va_recv C.K.K (hW.P1 hO) (vcl_at hci) rfl (q0 := 0), (C.pre (av := .ref (xb X + b) :: As) hW hS).2⟩ rfl hn hls hstack (lv_room hr) hdg ⟨by omega, by omega⟩
theorem v_callI {b : Nat} (hM : vMet (xl X) (xD X) (xka X) (xb X) y bytes maxL none fr' lo' (.ref (xb X + b) :: As) s s' rv) (hy : y.name = "<init>") (hl : vCl y bytes maxL none n) (hin : Cond.instanceMethod y ∈ TT) (hlink : Cond.methodLink own index y ∈ TT) (hR : fr' + 1 ≤ fr ∧ 8 + (maxL + 11) + lo' ≤ lo) {st0 : List Value} (hn : As.length = n) (hstack : st0 = As.reverse ++ .ref (xb X + b) :: rest) (hls : ls.size = nL) (hr : (rest.map fun v => v.category).sum ≤ 8) (hdg : decode cc pc = .ok (.invokespecial index, 3))
    (kk : V X (cc, own, nL, fr, lo, ini) E sF s' (G0 X (pc + 3) ls (rv.toList ++ rest))) : V X (cc, own, nL, fr, lo, ini) E sF s (G0 X pc ls st0) := by
  refine v_run (aa := (Value.ref (xb X + b) :: As).toArray) hM.1 hM.2.1 (fun C hc hz h1 h2 H locs hW hS => ?_) kk
  have m1 := hM.1
  have m2 := hM.2.1
  exact va_runI (b := xb X + b) (As := As) (rest := rest) C.fix hM.2.2 ⟨C.cb hl hlink hR _ _, hy, C.ts hin⟩ (C.pre hW hS) rfl hn hls hstack (lv_room hr) hdg ⟨by omega, by omega⟩
/-- a private constructor of a nest mate -/
theorem v_callIN {b : Nat} {host : String} (hM : vMet (xl X) (xD X) (xka X) (xb X) y bytes maxL none fr' lo' (.ref (xb X + b) :: As) s s' rv) (hy : y.name = "<init>") (hl : vCl y bytes maxL none n) (hin : Cond.instanceMethod y ∈ TT) (hlink : Cond.methodLinkNest own index y host ∈ nestW) (hR : fr' + 1 ≤ fr ∧ 8 + (maxL + 11) + lo' ≤ lo) {st0 : List Value} (hn : As.length = n) (hstack : st0 = As.reverse ++ .ref (xb X + b) :: rest) (hls : ls.size = nL) (hr : (rest.map fun v => v.category).sum ≤ 8) (hdg : decode cc pc = .ok (.invokespecial index, 3))
    (kk : V X (cc, own, nL, fr, lo, ini) E sF s' (G0 X (pc + 3) ls (rv.toList ++ rest))) : V X (cc, own, nL, fr, lo, ini) E sF s (G0 X pc ls st0) := by
  refine v_run (aa := (Value.ref (xb X + b) :: As).toArray) hM.1 hM.2.1 (fun C hc hz h1 h2 H locs hW hS => ?_) kk
  have m1 := hM.1
  have m2 := hM.2.1
  exact va_runIN (host := host) (b := xb X + b) (As := As) (rest := rest) C.fix hM.2.2 ⟨va_cnB n C.tt (tt_in hl.1) rfl rfl rfl (C.K.2.2.1 _ hlink) (C.ts hl.2.1) hl.2.2 (by rw [C.r.1, C.r.2.1]; exact hR), hy, C.ts hin⟩ (C.pre hW hS) rfl hn hls hstack (lv_room hr) hdg ⟨by omega, by omega⟩
theorem v_objI {index : Nat} {a : Nat} (hlink : Cond.methodLink own index objectInit ∈ TT) (hin : Cond.instanceMethod objectInit ∈ TT) (hcode : Cond.code objectInit ⟨#[0xb1]⟩ 1 none ∈ TT) (hls : ls.size = nL) (hr : 1 ≤ fr ∧ (rest.map fun v => v.category).sum + 12 ≤ lo) (hdg : decode cc pc = .ok (.invokespecial index, 3))
    (kk : V X (cc, own, nL, fr, lo, ini) E sF s (G0 X (pc + 3) ls rest)) : V X (cc, own, nL, fr, lo, ini) E sF s (G0 X pc ls (.ref a :: rest)) :=
  v_pure (fun C _ _ _ _ w => W.objInit C.x C.b C.ow (C.ts hlink) (C.ts hin) (C.ts hcode) rfl (by rw [C.ml]; exact hls) rfl hdg (by rw [C.r.1]; exact hr.1) (by rw [C.r.2.1]; show 2 * 0 + _ + 12 ≤ _; simpa using hr.2) w) kk
end CALL
/-- what a method's end is to be -/
def vRet (sF : vS) (rv : Option Value) (ret : Option FieldType) (X : VX) : Prop := xQ X = MQ (xbelow X) (vQ (xD X) (xka X) (xb X) rv sF) (xargs X) (xs X) (sn sF - xn X) (sz sF - xz X) (fun q => xb X ≤ q) ∧ xH0 X = (xs X).heap ∧ (xmeth X).sig.returnType = ret
theorem vRet.q {rv : Option Value} {ret : Option FieldType} (e : vRet sF rv ret X) {H : Heap} {locs : List Loc} (hW : vWo (xD X) (xka X) (xb X) sF H) (hS : va_S (fun q => xb X ≤ q) (xH0 X) H locs) : ∀ t : State, t.heap = H → (xs X).WarmedH t.vm → vQ (xD X) (xka X) (xb X) rv sF (xargs X) (xs X) (.returned rv) t := fun t ht _ => ⟨rfl, by rw [ht]; exact hW, by rw [e.2.1] at hS; exact hS.F ht⟩
theorem v_iret {x r : Int32} (hdg : decode cc pc = .ok (.ireturn, 1)) (h : some (x, s) = some (r, sF)) : V X (cc, own, nL, fr, lo, ini) (vRet sF (some (.int r)) (some .int)) sF s (G0 X pc ls [.int x]) := by
  cases h
  refine ⟨Nat.le_refl _, Nat.le_refl _, fun C e h1 h2 H locs hW hS => ?_⟩
  have q := e.q hW hS
  show W _ _ _ _ _ _ _ _ _ _ _ _ _ _ (xQ X) _
  rw [e.1]
  exact W.iret C.x C.b e.2.2 q hS.2.2 hdg C.lk
theorem v_zret {x r : Int32} (hdg : decode cc pc = .ok (.ireturn, 1)) (h : rtZ x s = some (r, sF)) : V X (cc, own, nL, fr, lo, ini) (vRet sF (some (.int r)) (some .boolean)) sF s (G0 X pc ls [.int x]) := by
  obtain ⟨hz, h⟩ := v_chk h
  cases h
  refine ⟨Nat.le_refl _, Nat.le_refl _, fun C e h1 h2 H locs hW hS => ?_⟩
  have q := e.q hW hS
  show W _ _ _ _ _ _ _ _ _ _ _ _ _ _ (xQ X) _
  rw [e.1]
  exact W.zret C.x C.b e.2.2 (nar_z hz).1 q hS.2.2 hdg C.lk
theorem v_lret {x r : Int64} (hdg : decode cc pc = .ok (.lreturn, 1)) (h : some (x, s) = some (r, sF)) : V X (cc, own, nL, fr, lo, ini) (vRet sF (some (.long r)) (some .long)) sF s (G0 X pc ls [.long x]) := by
  cases h
  refine ⟨Nat.le_refl _, Nat.le_refl _, fun C e h1 h2 H locs hW hS => ?_⟩
  have q := e.q hW hS
  show W _ _ _ _ _ _ _ _ _ _ _ _ _ _ (xQ X) _
  rw [e.1]
  exact W.lret C.x C.b e.2.2 q hS.2.2 hdg C.lk
theorem v_aret {x r : Nat} {rt : FieldType} (hrt : isRf rt = true) (hdg : decode cc pc = .ok (.areturn, 1)) (h : some (x, s) = some (r, sF)) : V X (cc, own, nL, fr, lo, ini) (vRet sF (some (.ref (xb X + r))) (some rt)) sF s (G0 X pc ls [.ref (xb X + x)]) := by
  cases h
  refine ⟨Nat.le_refl _, Nat.le_refl _, fun C e h1 h2 H locs hW hS => ?_⟩
  have q := e.q hW hS
  show W _ _ _ _ _ _ _ _ _ _ _ _ _ _ (xQ X) _
  rw [e.1]
  exact W.aret C.x C.b e.2.2 (by cases rt <;> first | exact Or.inl ⟨_, rfl⟩ | exact Or.inr ⟨_, rfl⟩ | cases hrt) (Or.inr ⟨_, rfl⟩) q hS.2.2 hdg C.lk
theorem v_vret {u : Unit} (hdg : decode cc pc = .ok (.return_, 1)) (h : some ((), s) = some (u, sF)) : V X (cc, own, nL, fr, lo, ini) (vRet sF none none) sF s (G0 X pc ls []) := by
  cases h
  refine ⟨Nat.le_refl _, Nat.le_refl _, fun C e h1 h2 H locs hW hS => ?_⟩
  have q := e.q hW hS
  show W _ _ _ _ _ _ _ _ _ _ _ _ _ _ (xQ X) _
  rw [e.1]
  exact W.vret C.x C.b e.2.2 q hS.2.2 hdg C.lk
theorem Met.ofWF {l : Launch} {y : MethodName} {ws ws' : List Cond} {rm : Room} {Pc : Array Value → State → Prop} {Qc : Array Value → State → Outcome → State → Prop} {mc ms : Nat} {free : Addr → Prop} {cc : ByteArray} {maxL : Nat} {ret : Option FieldType}
    (hy : plainFor y = true) (hw : ws = Cond.code y cc maxL ret :: ws')
    (body : ∀ p e s m args below meth c s₁, BodyLoose p l y (headSpec ws rm) cc maxL ret e s m args below meth c s₁ → c.maxLocals = maxL → Pc args s →
      W p l e (headSpec ws rm).room s m args below meth c s.heap [] 0 0 (MQ below Qc args s mc ms free) (entryFrame m args maxL)) : Met l y ws rm Pc Qc mc ms free := by
  refine MetFree.of_bodySF (code := cc) (maxLocals := maxL) (ret := ret) hy ?_ ?_
  · intro args s m h hn
    obtain ⟨meth, c, h1, h2, h3, h4, h5, h6, -, -⟩ := Cond.code_spec hn (atoms_spec (ws := ws) h _ (by rw [hw]; exact List.mem_cons_self))
    exact ⟨meth, c, h1, h2, h3, h4, h5, h6⟩
  · intro p e s m args below meth c s₁ B hml hP _
    have hh0 : s₁.heap = s.heap := by rw [B.state]; rfl
    obtain ⟨t, a1, o, b1, b2, b3⟩ := body p e s m args below meth c s₁ B hml hP s₁ hh0 (Stand.of_body B)
    exact ⟨t, o, a1, b1, b2, ⟨b3.1, b3.2⟩⟩
def flDs : List String := ["(D)D", "(DD)D", "(DDD)D", "(F)F", "(FF)F", "(FFF)F"]
theorem flRows : (Jvm.natives.all fun r => r.cls != "java/lang/Math" || flDs.contains r.desc) = true := by decide +kernel
theorem flPlain {x : MethodName} (hc : x.cls = "java/lang/Math") (hd : flDs.contains x.desc = false) : plainFor x = true := by
  unfold plainFor
  rw [Bool.or_eq_true]; right
  rw [Option.isNone_iff_eq_none, NativeRow.find?, List.find?_eq_none]
  intro r hr h
  have := List.all_eq_true.mp flRows r hr
  simp only [Bool.and_eq_true, beq_iff_eq] at h
  rw [h.1.2, h.2, hc, hd] at this
  simp at this
/-- a contract out of a walk of the body -/
theorem vMet.of {l : Launch} {D : va_G} {ka : Nat → ClassId} {b : Nat} {y : MethodName} {bytes : ByteArray} {maxL : Nat} {ret : Option FieldType} {fr lo : Nat} {av : List Value} {s s' : vS} {rv : Option Value} (X0 : VX) (hy : plainFor y = true) (hlen : (lg_sl av).length ≤ maxL) (hi : ini = true → y.name = "<init>")
    (body : ∀ (X : VX) (ls : Array Slot), xb X = b → lv_has ls maxL (lv_args 0 av) → V X (bytes, y.cls, maxL, fr, lo, ini) (vRet s' rv ret) s' s (G0 X 0 ls [])) (hb0 : xb X0 = b) : vMet l D ka b y bytes maxL ret fr lo av s s' rv := by
  have h0 := body X0 _ hb0 (lv_entry av hlen)
  refine ⟨h0.1, h0.2.1, ?_⟩
  refine Met.ofWF (cc := bytes) (maxL := maxL) (ret := ret) hy rfl ?_
  intro p e st m args below meth c s₁ B hml hv
  obtain ⟨rfl, hW, hK, hbz⟩ := hv
  have hts := atoms_spec (ws := Cond.code y bytes maxL ret :: TT) B.pre
  have hl := lv_entry av (n := maxL) hlen
  rw [lg_entry_eq]
  generalize (lg_sl av ++ List.replicate (maxL - (lg_sl av).length) Slot.unset).toArray = ls at hl ⊢
  have h1 := body ((p, l, e, { frames := fr, cells := sn s' - sn s, slots := sz s' - sz s, locals := lo }, st), (m, av.toArray, below, meth, c), (D, ka, b, st.heap, sn s, sz s), MQ below (vQ D ka b rv s') av.toArray st (sn s' - sn s) (sz s' - sz s) (fun q => b ≤ q)) ls rfl hl
  have h2 := h1.2.2 ⟨⟨B.exec, B.bytes, hml, findClass_of_methodNamed B.named⟩, fun w hw => hts w (List.mem_cons_of_mem _ hw), hK, B.notSynchronized, hbz, ⟨rfl, rfl, Nat.le_refl _, Nat.le_refl _⟩, fun h => by rw [(name_of_methodNamed B.named B.method).1]; exact hi h⟩ ⟨rfl, rfl, B.returns⟩ (Nat.le_refl _) (Nat.le_refl _) st.heap [] hW va_S.rf
  have e1 : sn s - sn s = 0 := Nat.sub_self _
  have e2 : sz s - sz s = 0 := Nat.sub_self _
  dsimp only [xW, xn, xz] at h2
  rw [e1, e2] at h2
  exact h2
end VCALLS
