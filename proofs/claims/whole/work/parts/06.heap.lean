section VHEAP
variable {X : VX} {cc : ByteArray} {own : String} {nL fr lo : Nat} {ini : Bool} {E : VX → Prop} {sF s : vS} {ρ : Type} {res : ρ} {pc : Nat} {ls : Array Slot} {rest : List Value}
def fs1 (b : Nat) (s : vS) (ci a : Nat) : List Value := (List.range (vN ci)).map (fv b s ci a)
theorem fs1_at {b : Nat} {s : vS} {ci a k : Nat} (hk : k < vN ci) : (fs1 b s ci a)[k]? = some (fv b s ci a k) := by
  simp [fs1, List.getElem?_map, List.getElem?_range hk]
theorem vWo.P1 {D : va_G} {ka : Nat → ClassId} {b : Nat} {s : vS} {H : Heap} {a ci : Nat} (h : vWo D ka b s H) (hO : isO s a ci = true) : va_P D vcl [(b + a, .inr (ci, fs1 b s ci a))] H := by
  intro k q hk
  have h0 : k < 1 := (List.getElem?_eq_some_iff.mp hk).1
  rw [show k = 0 by omega] at hk
  cases hk
  refine ⟨_, vcl_at (isO_spec hO).2.2, (h.obj hO).to fun j hj => ?_⟩
  simp only [vp_V, List.getD_eq_getElem?_getD, fs1_at hj, Option.getD_some]
/-- a field is read -/
theorem v_get {a ci k index : Nat} {v : Value} (hO : isO s a ci = true) (hk : k < vN ci) (hv : fv (xb X) s ci a k = v) (hw : Cond.fieldLink own index (vT ci k).1 (vT ci k).2.1 (vT ci k).2.2.1 ∈ TT) (hdg : decode cc pc = .ok (.getfield index, 3))
    (kk : V X (cc, own, nL, fr, lo, ini) E sF s (G0 X (pc + 3) ls (v :: rest))) : V X (cc, own, nL, fr, lo, ini) E sF s (G0 X pc ls (.ref (xb X + a) :: rest)) := by
  refine ⟨kk.1, kk.2.1, fun C e h1 h2 H locs hW hS => ?_⟩
  have hc := (isO_spec hO).2.2
  exact va_get (D := xD X) (ci := ci) (v := v) (C := vC ci) (T := vT ci) (N := vN ci) C.x C.b (Ts := TT) C.tt (vin_ok ci hc) C.ow C.K.K (hW.P1 hO) 0 rfl (vcl_at hc) k hk (C.ts hw) (fun _ h9 => h9) (by rw [← hv]; exact fs1_at hk) hdg (kk.2.2 C e h1 h2 H locs hW hS)
theorem v_getI {a index : Nat} (ci k : Nat) {f : Int32 → Option ρ} (h : ldI s a ci k f = some res) (hk : k < vN ci) (hty : vty ci k = .int ∨ vty ci k = .boolean) (hw : Cond.fieldLink own index (vT ci k).1 (vT ci k).2.1 (vT ci k).2.2.1 ∈ TT) (hdg : decode cc pc = .ok (.getfield index, 3))
    (kk : ∀ v, f v = some res → V X (cc, own, nL, fr, lo, ini) E sF s (G0 X (pc + 3) ls (.int v :: rest))) : V X (cc, own, nL, fr, lo, ini) E sF s (G0 X pc ls (.ref (xb X + a) :: rest)) := by
  obtain ⟨hO, h⟩ := v_chk h
  exact v_get hO hk (by unfold fv; rcases hty with e | e <;> rw [e]) hw hdg (kk _ h)
theorem v_getJ {a index : Nat} (ci k : Nat) {f : Int64 → Option ρ} (h : ldJ s a ci k f = some res) (hk : k < vN ci) (hty : vty ci k = .long) (hw : Cond.fieldLink own index (vT ci k).1 (vT ci k).2.1 (vT ci k).2.2.1 ∈ TT) (hdg : decode cc pc = .ok (.getfield index, 3))
    (kk : ∀ v, f v = some res → V X (cc, own, nL, fr, lo, ini) E sF s (G0 X (pc + 3) ls (.long v :: rest))) : V X (cc, own, nL, fr, lo, ini) E sF s (G0 X pc ls (.ref (xb X + a) :: rest)) := by
  obtain ⟨hO, h⟩ := v_chk h
  exact v_get hO hk (by unfold fv; rw [hty]) hw hdg (kk _ h)
def isRf (t : FieldType) : Bool := match t with
  | .object _ => true
  | .array _ => true
  | _ => false
theorem fv_ref {b : Nat} {s : vS} {ci a k : Nat} (h : isRf (vty ci k) = true) : fv b s ci a k = va_rf ((gR s a k).map (b + ·)) := by
  unfold fv
  cases e : vty ci k <;> rw [e] at h <;> first | rfl | cases h
theorem v_getR {a index : Nat} (ci k : Nat) {f : Nat → Option ρ} (h : ldR s a ci k f = some res) (hk : k < vN ci) (hty : isRf (vty ci k) = true) (hw : Cond.fieldLink own index (vT ci k).1 (vT ci k).2.1 (vT ci k).2.2.1 ∈ TT) (hdg : decode cc pc = .ok (.getfield index, 3))
    (kk : ∀ r, f r = some res → V X (cc, own, nL, fr, lo, ini) E sF s (G0 X (pc + 3) ls (.ref (xb X + r) :: rest))) : V X (cc, own, nL, fr, lo, ini) E sF s (G0 X pc ls (.ref (xb X + a) :: rest)) := by
  obtain ⟨hO, h⟩ := v_chk h
  obtain ⟨r, hr, h⟩ := orN_some h
  exact v_get hO hk (by rw [fv_ref hty, hr]; rfl) hw hdg (kk r h)
/-- a field is written: not final, or in its class's constructor -/
theorem v_put {a ci k index : Nat} {v : Value} {s' : vS} (hO : isO s a ci = true) (hk : k < vN ci) (hfin : (vT ci k).2.2.2 = false ∨ ((vT ci k).2.2.2 = true ∧ ini = true ∧ vC ci = own)) (hn : narrow (vty ci k) v = v) (hfit : fits (vty ci k) v = true)
    (e1 : s'.1 = s.1) (e2 : sh s' = sh s) (e3 : ∀ a', a' ≠ a → gI s' a' = gI s a' ∧ gJ s' a' = gJ s a' ∧ gR s' a' = gR s a') (e4 : ∀ j, j < vN ci → updV (fv (xb X) s ci a) k v j = fv (xb X) s' ci a j)
    (hw : Cond.fieldLink own index (vT ci k).1 (vT ci k).2.1 (vT ci k).2.2.1 ∈ TT) (hdg : decode cc pc = .ok (.putfield index, 3))
    (kk : V X (cc, own, nL, fr, lo, ini) E sF s' (G0 X (pc + 3) ls rest)) : V X (cc, own, nL, fr, lo, ini) E sF s (G0 X pc ls (v :: .ref (xb X + a) :: rest)) := by
  have en : sn s' = sn s := congrArg Prod.fst e1
  have ez : sz s' = sz s := congrArg Prod.snd e1
  refine ⟨by rw [← en]; exact kk.1, by rw [← ez]; exact kk.2.1, fun C e h1 h2 H locs hW hS => ?_⟩
  obtain ⟨ha, hs, hc⟩ := isO_spec hO
  have hts := C.tt
  have hin := vin_ok ci hc
  have hap := va_apart (own := own) hts hin (vty ci) (vty_ok ci hc) (vnm_ok ci hc) C.K.K (vcl_at hc)
  obtain ⟨cell, q1, q2, q3, q4⟩ := hW.obj hO
  obtain ⟨hSl, hfc, kC, hkC, hkind⟩ := C.K.1 ci hc
  obtain ⟨cf, kf, fi, f, hi, hsl⟩ := hSl k hk
  have hst := (u_facts hfc hkC (u_lays hts hin hk) hi).1
  have fin : ∀ H' : Heap, H'[xb X + a]? = some (cell.setSlot f.slot v) → H'.size = H.size → (∀ q, q ≠ xb X + a → H'[q]? = H[q]?) → xW X H' (locs ++ [⟨xb X + a, f.slot⟩]) (sn s - xn X) (sz s - xz X) (G0 X (pc + 3) ls rest) := by
    intro H' g1 g2 g3
    rw [hsl] at g1
    rw [← en, ← ez]
    refine kk.2.2 C e (by rw [en]; exact h1) (by rw [ez]; exact h2) H' _ (hW.one en e2 e3 ?_ g2 g3) (hS.put g2 g3 (Nat.le_add_right _ _))
    unfold vCell
    rw [e2, hs, if_pos rfl]
    exact ⟨hc, t_OB.to (V := updV (fv (xb X) s ci a) k v) ⟨_, g1, q2, q3, t_set q4 hap hk v⟩ e4⟩
  have hd := vty_ok ci hc k hk
  rcases hfin with hfin | ⟨hfin, hin2, hown2⟩
  · have hlay := hts _ (hin _ (u_in_lay hk))
    unfold u_lay at hlay
    rw [if_neg (by rw [hfin]; decide)] at hlay
    have h6 := u_store hfc hkC hkind hlay hi hd hn hfit
    exact W.putK C.x C.b (f := f) ⟨C.ow, C.ts hw, ⟨_, _, _, hi⟩, hst⟩ (by rw [q2]; exact h6) q1 q3 (by rw [hsl]; exact k2_hasslot (q4 k hk)) rfl rfl hdg fin
  · have hlay := hts _ (hin _ (u_in_lay hk))
    unfold u_lay at hlay
    rw [if_pos hfin] at hlay
    have hcf : (xm X).cls = cf := by
      obtain ⟨_, _, c', _, _, _, -, -, hf', -, -, -, hown3, -⟩ := Cond.laysFinal_spec hlay
      have g1 : c' = cf := by have := hi.symm.trans hf'; simp at this; exact this.1.symm
      rw [vor_ok ci hc k hk, hown2] at hown3
      rw [← g1]; exact Option.some.inj (C.ow.symm.trans hown3)
    have h6 := u_fits hfc hkC hkind (Or.inr hlay) hi hd hn hfit
    exact W.putFinK C.x C.b C.ow (C.ts hw) hi hst hcf (C.nm hin2) (by rw [q2]; exact h6) q1 q3 (by rw [hsl]; exact k2_hasslot (q4 k hk)) rfl rfl hdg fin
end VHEAP
