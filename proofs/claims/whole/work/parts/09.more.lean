def R_law : String := "DensitiesOfNetsLaw"
def lw_P (b : Addr) (xs : List Int32) (args : Array Value) (s : State) : Prop := args = #[.ref b] ∧ s.IntsAt b xs ∧ xs.length ≤ 2560 ∧ (Jvm.Cond.and given_1 narrow_1).before args s = true
def lw_Q (_ : Array Value) (s : State) (o : Outcome) (t : State) : Prop := o = .returned (some (.int 1)) ∧ Framed s o t [] 600000 7302250
def lw_Z (below : List Frame) (a : Array Value) (s : State) : State → Prop := fun t => ∃ o, t.status = .running ∧ Ended t below o ∧ lw_Q a s o t
/-- the law's own end, with 1 on the stack, nothing written that was there before, its room as the claim has it -/
theorem lw_ret {p : Program} {l : Launch} {e : Env} {s : State} {m : MethodId} {below : List Frame} {meth : Method} {c : Code} {b : Nat} (hx : p.tables.exec = Jvm.exec) (hb : c.code = code) (hr : meth.sig.returnType = ret) (hlocks : meth.locks = false) {pc : Nat} {H : Heap} {ls : Array Slot} (hdg : decode code pc = .ok (.ireturn, 1)) : W p l e room_1 s m #[Value.ref b] below meth c H [] 600000 7302250 (lw_Z below #[Value.ref b] s) (F0 m pc ls [.int 1]) := by
  intro T hT X
  obtain ⟨fs, hret, hrun, hended, hW, hframe⟩ := X.leave (v := some (.int 1)) (hlocks := hlocks) (fun h => by rw [hr] at h; cases h)
  have hmeth' : T.vm.method? m = some meth := X.method'
  refine ⟨T.setFrames fs, ?_, .returned (some (.int 1)), hrun, hended, rfl, ⟨_, rfl⟩, hW, hframe⟩
  jvm_step X.here [X.here.top, hx, hb, hdg, hmeth', hr, ret, narrow_b1]
  (try refine ⟨rfl, ?_⟩); (try refine ⟨rfl, ?_⟩)
  first | (intro acts; rw [hret _ acts rfl rfl rfl]) | rw [hret _ _ rfl rfl rfl]
  exact Steps.refl _
/-- what holds at the law's entry: the machine, the code, the tables' words (any of lw_tbl by 'hts w (by decide +kernel)'), the script of L ints xs at the cell b, what the Statement gives of the start (any of its parts by flat_of_before) -/
def lw_At (p : Program) (s : State) (m : MethodId) (meth : Method) (c : Code) (b L : Nat) (xs : Nat → Int32) : Prop :=
  p.tables.exec = Jvm.exec ∧ c.code = code ∧ meth.sig.returnType = ret ∧ c.maxLocals = 4 ∧ s.vm.findClass R_law = some m.cls ∧ (∀ w ∈ lw_tbl, w.before #[Value.ref b] s = true) ∧ va_X b L xs s s.heap ∧ b < s.heap.size ∧ meth.locks = false ∧ (Jvm.Cond.and given_1 narrow_1).before #[Value.ref b] s = true
section VMORE
variable {X : VX} {cc : ByteArray} {own : String} {nL fr lo : Nat} {ini : Bool} {E : VX → Prop} {sF s : vS} {ρ : Type} {res : ρ} {pc : Nat} {ls : Array Slot} {rest : List Value}
/-- a value gets a name -/
def nm {α : Type} (e : α) (f : α → Option ρ) : Option ρ := f e
theorem v_nmI {e : Int32} {f : Int32 → Option ρ} (h : nm e f = some res) (kk : ∀ x, f x = some res → V X (cc, own, nL, fr, lo, ini) E sF s (G0 X pc ls (.int x :: rest))) : V X (cc, own, nL, fr, lo, ini) E sF s (G0 X pc ls (.int e :: rest)) := kk e h
theorem v_nmJ {e : Int64} {f : Int64 → Option ρ} (h : nm e f = some res) (kk : ∀ x, f x = some res → V X (cc, own, nL, fr, lo, ini) E sF s (G0 X pc ls (.long x :: rest))) : V X (cc, own, nL, fr, lo, ini) E sF s (G0 X pc ls (.long e :: rest)) := kk e h
theorem v_inc {i k : Nat} {n : Int} {x : Int32} {e : Int32} {f : Int32 → Option ρ} {lv : List (Nat × Value)} (lv' : Int32 → List (Nat × Value)) (hdg : decode cc pc = .ok (.iinc i n, 3)) (h : nm e f = some res) (hl : lv_has ls nL lv) (hk : lv[k]? = some (i, .int x)) (hv : x + Int32.ofInt n = e) (hn : i < nL) (hl' : ∀ v, (i, Value.int v) :: lv.filter (fun q => !(q.1 == i) && !(q.1 + 1 == i && q.2.category == 2)) = lv' v)
    (kk : ∀ v ls', lv_has ls' nL (lv' v) → f v = some res → V X (cc, own, nL, fr, lo, ini) E sF s (G0 X (pc + 3) ls' rest)) : V X (cc, own, nL, fr, lo, ini) E sF s (G0 X pc ls rest) := v_iinc e (lv' e) hdg hl hk hv hn (hl' e) (fun ls' q => kk e ls' q h)
theorem v_tswc {x : Int32} (c : Int32) {A B : Option ρ} (tgt : Nat) {dflt lo1 hi1 off : Int} {offs : Array Int} {len : Nat} (hdg : decode cc pc = .ok (.tableswitch dflt lo1 hi1 offs, len)) (h1 : ¬ c.toInt < lo1) (h2 : ¬ hi1 < c.toInt) (ho : offs[(c.toInt - lo1).toNat]? = some off) (ht : (pc : Int) + off = (tgt : Int)) (h : (if x = c then A else B) = some res)
    (kt : A = some res → V X (cc, own, nL, fr, lo, ini) E sF s (G0 X tgt ls rest)) (kf : ¬ x = c → B = some res → V X (cc, own, nL, fr, lo, ini) E sF s (G0 X pc ls (.int x :: rest))) : V X (cc, own, nL, fr, lo, ini) E sF s (G0 X pc ls (.int x :: rest)) := by
  by_cases hx : x = c
  · rw [if_pos hx] at h
    subst hx
    exact v_pure (fun C _ _ _ _ w => lv_tableIn C.x C.b hdg h1 h2 ho ht w) (kt h)
  · rw [if_neg hx] at h
    exact kf hx h
theorem v_tswd {x : Int32} (tgt : Nat) {dflt lo1 hi1 : Int} {offs : Array Int} {len : Nat} (hdg : decode cc pc = .ok (.tableswitch dflt lo1 hi1 offs, len)) (h : x.toInt < lo1 ∨ hi1 < x.toInt) (ht : (pc : Int) + dflt = (tgt : Int)) (k : V X (cc, own, nL, fr, lo, ini) E sF s (G0 X tgt ls rest)) : V X (cc, own, nL, fr, lo, ini) E sF s (G0 X pc ls (.int x :: rest)) :=
  v_pure (fun C _ _ _ _ w => lv_tableOut C.x C.b hdg h ht w) k
theorem v_lswc {x : Int32} (c : Int32) {A B : Option ρ} (tgt : Nat) (off : Int) {dflt : Int} {ps : Array (Int × Int)} {len : Nat} (hdg : decode cc pc = .ok (.lookupswitch dflt ps, len)) (hp : (ps.toList.zip (ps.toList.drop 1)).all (fun (a, next) => a.1 < next.1) = true) (ho : Op.lookupswitch.offset ps.toList dflt c.toInt = off) (ht : (pc : Int) + off = (tgt : Int)) (h : (if x = c then A else B) = some res)
    (kt : A = some res → V X (cc, own, nL, fr, lo, ini) E sF s (G0 X tgt ls rest)) (kf : ¬ x = c → B = some res → V X (cc, own, nL, fr, lo, ini) E sF s (G0 X pc ls (.int x :: rest))) : V X (cc, own, nL, fr, lo, ini) E sF s (G0 X pc ls (.int x :: rest)) := by
  by_cases hx : x = c
  · rw [if_pos hx] at h
    subst hx
    exact v_pure (fun C _ _ _ _ w => lv_lookup C.x C.b hdg hp ho ht w) (kt h)
  · rw [if_neg hx] at h
    exact kf hx h
theorem v_lswd {x : Int32} (tgt : Nat) {dflt : Int} {ps : Array (Int × Int)} {len : Nat} (hdg : decode cc pc = .ok (.lookupswitch dflt ps, len)) (hp : (ps.toList.zip (ps.toList.drop 1)).all (fun (a, next) => a.1 < next.1) = true) (ho : Op.lookupswitch.offset ps.toList dflt x.toInt = dflt) (ht : (pc : Int) + dflt = (tgt : Int)) (k : V X (cc, own, nL, fr, lo, ini) E sF s (G0 X tgt ls rest)) : V X (cc, own, nL, fr, lo, ini) E sF s (G0 X pc ls (.int x :: rest)) :=
  v_pure (fun C _ _ _ _ w => lv_lookup C.x C.b hdg hp ho ht w) k
theorem tsw_ne {x : Int32} {c : Int32} {i : Int} (hc : c.toInt = i) (h : ¬ x = c) : ¬ x.toInt = i := fun e => h (Int32.toInt_inj.mp (e.trans hc.symm))
/-! the law: its script lies below the base -/
def vLaw (b L : Nat) (xss : Nat → Int32) (X : VX) : Prop := va_X b L xss (xs X) (xs X).heap ∧ b < (xs X).heap.size ∧ b < xb X ∧ xH0 X = (xs X).heap ∧ xargs X = #[Value.ref b] ∧ xQ X = lw_Z (xbelow X) #[Value.ref b] (xs X) ∧ (xmeth X).sig.returnType = ret ∧ xb X = (xs X).heap.size ∧ xn X = 0 ∧ xz X = 0 ∧ xR X = room_1
theorem v_sld {b L : Nat} {xss : Nat → Int32} {i : Int32} {f : Int32 → Option ρ} (hdg : decode cc pc = .ok (.iaload, 1)) (h : scr L xss i f = some res)
    (kk : ∀ v, f v = some res → V X (cc, own, nL, fr, lo, ini) (vLaw b L xss) sF s (G0 X (pc + 1) ls (.int v :: rest))) : V X (cc, own, nL, fr, lo, ini) (vLaw b L xss) sF s (G0 X pc ls (.int i :: .ref b :: rest)) := by
  obtain ⟨hin, h⟩ := v_chk h
  have k := kk _ h
  refine ⟨k.1, k.2.1, fun C e h1 h2 H locs hW hS => ?_⟩
  have k2 := k.2.2 C e h1 h2 H locs hW hS
  obtain ⟨hX, hbl, hbb, hH0, -⟩ := e
  rw [hH0] at hS
  exact va_sld C.x C.b hX hbl (Nat.not_le.mpr hbb) hS hin hdg k2
theorem v_slen {b L : Nat} {xss : Nat → Int32} {f : Int32 → Option ρ} (hdg : decode cc pc = .ok (.arraylength, 1)) (h : nm (Int32.ofNat L) f = some res)
    (kk : ∀ v, f v = some res → V X (cc, own, nL, fr, lo, ini) (vLaw b L xss) sF s (G0 X (pc + 1) ls (.int v :: rest))) : V X (cc, own, nL, fr, lo, ini) (vLaw b L xss) sF s (G0 X pc ls (.ref b :: rest)) := by
  have k := kk _ h
  refine ⟨k.1, k.2.1, fun C e h1 h2 H locs hW hS => ?_⟩
  have k2 := k.2.2 C e h1 h2 H locs hW hS
  obtain ⟨hX, hbl, hbb, hH0, -⟩ := e
  rw [hH0] at hS
  exact va_slen C.x C.b hX hbl (Nat.not_le.mpr hbb) hS hdg k2
end VMORE
