/-! the heap's picture: a state of numbered cells from a base on; each cell an object of a class, or an array -/
abbrev vS : Type := (Nat × Nat) × (Nat → Nat × Nat) × (Nat → Nat → Int32) × (Nat → Nat → Int64) × (Nat → Nat → Option Nat)
def sn (s : vS) : Nat := s.1.1
def sz (s : vS) : Nat := s.1.2
def sh (s : vS) : Nat → Nat × Nat := s.2.1
def gI (s : vS) : Nat → Nat → Int32 := s.2.2.1
def gJ (s : vS) : Nat → Nat → Int64 := s.2.2.2.1
def gR (s : vS) : Nat → Nat → Option Nat := s.2.2.2.2
def up2 {α : Type} (f : Nat → Nat → α) (a k : Nat) (v : α) : Nat → Nat → α := fun a' k' => if a' = a ∧ k' = k then v else f a' k'
def up1 {α : Type} (f : Nat → Nat → α) (a : Nat) (g : Nat → α) : Nat → Nat → α := fun a' => if a' = a then g else f a'
def setI (s : vS) (a k : Nat) (v : Int32) : vS := (s.1, s.2.1, up2 s.2.2.1 a k v, s.2.2.2.1, s.2.2.2.2)
def setJ (s : vS) (a k : Nat) (v : Int64) : vS := (s.1, s.2.1, s.2.2.1, up2 s.2.2.2.1 a k v, s.2.2.2.2)
def setR (s : vS) (a k : Nat) (v : Option Nat) : vS := (s.1, s.2.1, s.2.2.1, s.2.2.2.1, up2 s.2.2.2.2 a k v)
/-- a new cell of a kind (0: an object of a class) with so many slots -/
def push (s : vS) (d : Nat × Nat) (w : Nat) : vS := ((s.1.1 + 1, s.1.2 + w), va_up s.2.1 s.1.1 d, up1 s.2.2.1 s.1.1 (fun _ => 0), up1 s.2.2.2.1 s.1.1 (fun _ => 0), up1 s.2.2.2.2 s.1.1 (fun _ => none))
/-- new int[n][k]: the outer array, then the inner ones, one by one -/
def pushM (s : vS) (n k : Nat) : vS := ((s.1.1 + (1 + n), s.1.2 + (n + n * k)), (fun a => if a = s.1.1 then (6, n) else if s.1.1 < a ∧ a ≤ s.1.1 + n then (1, k) else s.2.1 a),
  (fun a => if s.1.1 ≤ a ∧ a ≤ s.1.1 + n then (fun _ => 0) else s.2.2.1 a), (fun a => if s.1.1 ≤ a ∧ a ≤ s.1.1 + n then (fun _ => 0) else s.2.2.2.1 a),
  (fun a => if a = s.1.1 then (fun j => if j < n then some (s.1.1 + 1 + j) else none) else if s.1.1 < a ∧ a ≤ s.1.1 + n then (fun _ => none) else s.2.2.2.2 a))
def vty (ci k : Nat) : FieldType := match ci with
  | 0 => tyX0 k
  | 1 => tyX1 k
  | 2 => tyX2 k
  | 3 => tyX3 k
  | 4 => tyX4 k
  | 5 => tyX5 k
  | 6 => tyX6 k
  | 7 => tyX7 k
  | 8 => tyX8 k
  | _ => tyX9 k
def vT (ci : Nat) : u_T := match ci with
  | 0 => TX0
  | 1 => TX1
  | 2 => TX2
  | 3 => TX3
  | 4 => TX4
  | 5 => TX5
  | 6 => TX6
  | 7 => TX7
  | 8 => TX8
  | _ => TX9
def vC (ci : Nat) : String := match ci with
  | 0 => RX0
  | 1 => RX1
  | 2 => RX2
  | 3 => RX3
  | 4 => RX4
  | 5 => RX5
  | 6 => RX6
  | 7 => RX7
  | 8 => RX8
  | _ => RX9
def vN (ci : Nat) : Nat := match ci with
  | 0 => 8
  | 1 => 13
  | 2 => 2
  | 3 => 3
  | 4 => 4
  | 5 => 2
  | 6 => 3
  | 7 => 14
  | 8 => 12
  | _ => 44
def vcl : List vw_C := (List.range 10).map (fun ci => (vC ci, vT ci, vN ci))
theorem vcl_at {ci : Nat} (h : ci < 10) : vcl[ci]? = some (vC ci, vT ci, vN ci) := by
  simp [vcl, List.getElem?_map, List.getElem?_range h]
def aty (kd : Nat) : ArrayType := match kd with
  | 1 => .int
  | 2 => .long
  | _ => .boolean
def kty (kd : Nat) : FieldType := match kd with
  | 1 => .int
  | 2 => .long
  | 3 => .boolean
  | 4 => .object RX3
  | 5 => .object RX6
  | _ => .array .int
def fv (b : Nat) (s : vS) (ci a k : Nat) : Value := match vty ci k with
  | .int => .int (gI s a k)
  | .boolean => .int (gI s a k)
  | .long => .long (gJ s a k)
  | _ => va_rf ((gR s a k).map (b + ·))
def av (b : Nat) (s : vS) (kd a k : Nat) : Value := match kd with
  | 1 => .int (gI s a k)
  | 2 => .long (gJ s a k)
  | 3 => .int (gI s a k)
  | _ => va_rf ((gR s a k).map (b + ·))
def vCell (D : va_G) (ka : Nat → ClassId) (b : Nat) (s : vS) (a : Nat) (H : Heap) : Prop :=
  if (sh s a).1 = 0 then (sh s a).2 < 10 ∧ t_OB (b + a) (D.1 (sh s a).2) (vN (sh s a).2) (D.2 (sh s a).2) H (fv b s (sh s a).2 a)
  else (sh s a).1 ≤ 6 ∧ H[b + a]? = some (arrV (ka (sh s a).1) (sh s a).2 (av b s (sh s a).1 a))
def vWo (D : va_G) (ka : Nat → ClassId) (b : Nat) (s : vS) (H : Heap) : Prop := H.size = b + sn s ∧ ∀ a, a < sn s → vCell D ka b s a H
def nestW : List Cond := [.methodLinkNest RX1 65 ⟨RX3, "<init>", "()V"⟩ RX8, .methodLinkNest RX0 27 ⟨RX2, "<init>", "()V"⟩ RX8, .methodLinkNest RX4 23 ⟨RX2, "<init>", "()V"⟩ RX8, .methodLinkNest RX8 50 ⟨RX2, "<init>", "()V"⟩ RX8, .methodLinkNest RX8 64 ⟨RX3, "<init>", "()V"⟩ RX8]
def vAOI (U : State) : Prop := (Cond.arrayOver (.array .int)).before #[] U = true
theorem vAOI.of {A : Array Value} {U : State} (h : (Cond.arrayOver (.array .int)).before A U = true) : vAOI U := h
theorem vAOI.use {A : Array Value} {U : State} (h : vAOI U) : (Cond.arrayOver (.array .int)).before A U = true := h
theorem vAOI_spec {s : State} (h : vAOI s) :
    ∃ comp c k, s.vm.findClass (FieldType.array .int).toString = some comp ∧ (s.vm.classes.findIdx? fun (x : Class) => match x.kind with | .array component _ => component == comp | _ => false) = some c ∧ s.vm.classes[c]? = some k ∧ k.kind = .array comp (.array .int) ∧ s.vm.findClass ("[" ++ (FieldType.array .int).toString) = some c := by
  unfold vAOI Cond.before at h
  simp only [Cond.holds, Cond.value, beq_iff_eq] at h
  cases hc : s.vm.findClass (FieldType.array .int).toString with
  | none => simp [hc] at h
  | some comp =>
    simp only [hc, Option.bind_some, Option.bind_eq_some_iff, Option.map_eq_some_iff] at h
    obtain ⟨c, hi, k, hk, hb⟩ := h
    obtain ⟨hlt, hp, -⟩ := Array.findIdx?_eq_some_iff_getElem.mp hi
    have hkk : s.vm.classes[c] = k := (Array.getElem?_eq_some_iff.mp hk).2
    rw [hkk] at hp
    cases hkind : k.kind with
    | array component ty =>
      rw [hkind] at hb hp
      simp at hb hp
      exact ⟨comp, c, k, rfl, hi, hk, by rw [hkind, hp, hb.1], hb.2⟩
    | _ => rw [hkind] at hb; simp at hb
theorem vAOI.moved {u U : State} (hvm : u.vm.Alike U.vm) (h : vAOI u) : vAOI U := by
  obtain ⟨comp, c, k, h1, h2, h3, h4, h5⟩ := vAOI_spec h
  obtain ⟨k', hk', he⟩ := hvm.2.2 _ _ h3
  have hi : (U.vm.classes.findIdx? fun (x : Class) => match x.kind with | .array component _ => component == comp | _ => false) = some c := by
    have e1 := va_idx_bare U.vm comp
    have e2 := va_idx_bare u.vm comp
    have e : U.vm.bare = u.vm.bare := by first | exact hvm.bare_eq | exact hvm.bare_eq.symm
    rw [e] at e1
    exact e1.symm.trans (e2.trans h2)
  have hkind : k'.kind = .array comp (.array .int) := by rw [he]; exact h4
  have f1 : U.vm.findClass (FieldType.array .int).toString = some comp := by rw [hvm.findClass]; exact h1
  have f2 : U.vm.findClass ("[" ++ (FieldType.array .int).toString) = some c := by rw [hvm.findClass]; exact h5
  unfold vAOI Cond.before
  simp only [Cond.holds, Cond.value, f1, Option.bind_some, beq_iff_eq]
  rw [Option.bind_eq_some_iff]
  refine ⟨c, hi, ?_⟩
  simp [hk', hkind, f2]
def vKn (D : va_G) (ka : Nat → ClassId) (U : State) : Prop := (∀ ci, ci < 10 → u_Kn U (vC ci) (vT ci) (vN ci) (D.1 ci) (D.2 ci)) ∧ (∀ kd, 1 ≤ kd → kd ≤ 6 → ArrOfT U (ka kd) (kty kd) ∧ va_RA U (ka kd) (kty kd)) ∧ (∀ w, w ∈ nestW → va_Nw w U) ∧ va_AO RX3 U ∧ va_AO RX6 U ∧ vAOI U
theorem vKn.warm {D : va_G} {ka : Nat → ClassId} {u U : State} (hW : u.WarmedH U.vm) (h : vKn D ka u) : vKn D ka U := by
  obtain ⟨h1, h2, h3, h4, h5, h6⟩ := h
  have ha : u.vm.Alike U.vm := hW.alike
  refine ⟨fun ci hc => u_Kn_moved ha (h1 ci hc), fun kd a b => ⟨arrOfT_moved ha (h2 kd a b).1, (h2 kd a b).2.moved ha⟩, fun w hw => ?_, h4.moved ha, h5.moved ha, h6.moved ha⟩
  have h := h3 w hw
  simp only [nestW, List.mem_cons, List.not_mem_nil, or_false] at hw
  rcases hw with rfl | rfl | rfl | rfl | rfl <;> exact va_Nw.warmM hW h
theorem vKn.K {D : va_G} {ka : Nat → ClassId} {U : State} (h : vKn D ka U) : va_K D vcl [] U := by
  refine ⟨fun c q hq => ?_, fun k q hk => by simp at hk⟩
  rcases Nat.lt_or_ge c 10 with hc | hc
  · rw [vcl_at hc] at hq
    cases hq
    exact h.1 c hc
  · rw [List.getElem?_eq_none (by simp [vcl]; omega)] at hq
    cases hq
/-- the launch, the frame, the world's tables and the end that is wanted, in one -/
abbrev VX : Type := (Program × Launch × Env × Room × State) × (MethodId × Array Value × List Frame × Method × Code) × (va_G × (Nat → ClassId) × Nat × Heap × Nat × Nat) × (State → Prop)
abbrev xp (X : VX) : Program := X.1.1
abbrev xl (X : VX) : Launch := X.1.2.1
abbrev xe (X : VX) : Env := X.1.2.2.1
abbrev xR (X : VX) : Room := X.1.2.2.2.1
abbrev xs (X : VX) : State := X.1.2.2.2.2
abbrev xm (X : VX) : MethodId := X.2.1.1
abbrev xargs (X : VX) : Array Value := X.2.1.2.1
abbrev xbelow (X : VX) : List Frame := X.2.1.2.2.1
abbrev xmeth (X : VX) : Method := X.2.1.2.2.2.1
abbrev xc (X : VX) : Code := X.2.1.2.2.2.2
abbrev xD (X : VX) : va_G := X.2.2.1.1
abbrev xka (X : VX) : Nat → ClassId := X.2.2.1.2.1
abbrev xb (X : VX) : Nat := X.2.2.1.2.2.1
abbrev xH0 (X : VX) : Heap := X.2.2.1.2.2.2.1
abbrev xn (X : VX) : Nat := X.2.2.1.2.2.2.2.1
abbrev xz (X : VX) : Nat := X.2.2.1.2.2.2.2.2
abbrev xQ (X : VX) : State → Prop := X.2.2.2
abbrev xW (X : VX) (H : Heap) (locs : List Loc) (cells slots : Nat) (g : JFrame) : Prop := W (xp X) (xl X) (xe X) (xR X) (xs X) (xm X) (xargs X) (xbelow X) (xmeth X) (xc X) H locs cells slots (xQ X) g
/-- a method: code, class, locals, room in frames and in locals, whether it is a constructor -/
abbrev VM : Type := ByteArray × String × Nat × Nat × Nat × Bool
def vCtx (X : VX) (M : VM) (sF : vS) : Prop :=
  ((xp X).tables.exec = Jvm.exec ∧ (xc X).code = M.1 ∧ (xc X).maxLocals = M.2.2.1 ∧ (xs X).vm.findClass M.2.1 = some (xm X).cls) ∧ (∀ w ∈ TT, w.before (xargs X) (xs X) = true) ∧ vKn (xD X) (xka X) (xs X) ∧ (xmeth X).locks = false ∧ (xb X ≤ (xH0 X).size) ∧
  ((xR X).frames = M.2.2.2.1 ∧ (xR X).locals = M.2.2.2.2.1 ∧ sn sF - xn X ≤ (xR X).cells ∧ sz sF - xz X ≤ (xR X).slots) ∧ (M.2.2.2.2.2 = true → (xmeth X).name = "<init>")
def V (X : VX) (M : VM) (E : VX → Prop) (sF s : vS) (g : JFrame) : Prop :=
  sn s ≤ sn sF ∧ sz s ≤ sz sF ∧ (vCtx X M sF → E X → xn X ≤ sn s → xz X ≤ sz s → ∀ (H : Heap) (locs : List Loc), vWo (xD X) (xka X) (xb X) s H → va_S (fun q => xb X ≤ q) (xH0 X) H locs → xW X H locs (sn s - xn X) (sz s - xz X) g)
section CTX
variable {X : VX} {cc : ByteArray} {own : String} {nL fr lo : Nat} {ini : Bool} {E : VX → Prop} {sF s : vS}
theorem vCtx.x (C : vCtx X (cc, own, nL, fr, lo, ini) sF) : (xp X).tables.exec = Jvm.exec := C.1.1
theorem vCtx.b (C : vCtx X (cc, own, nL, fr, lo, ini) sF) : (xc X).code = cc := C.1.2.1
theorem vCtx.ml (C : vCtx X (cc, own, nL, fr, lo, ini) sF) : (xc X).maxLocals = nL := C.1.2.2.1
theorem vCtx.ow (C : vCtx X (cc, own, nL, fr, lo, ini) sF) : (xs X).vm.findClass own = some (xm X).cls := C.1.2.2.2
theorem vCtx.ts (C : vCtx X (cc, own, nL, fr, lo, ini) sF) {w : Cond} (h : w ∈ TT) : w.before (xargs X) (xs X) = true := C.2.1 w h
theorem vCtx.tt (C : vCtx X (cc, own, nL, fr, lo, ini) sF) : ∀ w ∈ TT, w.before (xargs X) (xs X) = true := C.2.1
theorem vCtx.K (C : vCtx X (cc, own, nL, fr, lo, ini) sF) : vKn (xD X) (xka X) (xs X) := C.2.2.1
theorem vCtx.lk (C : vCtx X (cc, own, nL, fr, lo, ini) sF) : (xmeth X).locks = false := C.2.2.2.1
theorem vCtx.bz (C : vCtx X (cc, own, nL, fr, lo, ini) sF) : xb X ≤ (xH0 X).size := C.2.2.2.2.1
theorem vCtx.r (C : vCtx X (cc, own, nL, fr, lo, ini) sF) : (xR X).frames = fr ∧ (xR X).locals = lo ∧ sn sF - xn X ≤ (xR X).cells ∧ sz sF - xz X ≤ (xR X).slots := C.2.2.2.2.2.1
theorem vCtx.nm (C : vCtx X (cc, own, nL, fr, lo, ini) sF) (h : ini = true) : (xmeth X).name = "<init>" := C.2.2.2.2.2.2 h
theorem v_pure {g g' : JFrame} (h : vCtx X (cc, own, nL, fr, lo, ini) sF → ∀ H locs cells slots, xW X H locs cells slots g' → xW X H locs cells slots g) (k : V X (cc, own, nL, fr, lo, ini) E sF s g') : V X (cc, own, nL, fr, lo, ini) E sF s g := ⟨k.1, k.2.1, fun C e a b H locs hW hS => h C _ _ _ _ (k.2.2 C e a b H locs hW hS)⟩
theorem v_br {ρ : Type} {P : Prop} [Decidable P] {A B : Option ρ} {res : ρ} {g g1 g2 : JFrame} (row : vCtx X (cc, own, nL, fr, lo, ini) sF → ∀ H locs cells slots, (P → xW X H locs cells slots g1) → (¬ P → xW X H locs cells slots g2) → xW X H locs cells slots g)
    (h : (if P then A else B) = some res) (kt : A = some res → V X (cc, own, nL, fr, lo, ini) E sF s g1) (kf : B = some res → V X (cc, own, nL, fr, lo, ini) E sF s g2) : V X (cc, own, nL, fr, lo, ini) E sF s g := by
  by_cases hp : P
  · rw [if_pos hp] at h
    have k := kt h
    exact ⟨k.1, k.2.1, fun C e a b H locs hW hS => row C _ _ _ _ (fun _ => k.2.2 C e a b H locs hW hS) (fun n => absurd hp n)⟩
  · rw [if_neg hp] at h
    have k := kf h
    exact ⟨k.1, k.2.1, fun C e a b H locs hW hS => row C _ _ _ _ (fun n => absurd n hp) (fun _ => k.2.2 C e a b H locs hW hS)⟩
theorem v_chk {ρ : Type} {P : Prop} [Decidable P] {A : Option ρ} {res : ρ} (h : (if P then A else none) = some res) : P ∧ A = some res := by
  by_cases hp : P
  · rw [if_pos hp] at h
    exact ⟨hp, h⟩
  · rw [if_neg hp] at h
    cases h
end CTX
