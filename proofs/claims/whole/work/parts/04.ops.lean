/-! what a step does to the picture: in the manner of a continuation; none: the machine would throw, or the step isn't told here -/
def isO (s : vS) (a ci : Nat) : Bool := decide (a < sn s ∧ sh s a = (0, ci) ∧ ci < 10)
def isA (s : vS) (a kd : Nat) (i : Int32) : Bool := decide (a < sn s ∧ (sh s a).1 = kd ∧ ¬ (i < 0 ∨ (sh s a).2 ≤ i.toNatClampNeg))
section OPS
variable {ρ α : Type}
def ldI (s : vS) (a ci k : Nat) (f : Int32 → Option ρ) : Option ρ := if isO s a ci = true then f (gI s a k) else none
def ldJ (s : vS) (a ci k : Nat) (f : Int64 → Option ρ) : Option ρ := if isO s a ci = true then f (gJ s a k) else none
def orN (o : Option Nat) (f : Nat → Option ρ) : Option ρ := match o with
  | some r => f r
  | none => none
def ldR (s : vS) (a ci k : Nat) (f : Nat → Option ρ) : Option ρ := if isO s a ci = true then orN (gR s a k) f else none
def stI (s : vS) (a ci k : Nat) (v : Int32) (f : vS → Option ρ) : Option ρ := if isO s a ci = true then f (setI s a k v) else none
def stZ (s : vS) (a ci k : Nat) (v : Int32) (f : vS → Option ρ) : Option ρ := if isO s a ci = true ∧ (v = 0 ∨ v = 1) then f (setI s a k v) else none
def stJ (s : vS) (a ci k : Nat) (v : Int64) (f : vS → Option ρ) : Option ρ := if isO s a ci = true then f (setJ s a k v) else none
def stR (s : vS) (a ci k : Nat) (v : Nat) (f : vS → Option ρ) : Option ρ := if isO s a ci = true then f (setR s a k (some v)) else none
def alI (s : vS) (a : Nat) (i : Int32) (f : Int32 → Option ρ) : Option ρ := if isA s a 1 i = true then f (gI s a i.toNatClampNeg) else none
def alJ (s : vS) (a : Nat) (i : Int32) (f : Int64 → Option ρ) : Option ρ := if isA s a 2 i = true then f (gJ s a i.toNatClampNeg) else none
def alZ (s : vS) (a : Nat) (i : Int32) (f : Int32 → Option ρ) : Option ρ := if isA s a 3 i = true then f (gI s a i.toNatClampNeg) else none
def alR (s : vS) (a kd : Nat) (i : Int32) (f : Nat → Option ρ) : Option ρ := if isA s a kd i = true ∧ 4 ≤ kd ∧ kd ≤ 6 then orN (gR s a i.toNatClampNeg) f else none
def asI (s : vS) (a : Nat) (i v : Int32) (f : vS → Option ρ) : Option ρ := if isA s a 1 i = true then f (setI s a i.toNatClampNeg v) else none
def asJ (s : vS) (a : Nat) (i : Int32) (v : Int64) (f : vS → Option ρ) : Option ρ := if isA s a 2 i = true then f (setJ s a i.toNatClampNeg v) else none
def asZ (s : vS) (a : Nat) (i v : Int32) (f : vS → Option ρ) : Option ρ := if isA s a 3 i = true ∧ (v = 0 ∨ v = 1) then f (setI s a i.toNatClampNeg v) else none
/-- a Net, or a Sum, into an array of them -/
def asR (s : vS) (a kd ci : Nat) (i : Int32) (v : Nat) (f : vS → Option ρ) : Option ρ := if (isA s a kd i = true ∧ isO s v ci = true) ∧ ((kd = 4 ∧ ci = 3) ∨ (kd = 5 ∧ ci = 6)) then f (setR s a i.toNatClampNeg (some v)) else none
def aln (s : vS) (a : Nat) (f : Int32 → Option ρ) : Option ρ := if a < sn s ∧ (sh s a).1 ≠ 0 then f (Int32.ofNat (sh s a).2) else none
def nwO (s : vS) (ci : Nat) (f : Nat → vS → Option ρ) : Option ρ := f (sn s) (push s (0, ci) (vN ci))
def nwA (s : vS) (kd : Nat) (n : Int32) (f : Nat → vS → Option ρ) : Option ρ := if ¬ n < 0 ∧ n.toNatClampNeg ≤ 100000 then f (sn s) (push s (kd, n.toNatClampNeg) n.toNatClampNeg) else none
def nwM (s : vS) (n k : Int32) (f : Nat → vS → Option ρ) : Option ρ := if (¬ n < 0 ∧ n.toNatClampNeg ≤ 100000) ∧ (¬ k < 0 ∧ k.toNatClampNeg ≤ 100000) then f (sn s) (pushM s n.toNatClampNeg k.toNatClampNeg) else none
def bnd (o : Option (α × vS)) (f : α → vS → Option ρ) : Option ρ := match o with
  | some r => f r.1 r.2
  | none => none
def nzI (y : Int32) (o : Option ρ) : Option ρ := if ¬ y = 0 then o else none
def nzJ (y : Int64) (o : Option ρ) : Option ρ := if ¬ y = 0 then o else none
def rcv (s : vS) (a ci : Nat) (o : Option ρ) : Option ρ := if isO s a ci = true then o else none
def rtZ (v : Int32) (s : vS) : Option (Int32 × vS) := if v = 0 ∨ v = 1 then some (v, s) else none
/-- the law's script -/
def scr (L : Nat) (xs : Nat → Int32) (i : Int32) (f : Int32 → Option ρ) : Option ρ := if ¬ (i < 0 ∨ L ≤ i.toNatClampNeg) then f (xs i.toNatClampNeg) else none
theorem isO_spec {s : vS} {a ci : Nat} (h : isO s a ci = true) : a < sn s ∧ sh s a = (0, ci) ∧ ci < 10 := of_decide_eq_true h
theorem isA_spec {s : vS} {a kd : Nat} {i : Int32} (h : isA s a kd i = true) : a < sn s ∧ (sh s a).1 = kd ∧ ¬ (i < 0 ∨ (sh s a).2 ≤ i.toNatClampNeg) := of_decide_eq_true h
theorem bnd_some {o : Option (α × vS)} {f : α → vS → Option ρ} {res : ρ} (h : bnd o f = some res) : ∃ r s', o = some (r, s') ∧ f r s' = some res := by
  cases o with
  | none => cases h
  | some r => exact ⟨r.1, r.2, rfl, h⟩
theorem orN_some {o : Option Nat} {f : Nat → Option ρ} {res : ρ} (h : orN o f = some res) : ∃ r, o = some r ∧ f r = some res := by
  cases o with
  | none => cases h
  | some r => exact ⟨r, rfl, h⟩
end OPS
section FACTS
theorem vty_ok : ∀ ci, ci < 10 → ∀ k, k < vN ci → parseFieldDescriptor (vT ci k).2.2.1 = some (vty ci k) := by
  intro ci hc
  match ci, hc with
  | 0, _ => exact tyX0_ok
  | 1, _ => exact tyX1_ok
  | 2, _ => exact tyX2_ok
  | 3, _ => exact tyX3_ok
  | 4, _ => exact tyX4_ok
  | 5, _ => exact tyX5_ok
  | 6, _ => exact tyX6_ok
  | 7, _ => exact tyX7_ok
  | 8, _ => exact tyX8_ok
  | 9, _ => exact tyX9_ok
theorem vnm_ok : ∀ ci, ci < 10 → ∀ a, a < vN ci → ∀ b, b < vN ci → a ≠ b → (vT ci a).2.1 ≠ (vT ci b).2.1 := by
  intro ci hc
  match ci, hc with
  | 0, _ => exact nmX0
  | 1, _ => exact nmX1
  | 2, _ => exact nmX2
  | 3, _ => exact nmX3
  | 4, _ => exact nmX4
  | 5, _ => exact nmX5
  | 6, _ => exact nmX6
  | 7, _ => exact nmX7
  | 8, _ => exact nmX8
  | 9, _ => exact nmX9
theorem vin_ok : ∀ ci, ci < 10 → ∀ w ∈ u_ws (vC ci) (vT ci) (vN ci), w ∈ TT := by decide +kernel
theorem vor_ok : ∀ ci, ci < 10 → ∀ k, k < vN ci → (vT ci k).1 = vC ci := by decide +kernel
theorem ne0 {b a a' : Nat} (h : a' ≠ a) : b + a' ≠ b + a := by omega
theorem vWo.obj {D : va_G} {ka : Nat → ClassId} {b : Nat} {s : vS} {H : Heap} {a ci : Nat} (h : vWo D ka b s H) (hO : isO s a ci = true) : t_OB (b + a) (D.1 ci) (vN ci) (D.2 ci) H (fv b s ci a) := by
  obtain ⟨ha, hs, hc⟩ := isO_spec hO
  have h1 := h.2 a ha
  unfold vCell at h1
  rw [hs] at h1
  exact h1.2
theorem vWo.arr {D : va_G} {ka : Nat → ClassId} {b : Nat} {s : vS} {H : Heap} {a kd : Nat} {i : Int32} (h : vWo D ka b s H) (hA : isA s a kd i = true) (hk : kd ≠ 0) : H[b + a]? = some (arrV (ka kd) (sh s a).2 (av b s kd a)) := by
  obtain ⟨ha, hs, -⟩ := isA_spec hA
  have h1 := h.2 a ha
  unfold vCell at h1
  rw [hs, if_neg hk] at h1
  exact h1.2
/-- one cell has changed -/
theorem vWo.one {D : va_G} {ka : Nat → ClassId} {b : Nat} {s s' : vS} {H H1 : Heap} {a : Nat} (h : vWo D ka b s H) (hn : sn s' = sn s) (hs : sh s' = sh s) (ho : ∀ a', a' ≠ a → gI s' a' = gI s a' ∧ gJ s' a' = gJ s a' ∧ gR s' a' = gR s a')
    (hc : vCell D ka b s' a H1) (z : H1.size = H.size) (oq : ∀ q, q ≠ b + a → H1[q]? = H[q]?) : vWo D ka b s' H1 := by
  refine ⟨by rw [z, hn]; exact h.1, fun a' ha' => ?_⟩
  by_cases e : a' = a
  · rw [e]; exact hc
  · have h1 := h.2 a' (by rw [← hn]; exact ha')
    obtain ⟨e1, e2, e3⟩ := ho a' e
    have f1 : ∀ ci, fv b s' ci a' = fv b s ci a' := fun ci => by funext k; simp only [fv, e1, e2, e3]
    have f2 : ∀ kd, av b s' kd a' = av b s kd a' := fun kd => by funext k; simp only [av, e1, e2, e3]
    unfold vCell at h1 ⊢
    rw [hs, f1, f2]
    split
    · next h0 => rw [if_pos h0] at h1; exact ⟨h1.1, h1.2.kept (oq _ (ne0 e))⟩
    · next h0 => rw [if_neg h0] at h1; exact ⟨h1.1, (oq _ (ne0 e)).trans h1.2⟩
theorem up2_ne {α : Type} {f : Nat → Nat → α} {a k a' : Nat} {v : α} (h : a' ≠ a) : up2 f a k v a' = f a' := by
  funext j
  simp [up2, h]
theorem oth_I {s : vS} {a k : Nat} {v : Int32} : ∀ a', a' ≠ a → gI (setI s a k v) a' = gI s a' ∧ gJ (setI s a k v) a' = gJ s a' ∧ gR (setI s a k v) a' = gR s a' := fun _ h => ⟨up2_ne h, rfl, rfl⟩
theorem oth_J {s : vS} {a k : Nat} {v : Int64} : ∀ a', a' ≠ a → gI (setJ s a k v) a' = gI s a' ∧ gJ (setJ s a k v) a' = gJ s a' ∧ gR (setJ s a k v) a' = gR s a' := fun _ h => ⟨rfl, up2_ne h, rfl⟩
theorem oth_R {s : vS} {a k : Nat} {v : Option Nat} : ∀ a', a' ≠ a → gI (setR s a k v) a' = gI s a' ∧ gJ (setR s a k v) a' = gJ s a' ∧ gR (setR s a k v) a' = gR s a' := fun _ h => ⟨rfl, rfl, up2_ne h⟩
theorem nar_z {v : Int32} (h : v = 0 ∨ v = 1) : narrow .boolean (.int v) = .int v ∧ fits .boolean (.int v) = true := by
  rcases h with rfl | rfl
  · exact ⟨rfl, by decide +kernel⟩
  · exact ⟨rfl, by decide +kernel⟩
end FACTS
