section GEN
variable {ρ α : Type} {N : Nat} {m : vM} {s : vS} {R : Option ρ} {κ : (Nat × Nat) × (Nat → Nat × Nat) × (Nat → Nat → Option Nat)}
def G (κ : (Nat × Nat) × (Nat → Nat × Nat) × (Nat → Nat → Option Nat)) (m : vM) : vS := (κ.1, κ.2.1, m.1, m.2, κ.2.2)
def oG (κ : (Nat × Nat) × (Nat → Nat × Nat) × (Nat → Nat → Option Nat)) (a ci : Nat) : Bool := decide (a < κ.1.1 ∧ κ.2.1 a = (0, ci) ∧ ci < 10)
def aG (κ : (Nat × Nat) × (Nat → Nat × Nat) × (Nat → Nat → Option Nat)) (a kd : Nat) (i : Int32) : Bool := if decide (a < κ.1.1) && ((κ.2.1 a).1 == kd) then inb i (κ.2.1 a).2 else false
theorem aGat {a kd n : Nat} (h : a < κ.1.1 ∧ κ.2.1 a = (kd, n)) (i : Int32) : aG κ a kd i = inb i n := by
  unfold aG
  rw [h.2, decide_eq_true h.1, beq_self_eq_true]
  rfl
theorem isA_G (a kd : Nat) (i : Int32) : isA (G κ m) a kd i = aG κ a kd i := by
  show decide (a < κ.1.1 ∧ (κ.2.1 a).1 = kd ∧ ¬ (i < 0 ∨ (κ.2.1 a).2 ≤ i.toNatClampNeg)) = _
  unfold aG inb
  by_cases h1 : a < κ.1.1 <;> by_cases h2 : (κ.2.1 a).1 = kd <;> simp [h1, h2]
theorem k_rcv {a ci : Nat} {o : Option ρ} (h : oG κ a ci = true) (k : o = R) : rcv (G κ m) a ci o = R := (if_pos h).trans k
theorem k_ldI {a ci j : Nat} {f : Int32 → Option ρ} (h : oG κ a ci = true) (k : f (rI m a j) = R) : ldI (G κ m) a ci j f = R := (if_pos h).trans k
theorem k_ldIV {a ci j : Nat} {v : Int32} {f : Int32 → Option ρ} (h : oG κ a ci = true) (hv : rI m a j = v) (k : f v = R) : ldI (G κ m) a ci j f = R := k_ldI h (by rw [hv]; exact k)
theorem k_ldJ {a ci j : Nat} {f : Int64 → Option ρ} (h : oG κ a ci = true) (k : f (rJ m a j) = R) : ldJ (G κ m) a ci j f = R := (if_pos h).trans k
theorem k_ldJV {a ci j : Nat} {v : Int64} {f : Int64 → Option ρ} (h : oG κ a ci = true) (hv : rJ m a j = v) (k : f v = R) : ldJ (G κ m) a ci j f = R := k_ldJ h (by rw [hv]; exact k)
theorem k_ldR {a ci j r : Nat} {f : Nat → Option ρ} (h : oG κ a ci = true) (h2 : κ.2.2 a j = some r) (k : f r = R) : ldR (G κ m) a ci j f = R := by
  refine (if_pos h).trans ?_
  show orN (κ.2.2 a j) f = R
  rw [h2]
  exact k
theorem k_stI {a ci j : Nat} {v : Int32} {f : vS → Option ρ} (h : oG κ a ci = true) (k : f (G κ (wI m a j v)) = R) : stI (G κ m) a ci j v f = R := (if_pos h).trans k
theorem k_stJ {a ci j : Nat} {v : Int64} {f : vS → Option ρ} (h : oG κ a ci = true) (k : f (G κ (wJ m a j v)) = R) : stJ (G κ m) a ci j v f = R := (if_pos h).trans k
theorem k_stZ {a ci j : Nat} {v : Int32} {f : vS → Option ρ} (h : oG κ a ci = true) (h2 : v = 0 ∨ v = 1) (k : f (G κ (wI m a j v)) = R) : stZ (G κ m) a ci j v f = R := (if_pos ⟨h, h2⟩).trans k
theorem isAG_ok {a kd j n : Nat} {i : Int32} (h : ∀ i, aG κ a kd i = inb i n) (hi : i = nI j) (hj : j < n ∧ n < 2 ^ 31) : isA (G κ m) a kd i = true := by
  rw [isA_G, h, hi]
  exact inb_nI hj.1 hj.2
theorem k_alI {a j n : Nat} {i : Int32} {f : Int32 → Option ρ} (h : ∀ i, aG κ a 1 i = inb i n) (hi : i = nI j) (hj : j < n ∧ n < 2 ^ 31) (k : f (rI m a j) = R) : alI (G κ m) a i f = R := by
  refine (if_pos (isAG_ok h hi hj)).trans ?_
  rw [cl_ok hi hj]; exact k
theorem k_alIV {a j n : Nat} {i v : Int32} {f : Int32 → Option ρ} (h : ∀ i, aG κ a 1 i = inb i n) (hi : i = nI j) (hj : j < n ∧ n < 2 ^ 31) (hv : rI m a j = v) (k : f v = R) : alI (G κ m) a i f = R := k_alI h hi hj (by rw [hv]; exact k)
theorem k_alR {a kd j n r : Nat} {i : Int32} {f : Nat → Option ρ} (h : ∀ i, aG κ a kd i = inb i n) (hkd : 4 ≤ kd ∧ kd ≤ 6) (hi : i = nI j) (hj : j < n ∧ n < 2 ^ 31) (h2 : κ.2.2 a j = some r) (k : f r = R) : alR (G κ m) a kd i f = R := by
  refine (if_pos ⟨isAG_ok h hi hj, hkd⟩).trans ?_
  rw [cl_ok hi hj]
  show orN (κ.2.2 a j) f = R
  rw [h2]
  exact k
theorem k_asI {a j n : Nat} {i v : Int32} {f : vS → Option ρ} (h : ∀ i, aG κ a 1 i = inb i n) (hi : i = nI j) (hj : j < n ∧ n < 2 ^ 31) (k : f (G κ (wI m a j v)) = R) : asI (G κ m) a i v f = R := by
  refine (if_pos (isAG_ok h hi hj)).trans ?_
  rw [cl_ok hi hj]; exact k
theorem k_asJ {a j n : Nat} {i : Int32} {v : Int64} {f : vS → Option ρ} (h : ∀ i, aG κ a 2 i = inb i n) (hi : i = nI j) (hj : j < n ∧ n < 2 ^ 31) (k : f (G κ (wJ m a j v)) = R) : asJ (G κ m) a i v f = R := by
  refine (if_pos (isAG_ok h hi hj)).trans ?_
  rw [cl_ok hi hj]; exact k
theorem k_aln {a kd n : Nat} {f : Int32 → Option ρ} (h : a < κ.1.1 ∧ κ.2.1 a = (kd, n)) (h0 : kd ≠ 0) (k : f (nI n) = R) : aln (G κ m) a f = R := by
  have e : aln (G κ m) a f = f (nI n) := by
    show (if a < κ.1.1 ∧ (κ.2.1 a).1 ≠ 0 then f (Int32.ofNat (κ.2.1 a).2) else none) = _
    rw [h.2, if_pos ⟨h.1, h0⟩]
    rfl
  rw [e]
  exact k
/-! new cells, new references -/
def kN (κ : (Nat × Nat) × (Nat → Nat × Nat) × (Nat → Nat → Option Nat)) (d : Nat × Nat) (w : Nat) : (Nat × Nat) × (Nat → Nat × Nat) × (Nat → Nat → Option Nat) := ((κ.1.1 + 1, κ.1.2 + w), va_up κ.2.1 κ.1.1 d, up1 κ.2.2 κ.1.1 (fun _ => none))
def kR (κ : (Nat × Nat) × (Nat → Nat × Nat) × (Nat → Nat → Option Nat)) (a j v : Nat) : (Nat × Nat) × (Nat → Nat × Nat) × (Nat → Nat → Option Nat) := (κ.1, κ.2.1, up2 κ.2.2 a j (some v))
def zM (m : vM) (a : Nat) : vM := (up1 m.1 a (fun _ => 0), up1 m.2 a (fun _ => 0))
theorem zM_I (a b j : Nat) : rI (zM m a) b j = if b = a then 0 else rI m b j := by
  show (if b = a then (fun _ => 0) else m.1 b) j = _
  split <;> rfl
theorem zM_J (a b j : Nat) : rJ (zM m a) b j = if b = a then 0 else rJ m b j := by
  show (if b = a then (fun _ => 0) else m.2 b) j = _
  split <;> rfl
theorem k_nwO {ci : Nat} {f : Nat → vS → Option ρ} (k : f κ.1.1 (G (kN κ (0, ci) (vN ci)) (zM m κ.1.1)) = R) : nwO (G κ m) ci f = R := k
theorem k_nwA {kd n : Nat} {i : Int32} {f : Nat → vS → Option ρ} (hi : i = nI n) (hn : n ≤ 100000) (k : f κ.1.1 (G (kN κ (kd, n) n) (zM m κ.1.1)) = R) : nwA (G κ m) kd i f = R := by
  have e : i.toNatClampNeg = n := by rw [hi]; exact nI_clamp (by omega)
  unfold nwA
  rw [e, if_pos ⟨by rw [hi]; exact nI_pos (by omega), hn⟩]
  exact k
theorem k_stR {a ci j v : Nat} {f : vS → Option ρ} (h : oG κ a ci = true) (k : f (G (kR κ a j v) m) = R) : stR (G κ m) a ci j v f = R := (if_pos h).trans k
theorem k_asR {a kd ci j n v : Nat} {i : Int32} {f : vS → Option ρ} (h : ∀ i, aG κ a kd i = inb i n) (h2 : oG κ v ci = true) (h3 : (kd = 4 ∧ ci = 3) ∨ (kd = 5 ∧ ci = 6)) (hi : i = nI j) (hj : j < n ∧ n < 2 ^ 31) (k : f (G (kR κ a j v) m) = R) : asR (G κ m) a kd ci i v f = R := by
  refine (if_pos ⟨⟨isAG_ok h hi hj, h2⟩, h3⟩).trans ?_
  rw [cl_ok hi hj]; exact k
def NetG (κ : (Nat × Nat) × (Nat → Nat × Nat) × (Nat → Nat → Option Nat)) (a : Nat) : Prop := (oG κ a 3 = true ∧ κ.2.2 a 1 = some (a + 1) ∧ κ.2.2 a 2 = some (a + 2)) ∧ (a + 1 < κ.1.1 ∧ κ.2.1 (a + 1) = (1, 8)) ∧ (a + 2 < κ.1.1 ∧ κ.2.1 (a + 2) = (1, 8))
theorem NetG.o {a : Nat} (h : NetG κ a) : oG κ a 3 = true := h.1.1
theorem NetG.r1 {a : Nat} (h : NetG κ a) : κ.2.2 a 1 = some (a + 1) := h.1.2.1
theorem NetG.r2 {a : Nat} (h : NetG κ a) : κ.2.2 a 2 = some (a + 2) := h.1.2.2
theorem NetG.a1 {a : Nat} (h : NetG κ a) : ∀ i, aG κ (a + 1) 1 i = inb i 8 := aGat h.2.1
theorem NetG.a2 {a : Nat} (h : NetG κ a) : ∀ i, aG κ (a + 2) 1 i = inb i 8 := aGat h.2.2
/-- a family, as far as numberOn needs it -/
def FamG (κ : (Nat × Nat) × (Nat → Nat × Nat) × (Nat → Nat → Option Nat)) (q : Bool) : Prop := oG κ (fo q) 1 = true ∧ κ.2.2 (fo q) 7 = some (aNn q) ∧ (aNn q < κ.1.1 ∧ κ.2.1 (aNn q) = (6, 5)) ∧ ∀ k, k < 5 → κ.2.2 (aNn q) k = some (aNu q + k) ∧ aNu q + k < κ.1.1 ∧ κ.2.1 (aNu q + k) = (1, 64)
def TabG (q : Bool) (m : vM) : Prop := rI m (fo q) 0 = nI (sh_ q) ∧ rI m (fo q) 1 = nI (sh_ q) ∧ ∀ size code, size < 5 → sh_ q ≤ size → code < cds size → rI m (aNu q + size) code = nI (nu_ q size code)
end GEN
section GNUM
variable {N : Nat} {m m' : vM} {s : vS} {κ : (Nat × Nat) × (Nat → Nat × Nat) × (Nat → Nat → Option Nat)}
theorem gc_has {a : Nat} (ha : oG κ a 3 = true) (x : Int32) : F_X3_has N a x (G κ m) = some (b2 ((0 : Int32) ≤ x ∧ x < rI m a 0), G κ m) := by
  unfold F_X3_has
  refine k_rcv ha ?_
  by_cases h1 : x < 0
  · refine e_t h1 ?_
    rw [b2_f (fun h => absurd h.1 (Int32.not_le.mpr h1))]
    rfl
  · refine e_f h1 ?_
    refine k_ldI ha ?_
    by_cases h2 : rI m a 0 ≤ x
    · refine e_t h2 ?_
      rw [b2_f (fun h => absurd h.2 (Int32.not_lt.mpr h2))]
      rfl
    · refine e_f h2 ?_
      rw [b2_t ⟨Int32.not_lt.mp h1, Int32.not_le.mp h2⟩]
      rfl
theorem gc_ch_l {a nn set : Nat} {r : Nat → Nat} {root : Option Nat} (ha : NetG κ a) (hr : ∀ r, root = some r → r < 8) (hset : set < 256) : ∀ (d i n : Nat) (c : Nat × (Nat → Nat)) (m : vM), i + d = nn → d < n → NetIs m a nn r → (fld (cstep set root) d i c).1 ≤ 4 → (∀ j, j < c.1 → rI m (a + 2) j = nI (c.2 j) ∧ c.2 j < nn) →
    ∃ m', H_X3_codeOn_23 N n a (nI set) (rt root) (nI c.1) (nI i) (G κ m) = H_X3_codeOn_76 N N a (nI (fld (cstep set root) d i c).1) 0 1 (G κ m') ∧ Fr (fun b _ => b = a + 2) m m' ∧ ∀ j, j < (fld (cstep set root) d i c).1 → rI m' (a + 2) j = nI ((fld (cstep set root) d i c).2 j) ∧ (fld (cstep set root) d i c).2 j < nn
  | _, _, 0, _, _, _, h, _, _, _ => by omega
  | 0, i, n + 1, c, m, hi, _, hn, _, hc => by
    refine ⟨m, ?_, Fr.rf, hc⟩
    obtain ⟨h1, h2, h3⟩ := hn
    unfold H_X3_codeOn_23
    refine k_ldI ha.o ?_
    rw [h1]
    exact e_t (by rw [show i = nn by omega]; exact Int32.le_refl _) rfl
  | d + 1, i, n + 1, c, m, hi, hd, hn, hf, hc => by
    obtain ⟨h1, h2, h3⟩ := id hn
    have hi8 : i < 8 := by omega
    rw [fld] at hf
    have hle := cstep_le (set := set) (root := root) d (i + 1) (cstep set root i c)
    have hstep : ∀ R : vM → Option (Int32 × vS), (∃ m', H_X3_codeOn_23 N n a (nI set) (rt root) (nI (cstep set root i c).1) (nI (i + 1)) (G κ (if root = some i ∨ bt set i = 0 then m else wI m (a + 2) c.1 (nI i))) = R m' ∧ Fr (fun b _ => b = a + 2) (if root = some i ∨ bt set i = 0 then m else wI m (a + 2) c.1 (nI i)) m' ∧ ∀ j, j < (fld (cstep set root) d (i + 1) (cstep set root i c)).1 → rI m' (a + 2) j = nI ((fld (cstep set root) d (i + 1) (cstep set root i c)).2 j) ∧ (fld (cstep set root) d (i + 1) (cstep set root i c)).2 j < nn) →
        ∃ m', H_X3_codeOn_23 N (n + 1) a (nI set) (rt root) (nI c.1) (nI i) (G κ m) = R m' ∧ Fr (fun b _ => b = a + 2) m m' ∧ ∀ j, j < (fld (cstep set root) d (i + 1) (cstep set root i c)).1 → rI m' (a + 2) j = nI ((fld (cstep set root) d (i + 1) (cstep set root i c)).2 j) ∧ (fld (cstep set root) d (i + 1) (cstep set root i c)).2 j < nn := by
      rintro R ⟨m', g1, g2, g3⟩
      refine ⟨m', ?_, ?_, g3⟩
      · unfold H_X3_codeOn_23
        refine k_ldI ha.o ?_
        rw [h1]
        refine e_f (by rw [nI_leI (by omega) (by omega)]; omega) ?_
        by_cases z1 : root = some i
        · refine e_t ((rt_eq hr hi8).mpr z1) ?_
          rw [if_pos (Or.inl z1)] at g1
          unfold cstep at g1
          rw [if_pos (Or.inl z1)] at g1
          unfold J_X3_codeOn_64
          refine e_nm ?_
          rw [addR]
          exact g1
        · refine e_f (fun h => z1 ((rt_eq hr hi8).mp h)) ?_
          rw [shr_and (by omega) (by omega)]
          by_cases z2 : bt set i = 0
          · refine e_t (by rw [z2]; rfl) ?_
            rw [if_pos (Or.inr z2)] at g1
            unfold cstep at g1
            rw [if_pos (Or.inr z2)] at g1
            unfold J_X3_codeOn_64
            refine e_nm ?_
            rw [addR]
            exact g1
          · have z : ¬ (root = some i ∨ bt set i = 0) := fun h => h.elim z1 z2
            have hb := bt_lt set i
            refine e_f (by rw [show bt set i = 1 by omega]; decide) ?_
            unfold cstep at hle
            rw [if_neg z] at g1 hle
            unfold cstep at g1 hf
            rw [if_neg z] at g1 hf
            have hc4 : c.1 + 1 ≤ 4 := Nat.le_trans hle hf
            refine e_f (by simp (disch := omega) only [leL, leR, ltL, ltR, eqR, mulL, addR, clL, inL, nI_add, pk_mul, inb_nI, nI_clamp, nI_leI, nI_ltI, nI_eq, nI_1]; omega) ?_
            refine k_ldR ha.o ha.r2 ?_
            refine k_asI ha.a2 rfl (by omega) ?_
            refine e_nm ?_
            unfold J_X3_codeOn_64
            refine e_nm ?_
            rw [addR, addR]
            exact g1
      · by_cases z : root = some i ∨ bt set i = 0
        · rw [if_pos z] at g2; exact g2
        · rw [if_neg z] at g2
          exact g2.pI rfl
    rw [fld]
    refine hstep _ (gc_ch_l (r := r) ha hr hset d (i + 1) n (cstep set root i c) _ (by omega) (by omega) ?_ hf ?_)
    · by_cases z : root = some i ∨ bt set i = 0
      · rw [if_pos z]; exact hn
      · rw [if_neg z]
        exact ⟨by rw [rI_n _ _ (by omega)]; exact h1, h2, fun j hj => by rw [rI_n _ _ (by omega)]; exact h3 j hj⟩
    · by_cases z : root = some i ∨ bt set i = 0
      · unfold cstep
        rw [if_pos z, if_pos z]; exact hc
      · unfold cstep
        rw [if_neg z, if_neg z]
        intro j hj
        show rI (wI m (a + 2) c.1 (nI i)) (a + 2) j = nI (if j = c.1 then i else c.2 j) ∧ (if j = c.1 then i else c.2 j) < nn
        by_cases e : j = c.1
        · rw [if_pos e, e, rI_s]; exact ⟨rfl, by omega⟩
        · rw [if_neg e, rI_n _ _ (by omega)]
          exact hc j (by have : j < c.1 + 1 := hj; omega)
theorem gc_cdi_l {a nn j k : Nat} {r ch : Nat → Nat} {K : Nat → Int32 → Int32 → Int32 → vS → Option (Int32 × vS)} (ha : NetG κ a) (hj : j < k) (hk : k ≤ 4) (hn : NetIs m a nn r) (hch : ∀ j, j < k → rI m (a + 2) j = nI (ch j) ∧ ch j < nn) : ∀ (d i n c : Nat), i + d = j → d < n → c < 64 →
    H_X3_codeOn_85 N K n a (nI k) (nI c) (nI j) (nI i) (G κ m) = K a (nI k) (nI (fld (istep r ch j) d i c)) (nI (j + 1)) (G κ m)
  | _, _, 0, _, _, h, _ => by omega
  | 0, i, n + 1, c, hi, _, _ => by
    unfold H_X3_codeOn_85
    refine e_t (by rw [show i = j by omega]; exact Int32.le_refl _) ?_
    refine e_nm ?_
    rw [addR]
    rfl
  | d + 1, i, n + 1, c, hi, hd, hc => by
    obtain ⟨h1, h2, h3⟩ := hn
    have hj1 := hch j hj
    have hi1 := hch i (by omega)
    have hr1 := h3 (ch j) hj1.2
    have h256 : r (ch j) < 2 ^ 8 := Nat.lt_of_lt_of_le hr1.2 (Nat.pow_le_pow_right (by decide) h2)
    have ih := gc_cdi_l (K := K) ha hj hk ⟨h1, h2, h3⟩ hch d (i + 1) n (istep r ch j i c) (by omega) (by omega) (istep_lt (by omega) (by omega) hc)
    have hb := bx6 j (by omega) i (by omega)
    unfold H_X3_codeOn_85
    refine e_f (by simp (disch := omega) only [leL, leR, ltL, ltR, eqR, mulL, addR, clL, inL, nI_add, pk_mul, inb_nI, nI_clamp, nI_leI, nI_ltI, nI_eq, nI_1]; omega) ?_
    refine k_ldR ha.o ha.r1 ?_
    refine k_ldR ha.o ha.r2 ?_
    refine k_alI ha.a2 rfl (by omega) ?_
    rw [hj1.1]
    refine k_alI ha.a1 rfl (by omega) ?_
    rw [hr1.1]
    refine k_ldR ha.o ha.r2 ?_
    refine k_alI ha.a2 rfl (by omega) ?_
    rw [hi1.1, shr_and (by omega) (by omega)]
    have hbt := bt_lt (r (ch j)) (ch i)
    rw [fld]
    by_cases z : bt (r (ch j)) (ch i) = 1
    · refine e_f (by rw [z]; decide) ?_
      refine e_bnd (c_bitOf (by omega) (by omega)) ?_
      have h2 : (2 : Nat) ^ bx i j < 2 ^ 6 := Nat.pow_lt_pow_right (by decide) hb.2
      refine e_nm ?_
      rw [nI_or (by omega) (by omega)]
      unfold J_X3_codeOn_129
      refine e_nm ?_
      rw [addR]
      unfold istep at ih
      rw [if_pos z] at ih
      unfold istep
      rw [if_pos z]
      exact ih
    · refine e_t (by rw [show bt (r (ch j)) (ch i) = 0 by omega]; rfl) ?_
      unfold J_X3_codeOn_129
      refine e_nm ?_
      rw [addR]
      unfold istep at ih
      rw [if_neg z] at ih
      unfold istep
      rw [if_neg z]
      exact ih
theorem gc_cdo_l {a nn k : Nat} {r ch : Nat → Nat} (ha : NetG κ a) (hk : k ≤ 4) (hn : NetIs m a nn r) (hch : ∀ j, j < k → rI m (a + 2) j = nI (ch j) ∧ ch j < nn) (hN : 100 ≤ N) : ∀ (d j n c : Nat), d = k - j → j < 5 → d < n → c < 64 →
    H_X3_codeOn_76 N n a (nI k) (nI c) (nI j) (G κ m) = some (nI (fld (fun j c => cdi r ch j c) d j c), G κ m)
  | _, _, 0, _, _, _, h, _ => by omega
  | 0, j, n + 1, c, hd, hj, _, _ => by
    unfold H_X3_codeOn_76
    exact e_t (by simp (disch := omega) only [leL, leR, ltL, ltR, eqR, mulL, addR, clL, inL, nI_add, pk_mul, inb_nI, nI_clamp, nI_leI, nI_ltI, nI_eq, nI_1]; omega) rfl
  | d + 1, j, n + 1, c, hd, hj, hn', hc => by
    have ih := gc_cdo_l ha hk hn hch hN d (j + 1) n (cdi r ch j c) (by omega) (by omega) (by omega) (cdi_lt (by omega) hc)
    unfold H_X3_codeOn_76
    refine e_f (by simp (disch := omega) only [leL, leR, ltL, ltR, eqR, mulL, addR, clL, inL, nI_add, pk_mul, inb_nI, nI_clamp, nI_leI, nI_ltI, nI_eq, nI_1]; omega) ?_
    refine (gc_cdi_l ha (by omega) hk hn hch j 0 N c (by omega) (by omega) hc).trans ?_
    exact ih
theorem gc_codeOn {a nn set : Nat} {r : Nat → Nat} {root : Option Nat} (hN : 100 ≤ N) (ha : NetG κ a) (hn : NetIs m a nn r) (hset : set < 2 ^ nn) (hr : ∀ x, root = some x → x < nn) (hk : (chs set root nn).1 ≤ 4) :
    ∃ m', F_X3_codeOn N a (nI set) (rt root) (G κ m) = some (nI (cdo r (chs set root nn).2 (chs set root nn).1), G κ m') ∧ Fr (fun b _ => b = a + 2) m m' := by
  obtain ⟨h1, h2, h3⟩ := id hn
  have h8 : (2 : Nat) ^ nn ≤ 2 ^ 8 := Nat.pow_le_pow_right (by decide) h2
  have hr8 : ∀ x, root = some x → x < 8 := fun x hx => by have := hr x hx; omega
  have go : ∀ (m1 : vM) (c0 : Nat × (Nat → Nat)), Fr (fun b _ => b = a + 2) m m1 → chs set root nn = fld (cstep set root) nn 0 c0 → (∀ j, j < c0.1 → rI m1 (a + 2) j = nI (c0.2 j) ∧ c0.2 j < nn) →
      ∃ m', J_X3_codeOn_20 N a (nI set) (rt root) (nI c0.1) (G κ m1) = some (nI (cdo r (chs set root nn).2 (chs set root nn).1), G κ m') ∧ Fr (fun b _ => b = a + 2) m m' := by
    intro m1 c0 hf he hc
    have hn1 : NetIs m1 a nn r := ⟨by rw [hf.i (by omega)]; exact h1, h2, fun i hi => by rw [hf.i (by omega)]; exact h3 i hi⟩
    rw [he] at hk ⊢
    obtain ⟨m', g1, g2, g3⟩ := gc_ch_l (N := N) ha hr8 (show set < 256 by omega) nn 0 N c0 m1 (by omega) (by omega) hn1 hk hc
    refine ⟨m', ?_, hf.tr g2⟩
    have hn2 : NetIs m' a nn r := ⟨by rw [g2.i (by omega)]; exact hn1.1, h2, fun i hi => by rw [g2.i (by omega)]; exact hn1.2.2 i hi⟩
    unfold J_X3_codeOn_20
    refine Eq.trans g1 ?_
    exact gc_cdo_l ha hk hn2 g3 hN _ 1 N 0 rfl (by omega) (by omega) (by omega)
  unfold F_X3_codeOn
  cases root with
  | none =>
    obtain ⟨m', g1, g2⟩ := go m (0, fun _ => 0) Fr.rf rfl (fun j hj => absurd hj (Nat.not_lt_zero _))
    refine ⟨m', ?_, g2⟩
    refine k_rcv ha.o ?_
    refine e_bnd (gc_has ha.o _) ?_
    refine e_t (b2_f (fun h => absurd h.1 (by show ¬ ((0 : Int32) ≤ -1); decide))) ?_
    exact g1
  | some x =>
    have hx := hr x rfl
    obtain ⟨m', g1, g2⟩ := go (wI m (a + 2) 0 (nI x)) (1, fun _ => x) (Fr.sI Fr.rf rfl) rfl (fun j hj => by
      obtain rfl : j = 0 := by have : j < 1 := hj; omega
      rw [rI_s]
      exact ⟨rfl, hx⟩)
    refine ⟨m', ?_, g2⟩
    refine k_rcv ha.o ?_
    refine e_bnd (gc_has ha.o _) ?_
    refine e_f (by
      rw [b2_t]
      · decide
      · rw [h1]
        exact ⟨nI_pos' (by omega), nI_lt hx (by omega)⟩) ?_
    refine k_ldR ha.o ha.r2 ?_
    refine k_asI ha.a2 (j := 0) rfl (by omega) ?_
    refine e_nm ?_
    exact g1
theorem gc_hasSize {q : Bool} (hF : FamG κ q) (hT : TabG q m) (x : Int32) : F_X1_hasSize N (fo q) x (G κ m) = some (b2 (nI (sh_ q) ≤ x ∧ x ≤ 4), G κ m) := by
  unfold F_X1_hasSize
  refine k_rcv hF.1 ?_
  refine k_ldI hF.1 ?_
  rw [hT.2.1]
  by_cases h1 : x < nI (sh_ q)
  · refine e_t h1 ?_
    rw [b2_f (fun h => absurd h.1 (Int32.not_le.mpr h1))]
    rfl
  · refine e_f h1 ?_
    by_cases h2 : (4 : Int32) < x
    · refine e_t h2 ?_
      rw [b2_f (fun h => absurd h.2 (Int32.not_le.mpr h2))]
      rfl
    · refine e_f h2 ?_
      rw [b2_t ⟨Int32.not_lt.mp h1, Int32.not_lt.mp h2⟩]
      rfl
theorem gc_numberOn {q : Bool} {a nn set : Nat} {r : Nat → Nat} {root : Option Nat} (hN : 100 ≤ N) (hF : FamG κ q) (hT : TabG q m) (hsep : a + 2 ≠ fo q ∧ ∀ k, k < 5 → a + 2 ≠ aNu q + k) (ha : NetG κ a) (hn : NetIs m a nn r) (hset : set < 2 ^ nn) (hq : q = root.isSome) (hr : ∀ x, root = some x → x < nn) :
    ∃ m', F_X1_numberOn N (fo q) a (nI set) (rt root) (G κ m) = some (if sh_ q ≤ pop set ∧ pop set ≤ 4 ∧ rootIn set root = true then nI (nOn q nn r set root) else -1, G κ m') ∧ Fr (fun b _ => b = a + 2) m m' := by
  obtain ⟨h1, h2, h3⟩ := id hn
  have h8 : (2 : Nat) ^ nn ≤ 2 ^ 8 := Nat.pow_le_pow_right (by decide) h2
  have hp := pop_le set
  have hs := sh_lt q
  by_cases hz : sh_ q ≤ pop set ∧ pop set ≤ 4
  · have hsz : b2 (nI (sh_ q) ≤ nI (pop set) ∧ nI (pop set) ≤ 4) = 1 := b2_t ⟨(nI_leI (by omega) (by omega)).mpr hz.1, (leR (by decide) (by omega)).mpr hz.2⟩
    have main : rootIn set root = true → ∃ m', J_X1_numberOn_40 N (fo q) a (nI set) (rt root) (nI (pop set)) (G κ m) = some (nI (nOn q nn r set root), G κ m') ∧ Fr (fun b _ => b = a + 2) m m' := by
      intro hi
      have hc := chs_pop h2 hset hr hi
      obtain ⟨m', g1, g2⟩ := gc_codeOn (N := N) hN ha hn hset hr (by rw [hc]; exact hz.2)
      rw [hc] at g1
      refine ⟨m', ?_, g2⟩
      have hlt := cdo_lt (r := r) (ch := (chs set root nn).2) (pop set) (by omega)
      have hT' : TabG q m' := ⟨by rw [g2.i (fun w => hsep.1 w.symm)]; exact hT.1, by rw [g2.i (fun w => hsep.1 w.symm)]; exact hT.2.1, fun size code a1 a2 a3 => by rw [g2.i (fun w => hsep.2 size a1 w.symm)]; exact hT.2.2 size code a1 a2 a3⟩
      have h64 : cds (pop set) ≤ 64 := (show ∀ k, k < 5 → cds k ≤ 64 by decide) _ (by omega)
      unfold J_X1_numberOn_40
      refine k_ldR hF.1 hF.2.1 ?_
      refine k_alR (aGat hF.2.2.1) (by decide) rfl (by omega) (hF.2.2.2 (pop set) (by omega)).1 ?_
      refine e_bnd g1 ?_
      refine k_alI (aGat (hF.2.2.2 (pop set) (by omega)).2) rfl (by omega) ?_
      rw [hT'.2.2 (pop set) _ (by omega) hz.1 hlt]
      rfl
    cases root with
    | none =>
      obtain ⟨m', g1, g2⟩ := main rfl
      refine ⟨m', ?_, g2⟩
      unfold F_X1_numberOn
      refine k_rcv hF.1 ?_
      refine e_bnd (c_bits (by omega)) ?_
      refine e_bnd (gc_hasSize hF hT _) ?_
      refine e_f (by rw [hsz]; decide) ?_
      refine k_ldI hF.1 ?_
      refine e_t (by rw [hT.1, hq]; rfl) ?_
      rw [if_pos ⟨hz.1, hz.2, rfl⟩]
      exact g1
    | some x =>
      have hx := hr x rfl
      have hgo : ∀ R, (if nI (bt set x) = 0 then J_X1_numberOn_38 N (G κ m) else J_X1_numberOn_40 N (fo q) a (nI set) (rt (some x)) (nI (pop set)) (G κ m)) = R → F_X1_numberOn N (fo q) a (nI set) (rt (some x)) (G κ m) = R := by
        intro R hR
        unfold F_X1_numberOn
        refine k_rcv hF.1 ?_
        refine e_bnd (c_bits (by omega)) ?_
        refine e_bnd (gc_hasSize hF hT _) ?_
        refine e_f (by rw [hsz]; decide) ?_
        refine k_ldI hF.1 ?_
        refine e_f (by rw [hT.1, hq]; show ¬ nI 1 = 0; decide) ?_
        refine e_bnd (gc_has ha.o _) ?_
        refine e_f (by
          rw [b2_t]
          · decide
          · rw [h1]
            exact ⟨nI_pos' (by omega), nI_lt hx (by omega)⟩) ?_
        show (if ((nI set >>> (nI x &&& 31)) &&& 1) = 0 then _ else _) = R
        rw [shr_and (by omega) (by omega)]
        exact hR
      have hb := bt_lt set x
      by_cases z : bt set x = 1
      · have hi : rootIn set (some x) = true := by show (bt set x == 1) = true; rw [z]; rfl
        obtain ⟨m', g1, g2⟩ := main hi
        refine ⟨m', hgo _ ?_, g2⟩
        rw [if_neg (by rw [z]; decide), if_pos ⟨hz.1, hz.2, hi⟩]
        exact g1
      · have hi : ¬ rootIn set (some x) = true := fun h => z (eq_of_beq h)
        refine ⟨m, hgo _ ?_, Fr.rf⟩
        rw [if_pos (by rw [show bt set x = 0 by omega]; rfl), if_neg (fun h => hi h.2.2)]
        rfl
  · refine ⟨m, ?_, Fr.rf⟩
    rw [if_neg (fun h => hz ⟨h.1, h.2.1⟩)]
    unfold F_X1_numberOn
    refine k_rcv hF.1 ?_
    refine e_bnd (c_bits (by omega)) ?_
    refine e_bnd (gc_hasSize hF hT _) ?_
    refine e_t (b2_f (fun h => hz ⟨(nI_leI (by omega) (by omega)).mp h.1, (leR (by decide) (by omega)).mp h.2⟩)) ?_
    rfl
end GNUM
