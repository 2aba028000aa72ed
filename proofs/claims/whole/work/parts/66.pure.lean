/-! small numbers: bits, ones; what stays of a state -/
section PURE
variable {N : Nat} {m : vM} {s : vS}
theorem divR {n i : Nat} (hi : i < 2 ^ 31) (h0 : 0 < (OfNat.ofNat n : Nat)) (hn : (OfNat.ofNat n : Nat) < 2 ^ 31) : nI i / (no_index (OfNat.ofNat n) : Int32) = nI (i / (OfNat.ofNat n : Nat)) := pk_div hi h0 hn
theorem remR {n i : Nat} (hi : i < 2 ^ 31) (h0 : 0 < (OfNat.ofNat n : Nat)) (hn : (OfNat.ofNat n : Nat) < 2 ^ 31) : nI i - nI i / (no_index (OfNat.ofNat n) : Int32) * (no_index (OfNat.ofNat n) : Int32) = nI (i % (OfNat.ofNat n : Nat)) := pk_rem hi h0 hn
def bt (x y : Nat) : Nat := x / 2 ^ y % 2
theorem bt_01 (x y : Nat) : bt x y = 0 ∨ bt x y = 1 := Nat.mod_two_eq_zero_or_one _
theorem bt_lt (x y : Nat) : bt x y < 2 := Nat.mod_lt _ (by decide)
theorem shl1 : ∀ e, e < 31 → (1 : Int32) <<< (nI e &&& 31) = nI (2 ^ e) := by decide +kernel
theorem msk : ∀ y, y < 31 → ((nI y &&& 31 : Int32).toBitVec.smod 32).toNat = y := by decide +kernel
theorem shr_and {x y : Nat} (hx : x < 2 ^ 31) (hy : y < 31) : (nI x >>> (nI y &&& 31)) &&& 1 = nI (bt x y) := by
  have h := Nat.div_le_self x (2 ^ y)
  rw [pk_shrN hx _ y (msk y hy), pk_andN (by omega) 1 rfl]
  rfl
theorem nI_or {a b : Nat} (ha : a < 2 ^ 31) (hb : b < 2 ^ 31) : nI a ||| nI b = nI (a ||| b) := by
  apply Int32.toBitVec_inj.mp
  rw [Int32.toBitVec_or]
  apply BitVec.eq_of_toNat_eq
  have h := Nat.or_lt_two_pow ha hb
  rw [BitVec.toNat_or, pk_tn (by omega), pk_tn (by omega), pk_tn (by omega)]
theorem nI_and {a b : Nat} (ha : a < 2 ^ 31) (hb : b < 2 ^ 31) : nI a &&& nI b = nI (a &&& b) := by
  apply Int32.toBitVec_inj.mp
  rw [Int32.toBitVec_and]
  apply BitVec.eq_of_toNat_eq
  have h : a &&& b ≤ a := Nat.and_le_left
  rw [BitVec.toNat_and, pk_tn (by omega), pk_tn (by omega), pk_tn (by omega)]
def popF : Nat → Nat → Nat
  | 0, _ => 0
  | n + 1, k => k % 2 + popF n (k / 2)
def pop (k : Nat) : Nat := popF 9 k
theorem popF_le : ∀ f k, popF f k ≤ f
  | 0, _ => Nat.le_refl 0
  | f + 1, k => by
    have := popF_le f (k / 2)
    unfold popF
    omega
theorem pop_le (k : Nat) : pop k ≤ 9 := popF_le 9 k
theorem m_ones_l : ∀ (f c k n : Nat), k < 2 ^ f → f < 30 → f < n → H_X9_ones_4 N n (nI c) (nI k) s = some (nI (c + popF f k), s)
  | _, _, _, 0, _, _, h => by omega
  | 0, c, k, n + 1, hk, hf, _ => by
    obtain rfl : k = 0 := by
      rw [Nat.pow_zero] at hk
      omega
    unfold H_X9_ones_4
    exact e_t (by decide) rfl
  | f + 1, c, k, n + 1, hk, hf, hn => by
    have h2 : (2 : Nat) ^ (f + 1) = 2 * 2 ^ f := by rw [Nat.pow_succ]; omega
    have h3 : (2 : Nat) ^ f ≤ 2 ^ 30 := Nat.pow_le_pow_right (by decide) (by omega)
    unfold H_X9_ones_4
    rcases Nat.eq_zero_or_pos k with rfl | h0
    · refine e_t (by decide) ?_
      have e : ∀ f, popF f 0 = 0 := by
        intro f
        induction f with
        | zero => rfl
        | succ f ih => unfold popF; rw [Nat.zero_div, ih]
      rw [e]
      rfl
    · refine e_f (by simp (disch := omega) only [leL, leR, ltL, ltR, eqR, mulL, addR, clL, inL, nI_add, pk_mul, inb_nI, nI_clamp, nI_leI, nI_ltI, nI_eq, nI_1]; omega) ?_
      refine e_nzI (by decide) ?_
      refine e_nm ?_
      refine e_nzI (by decide) ?_
      refine e_nm ?_
      rw [remR (by omega) (by decide) (by decide), divR (by omega) (by decide) (by decide), nI_add]
      have hm := Nat.mod_lt k (show 0 < 2 by decide)
      rw [m_ones_l f (c + k % 2) (k / 2) n (by omega) (by omega) (by omega)]
      rw [popF, Nat.add_assoc]
theorem m_ones {k : Nat} (hk : k < 512) (hN : 100 ≤ N) : F_X9_ones N (nI k) s = some (nI (pop k), s) := by
  unfold F_X9_ones
  have h := m_ones_l (N := N) (s := s) 9 0 k N hk (by omega) (by omega)
  rw [Nat.zero_add] at h
  exact h
def bcE (x : Int32) : Int32 := match F_J6_bitCount_0f7a4 0 x ((0, 0), fun _ => (0, 0), fun _ _ => 0, fun _ _ => 0, fun _ _ => none) with
  | some r => r.1
  | none => 0
theorem bcE_pop : ∀ k, k < 256 → bcE (nI k) = nI (pop k) := by decide +kernel
theorem c_bits {k : Nat} (hk : k < 256) : F_J6_bitCount_0f7a4 N (nI k) s = some (nI (pop k), s) := by
  have h : F_J6_bitCount_0f7a4 N (nI k) s = some (bcE (nI k), s) := rfl
  rw [h, bcE_pop k hk]
/-- what stays: all but the places P -/
def Fr (P : Nat → Nat → Prop) (m m' : vM) : Prop := ∀ a j, ¬ P a j → rI m' a j = rI m a j ∧ rJ m' a j = rJ m a j
theorem Fr.rf {P : Nat → Nat → Prop} {m : vM} : Fr P m m := fun _ _ _ => ⟨rfl, rfl⟩
theorem Fr.tr {P : Nat → Nat → Prop} {m1 m2 m3 : vM} (h : Fr P m1 m2) (g : Fr P m2 m3) : Fr P m1 m3 := fun a j z => ⟨(g a j z).1.trans (h a j z).1, (g a j z).2.trans (h a j z).2⟩
theorem Fr.mo {P Q : Nat → Nat → Prop} {m1 m2 : vM} (h : Fr P m1 m2) (q : ∀ a j, P a j → Q a j) : Fr Q m1 m2 := fun a j z => h a j (fun y => z (q a j y))
theorem Fr.i {P : Nat → Nat → Prop} {m1 m2 : vM} (h : Fr P m1 m2) {a j : Nat} (z : ¬ P a j) : rI m2 a j = rI m1 a j := (h a j z).1
theorem Fr.j {P : Nat → Nat → Prop} {m1 m2 : vM} (h : Fr P m1 m2) {a j : Nat} (z : ¬ P a j) : rJ m2 a j = rJ m1 a j := (h a j z).2
theorem Fr.sI {P : Nat → Nat → Prop} {m1 m2 : vM} (h : Fr P m1 m2) {a k : Nat} {v : Int32} (p : P a k) : Fr P m1 (wI m2 a k v) := fun b j z => ⟨by
  rw [rI_wI, if_neg (fun q => z (by rw [q.1, q.2]; exact p))]; exact (h b j z).1, (h b j z).2⟩
theorem Fr.sJ {P : Nat → Nat → Prop} {m1 m2 : vM} (h : Fr P m1 m2) {a k : Nat} {v : Int64} (p : P a k) : Fr P m1 (wJ m2 a k v) := fun b j z => ⟨(h b j z).1, by
  rw [rJ_wJ, if_neg (fun q => z (by rw [q.1, q.2]; exact p))]; exact (h b j z).2⟩
theorem Fr.pI {P : Nat → Nat → Prop} {m m' : vM} {a k : Nat} {v : Int32} (g : Fr P (wI m a k v) m') (p : P a k) : Fr P m m' := (Fr.rf.sI p).tr g
theorem Fr.pJ {P : Nat → Nat → Prop} {m m' : vM} {a k : Nat} {v : Int64} (g : Fr P (wJ m a k v) m') (p : P a k) : Fr P m m' := (Fr.rf.sJ p).tr g
theorem rI_s (m : vM) (a k : Nat) (v : Int32) : rI (wI m a k v) a k = v := by rw [rI_wI, if_pos ⟨rfl, rfl⟩]
theorem rJ_s (m : vM) (a k : Nat) (v : Int64) : rJ (wJ m a k v) a k = v := by rw [rJ_wJ, if_pos ⟨rfl, rfl⟩]
theorem rI_n (m : vM) {a k a' k' : Nat} (v : Int32) (h : ¬ (a' = a ∧ k' = k)) : rI (wI m a k v) a' k' = rI m a' k' := by rw [rI_wI, if_neg h]
theorem rJ_n (m : vM) {a k a' k' : Nat} (v : Int64) (h : ¬ (a' = a ∧ k' = k)) : rJ (wJ m a k v) a' k' = rJ m a' k' := by rw [rJ_wJ, if_neg h]
theorem arrAt {a kd n : Nat} (h : a < 354 ∧ SHf a = (kd, n)) : ∀ i, isAc a kd i = inb i n := by
  intro i
  unfold isAc
  rw [h.2]
  simp [h.1]
theorem eqL {n i : Nat} (hn : (OfNat.ofNat n : Nat) < 2 ^ 31) (hi : i < 2 ^ 31) : ((no_index (OfNat.ofNat n) : Int32) = nI i) ↔ (OfNat.ofNat n : Nat) = i := nI_eq hn hi
theorem b2_nz {c : Prop} [Decidable c] (h : c) : ¬ b2 c = 0 := by
  rw [b2_t h]
  decide
theorem b2_1 {c : Prop} [Decidable c] : b2 c = 1 ↔ c := by
  by_cases h : c
  · rw [b2_t h]; exact ⟨fun _ => h, fun _ => rfl⟩
  · rw [b2_f h]; exact ⟨fun q => absurd q (by decide), fun q => absurd q h⟩
end PURE
section STEPSV
variable {ρ α : Type} {m : vM} {s : vS} {R : Option ρ}
theorem e_nmV {e e2 : α} {f : α → Option ρ} (h : e = e2) (k : f e2 = R) : nm e f = R := by rw [h]; exact k
theorem e_ldIV {a ci j : Nat} {v : Int32} {f : Int32 → Option ρ} (h : isOc a ci = true) (hv : rI m a j = v) (k : f v = R) : ldI (S m) a ci j f = R := e_ldI h (by rw [hv]; exact k)
theorem e_ldJV {a ci j : Nat} {v : Int64} {f : Int64 → Option ρ} (h : isOc a ci = true) (hv : rJ m a j = v) (k : f v = R) : ldJ (S m) a ci j f = R := e_ldJ h (by rw [hv]; exact k)
theorem e_stIV {a ci j : Nat} {v v2 : Int32} {f : vS → Option ρ} (h : isOc a ci = true) (hv : v = v2) (k : f (S (wI m a j v2)) = R) : stI (S m) a ci j v f = R := e_stI h (by rw [hv]; exact k)
theorem e_stJV {a ci j : Nat} {v v2 : Int64} {f : vS → Option ρ} (h : isOc a ci = true) (hv : v = v2) (k : f (S (wJ m a j v2)) = R) : stJ (S m) a ci j v f = R := e_stJ h (by rw [hv]; exact k)
theorem e_alIV {a j n : Nat} {i v : Int32} {f : Int32 → Option ρ} (h : ∀ i, isAc a 1 i = inb i n) (hi : i = nI j) (hj : j < n ∧ n < 2 ^ 31) (hv : rI m a j = v) (k : f v = R) : alI (S m) a i f = R := e_alI h hi hj (by rw [hv]; exact k)
theorem e_alZV {a j n : Nat} {i v : Int32} {f : Int32 → Option ρ} (h : ∀ i, isAc a 3 i = inb i n) (hi : i = nI j) (hj : j < n ∧ n < 2 ^ 31) (hv : rI m a j = v) (k : f v = R) : alZ (S m) a i f = R := e_alZ h hi hj (by rw [hv]; exact k)
theorem e_alJV {a j n : Nat} {i : Int32} {v : Int64} {f : Int64 → Option ρ} (h : ∀ i, isAc a 2 i = inb i n) (hi : i = nI j) (hj : j < n ∧ n < 2 ^ 31) (hv : rJ m a j = v) (k : f v = R) : alJ (S m) a i f = R := e_alJ h hi hj (by rw [hv]; exact k)
theorem e_asIV {a j n : Nat} {i v v2 : Int32} {f : vS → Option ρ} (h : ∀ i, isAc a 1 i = inb i n) (hi : i = nI j) (hj : j < n ∧ n < 2 ^ 31) (hv : v = v2) (k : f (S (wI m a j v2)) = R) : asI (S m) a i v f = R := e_asI h hi hj (by rw [hv]; exact k)
theorem e_asJV {a j n : Nat} {i : Int32} {v v2 : Int64} {f : vS → Option ρ} (h : ∀ i, isAc a 2 i = inb i n) (hi : i = nI j) (hj : j < n ∧ n < 2 ^ 31) (hv : v = v2) (k : f (S (wJ m a j v2)) = R) : asJ (S m) a i v f = R := e_asJ h hi hj (by rw [hv]; exact k)
end STEPSV
