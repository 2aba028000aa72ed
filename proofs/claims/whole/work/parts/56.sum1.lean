section SUM1
variable {N : Nat} {s : vS} {m : vM}
theorem over_ge (a b : Int64) : (0 ≤ ((a ^^^ (a + b)) &&& (b ^^^ (a + b)))) ↔ fits (a.toInt + b.toInt) := by
  have h := over_add a b
  constructor
  · intro h1
    apply Classical.byContradiction
    intro h2
    exact absurd (h.mpr h2) (Int64.not_lt.mpr h1)
  · intro h1
    exact Int64.not_lt.mp (fun q => h.mp q h1)
def SumAt (a : Nat) : Prop := isOc a 6 = true ∧ RRf a 1 = some (a + 1) ∧ RRf a 2 = some (a + 2) ∧ (∀ i, isAc (a + 1) 2 i = inb i 29) ∧ (∀ i, isAc (a + 2) 2 i = inb i 29)
def wQ (m : vM) (a k : Nat) (p : Int64 × Int64) : vM := wJ (wJ m (a + 1) k p.1) (a + 2) k p.2
theorem c_add {a f k : Nat} (ha : SumAt a) (hf : isOc f 2 = true) (hk : k < 29) (hN : 100 ≤ N) (hb : 0 < (rJ m (a + 2) k).toInt) (hd : 0 < (rJ m f 1).toInt) :
    F_X6_add N a (nI k) f (S m) = some (match fadd (rJ m (a + 1) k) (rJ m (a + 2) k) (rJ m f 0) (rJ m f 1) with | some p => (1, S (wQ m a k p)) | none => (0, S m)) := by
  obtain ⟨a1, a2, a3, a4, a5⟩ := ha
  have h1 := c_greatestIn (N := N) (s := S m) (a := rJ m (a + 2) k) hN hd
  have z1 := fg_n0 (a := rJ m (a + 2) k) hd
  unfold F_X6_add
  repeat (first | ((with_reducible refine e_nm ?_)) | ((with_reducible refine e_rcv ?hO ?_); (case hO => (with_reducible first | assumption))) | ((with_reducible refine e_ldI ?hO ?_); (case hO => (with_reducible first | assumption))) | ((with_reducible refine e_ldJ ?hO ?_); (case hO => (with_reducible first | assumption))) | ((with_reducible refine e_ldR (r := ?_) ?hO ?hR ?_); (case hO => (with_reducible first | assumption)); (case hR => (with_reducible first | assumption))) | ((with_reducible refine e_stI ?hO ?_); (case hO => (with_reducible first | assumption))) | ((with_reducible refine e_stJ ?hO ?_); (case hO => (with_reducible first | assumption))) | ((with_reducible refine e_alI (j := ?_) (n := ?_) ?hA ?hI ?hB ?_); (case hA => (with_reducible first | assumption)); (case hI => (first | rfl | (simp only [mulL, addR, nI_add, pk_mul, nI_1]; rfl) | (simp (disch := omega) only [mulL, addR, subR, nI_add, pk_mul, pk_sub, nI_1]; rfl))); (case hB => (omega))) | ((with_reducible refine e_alJ (j := ?_) (n := ?_) ?hA ?hI ?hB ?_); (case hA => (with_reducible first | assumption)); (case hI => (first | rfl | (simp only [mulL, addR, nI_add, pk_mul, nI_1]; rfl) | (simp (disch := omega) only [mulL, addR, subR, nI_add, pk_mul, pk_sub, nI_1]; rfl))); (case hB => (omega))) | ((with_reducible refine e_alZ (j := ?_) (n := ?_) ?hA ?hI ?hB ?_); (case hA => (with_reducible first | assumption)); (case hI => (first | rfl | (simp only [mulL, addR, nI_add, pk_mul, nI_1]; rfl) | (simp (disch := omega) only [mulL, addR, subR, nI_add, pk_mul, pk_sub, nI_1]; rfl))); (case hB => (omega))) | ((with_reducible refine e_asI (j := ?_) (n := ?_) ?hA ?hI ?hB ?_); (case hA => (with_reducible first | assumption)); (case hI => (first | rfl | (simp only [mulL, addR, nI_add, pk_mul, nI_1]; rfl) | (simp (disch := omega) only [mulL, addR, subR, nI_add, pk_mul, pk_sub, nI_1]; rfl))); (case hB => (omega))) | ((with_reducible refine e_asJ (j := ?_) (n := ?_) ?hA ?hI ?hB ?_); (case hA => (with_reducible first | assumption)); (case hI => (first | rfl | (simp only [mulL, addR, nI_add, pk_mul, nI_1]; rfl) | (simp (disch := omega) only [mulL, addR, subR, nI_add, pk_mul, pk_sub, nI_1]; rfl))); (case hB => (omega))) | ((with_reducible refine e_nzI ?hZ ?_); (case hZ => (decide))) | ((with_reducible refine e_nzJ ?hZ ?_); (case hZ => (assumption))))
  refine e_f (by simp (disch := omega) only [leL, leR, ltL, ltR, eqR, mulL, addR, clL, inL, nI_add, pk_mul, inb_nI, nI_clamp, nI_leI, nI_ltI, nI_eq, nI_1]; omega) ?_
  refine e_t (by simp (disch := omega) only [leL, leR, ltL, ltR, eqR, mulL, addR, clL, inL, nI_add, pk_mul, inb_nI, nI_clamp, nI_leI, nI_ltI, nI_eq, nI_1]; omega) ?_
  repeat (first | ((with_reducible refine e_nm ?_)) | ((with_reducible refine e_rcv ?hO ?_); (case hO => (with_reducible first | assumption))) | ((with_reducible refine e_ldI ?hO ?_); (case hO => (with_reducible first | assumption))) | ((with_reducible refine e_ldJ ?hO ?_); (case hO => (with_reducible first | assumption))) | ((with_reducible refine e_ldR (r := ?_) ?hO ?hR ?_); (case hO => (with_reducible first | assumption)); (case hR => (with_reducible first | assumption))) | ((with_reducible refine e_stI ?hO ?_); (case hO => (with_reducible first | assumption))) | ((with_reducible refine e_stJ ?hO ?_); (case hO => (with_reducible first | assumption))) | ((with_reducible refine e_alI (j := ?_) (n := ?_) ?hA ?hI ?hB ?_); (case hA => (with_reducible first | assumption)); (case hI => (first | rfl | (simp only [mulL, addR, nI_add, pk_mul, nI_1]; rfl) | (simp (disch := omega) only [mulL, addR, subR, nI_add, pk_mul, pk_sub, nI_1]; rfl))); (case hB => (omega))) | ((with_reducible refine e_alJ (j := ?_) (n := ?_) ?hA ?hI ?hB ?_); (case hA => (with_reducible first | assumption)); (case hI => (first | rfl | (simp only [mulL, addR, nI_add, pk_mul, nI_1]; rfl) | (simp (disch := omega) only [mulL, addR, subR, nI_add, pk_mul, pk_sub, nI_1]; rfl))); (case hB => (omega))) | ((with_reducible refine e_alZ (j := ?_) (n := ?_) ?hA ?hI ?hB ?_); (case hA => (with_reducible first | assumption)); (case hI => (first | rfl | (simp only [mulL, addR, nI_add, pk_mul, nI_1]; rfl) | (simp (disch := omega) only [mulL, addR, subR, nI_add, pk_mul, pk_sub, nI_1]; rfl))); (case hB => (omega))) | ((with_reducible refine e_asI (j := ?_) (n := ?_) ?hA ?hI ?hB ?_); (case hA => (with_reducible first | assumption)); (case hI => (first | rfl | (simp only [mulL, addR, nI_add, pk_mul, nI_1]; rfl) | (simp (disch := omega) only [mulL, addR, subR, nI_add, pk_mul, pk_sub, nI_1]; rfl))); (case hB => (omega))) | ((with_reducible refine e_asJ (j := ?_) (n := ?_) ?hA ?hI ?hB ?_); (case hA => (with_reducible first | assumption)); (case hI => (first | rfl | (simp only [mulL, addR, nI_add, pk_mul, nI_1]; rfl) | (simp (disch := omega) only [mulL, addR, subR, nI_add, pk_mul, pk_sub, nI_1]; rfl))); (case hB => (omega))) | ((with_reducible refine e_nzI ?hZ ?_); (case hZ => (decide))) | ((with_reducible refine e_nzJ ?hZ ?_); (case hZ => (assumption))))
  refine e_bnd h1 ?_
  repeat (first | ((with_reducible refine e_nm ?_)) | ((with_reducible refine e_rcv ?hO ?_); (case hO => (with_reducible first | assumption))) | ((with_reducible refine e_ldI ?hO ?_); (case hO => (with_reducible first | assumption))) | ((with_reducible refine e_ldJ ?hO ?_); (case hO => (with_reducible first | assumption))) | ((with_reducible refine e_ldR (r := ?_) ?hO ?hR ?_); (case hO => (with_reducible first | assumption)); (case hR => (with_reducible first | assumption))) | ((with_reducible refine e_stI ?hO ?_); (case hO => (with_reducible first | assumption))) | ((with_reducible refine e_stJ ?hO ?_); (case hO => (with_reducible first | assumption))) | ((with_reducible refine e_alI (j := ?_) (n := ?_) ?hA ?hI ?hB ?_); (case hA => (with_reducible first | assumption)); (case hI => (first | rfl | (simp only [mulL, addR, nI_add, pk_mul, nI_1]; rfl) | (simp (disch := omega) only [mulL, addR, subR, nI_add, pk_mul, pk_sub, nI_1]; rfl))); (case hB => (omega))) | ((with_reducible refine e_alJ (j := ?_) (n := ?_) ?hA ?hI ?hB ?_); (case hA => (with_reducible first | assumption)); (case hI => (first | rfl | (simp only [mulL, addR, nI_add, pk_mul, nI_1]; rfl) | (simp (disch := omega) only [mulL, addR, subR, nI_add, pk_mul, pk_sub, nI_1]; rfl))); (case hB => (omega))) | ((with_reducible refine e_alZ (j := ?_) (n := ?_) ?hA ?hI ?hB ?_); (case hA => (with_reducible first | assumption)); (case hI => (first | rfl | (simp only [mulL, addR, nI_add, pk_mul, nI_1]; rfl) | (simp (disch := omega) only [mulL, addR, subR, nI_add, pk_mul, pk_sub, nI_1]; rfl))); (case hB => (omega))) | ((with_reducible refine e_asI (j := ?_) (n := ?_) ?hA ?hI ?hB ?_); (case hA => (with_reducible first | assumption)); (case hI => (first | rfl | (simp only [mulL, addR, nI_add, pk_mul, nI_1]; rfl) | (simp (disch := omega) only [mulL, addR, subR, nI_add, pk_mul, pk_sub, nI_1]; rfl))); (case hB => (omega))) | ((with_reducible refine e_asJ (j := ?_) (n := ?_) ?hA ?hI ?hB ?_); (case hA => (with_reducible first | assumption)); (case hI => (first | rfl | (simp only [mulL, addR, nI_add, pk_mul, nI_1]; rfl) | (simp (disch := omega) only [mulL, addR, subR, nI_add, pk_mul, pk_sub, nI_1]; rfl))); (case hB => (omega))) | ((with_reducible refine e_nzI ?hZ ?_); (case hZ => (decide))) | ((with_reducible refine e_nzJ ?hZ ?_); (case hZ => (assumption))))
  refine e_bnd (c_isBeyond _ _) ?_
  sorry
/-! the model's fraction: above, below, isOver -/
def wA (m : vM) (p : Int64 × Int64) : vM := wJ (wJ m 322 23 p.1) 322 24 p.2
theorem m_lay {a b : Int64} (hN : 100 ≤ N) (hb : 0 < b.toInt) : F_X9_lay N 322 a b (S m) = some ((), S (wA m (red a b))) := by
  simp only [F_X9_lay, rcv, ldI, ldJ, ldR, stI, stZ, stJ, stR, alI, alJ, alZ, alR, asI, asJ, asZ, nm, isO_S, isA_S, gI_S, gJ_S, gR_S, setI_S, setJ_S, orN_s, bnd_s, if_true, if_false, ite_true, and_self, and_true, true_and, or_true, true_or, fmO, fmR0, fmA0, fmR1, fmA1, fmR2, fmA2, fmR3, fmA3, fmR4, fmA4, fmR6, fmA6, fmR8, fmA8, fmR9, fmA9, fmR10, fmA10, fmR11, fmA11, fmR12, fmA12, fmR14, fmA14, fmR17, fmA17, fmR18, fmA18, fmR19, fmA19, fmR20, fmA20, fmR21, fmA21, fmR22, fmA22, fmR26, fmA26, fmR27, fmA27, fmR28, fmA28, fmR31, fmA31, fmR32, fmA32, fmR33, fmA33, fmR34, fmA34, fmR36, fmA36, fmR38, fmA38, fmR39, fmA39, fmR40, fmA40, fmR41, fmA41, fmR42, fmA42, m_common a b hN, nzJ_l (fg_n0 hb)]
  rfl
/-- isOver, or not -/
def ov (o c : Prop) [Decidable o] [Decidable c] : Int32 := if o ∨ c then 1 else 0
theorem m_multiplied (a b : Int64) {o : Prop} [Decidable o] (ho : rI m 322 25 = b2 o) : ∃ m', F_X9_multiplied N 322 a b (S m) = some (a * b, S m') ∧ m' = wI m 322 25 (b2 (o ∨ ¬ fits (a.toInt * b.toInt))) := by
  refine ⟨_, ?_, rfl⟩
  have key : ∀ (c : Prop) [Decidable c], (c ↔ ¬ fits (a.toInt * b.toInt)) → J_X9_multiplied_41 N 322 (a * b) (b2 c) (S m) = some (a * b, S (wI m 322 25 (b2 (o ∨ ¬ fits (a.toInt * b.toInt))))) := by
    intro c _ hc
    simp only [J_X9_multiplied_41, J_X9_multiplied_61, J_X9_multiplied_56, rcv, ldI, ldJ, ldR, stI, stZ, stJ, stR, alI, alJ, alZ, alR, asI, asJ, asZ, nm, isO_S, isA_S, gI_S, gJ_S, gR_S, setI_S, setJ_S, orN_s, bnd_s, if_true, if_false, ite_true, and_self, and_true, true_and, or_true, true_or, fmO, fmR0, fmA0, fmR1, fmA1, fmR2, fmA2, fmR3, fmA3, fmR4, fmA4, fmR6, fmA6, fmR8, fmA8, fmR9, fmA9, fmR10, fmA10, fmR11, fmA11, fmR12, fmA12, fmR14, fmA14, fmR17, fmA17, fmR18, fmA18, fmR19, fmA19, fmR20, fmA20, fmR21, fmA21, fmR22, fmA22, fmR26, fmA26, fmR27, fmA27, fmR28, fmA28, fmR31, fmA31, fmR32, fmA32, fmR33, fmA33, fmR34, fmA34, fmR36, fmA36, fmR38, fmA38, fmR39, fmA39, fmR40, fmA40, fmR41, fmA41, fmR42, fmA42, ho, b2_if]
    have z1 : ((1 : Int32) = 0) = False := by simp
    by_cases h1 : o
    · rw [if_pos h1, b2_t (Or.inl h1)]
    · rw [if_neg h1]
      by_cases h2 : c
      · rw [if_pos h2, b2_t (Or.inr (hc.mp h2))]
      · rw [if_neg h2, b2_f (fun q => q.elim h1 (fun q => h2 (hc.mpr q)))]
  have k1 := key True
  have k0 := key False
  rw [b2_t trivial] at k1
  rw [b2_f (fun h => h)] at k0
  unfold F_X9_multiplied
  simp only [rcv, ldI, ldJ, ldR, stI, stZ, stJ, stR, alI, alJ, alZ, alR, asI, asJ, asZ, nm, isO_S, isA_S, gI_S, gJ_S, gR_S, setI_S, setJ_S, orN_s, bnd_s, if_true, if_false, ite_true, and_self, and_true, true_and, or_true, true_or, fmO, fmR0, fmA0, fmR1, fmA1, fmR2, fmA2, fmR3, fmA3, fmR4, fmA4, fmR6, fmA6, fmR8, fmA8, fmR9, fmA9, fmR10, fmA10, fmR11, fmA11, fmR12, fmA12, fmR14, fmA14, fmR17, fmA17, fmR18, fmA18, fmR19, fmA19, fmR20, fmA20, fmR21, fmA21, fmR22, fmA22, fmR26, fmA26, fmR27, fmA27, fmR28, fmA28, fmR31, fmA31, fmR32, fmA32, fmR33, fmA33, fmR34, fmA34, fmR36, fmA36, fmR38, fmA38, fmR39, fmA39, fmR40, fmA40, fmR41, fmA41, fmR42, fmA42, lg_cmp_ge, lg_cmp_le, lg_cmp_gt, lg_cmp_lt, lg_cmp_eq, J_X9_multiplied_40, J_X9_multiplied_36]
  by_cases ha : a = 0
  · rw [if_pos ha]
    exact k0 ⟨fun h => h.elim, fun h => h (by rw [ha]; show fits (0 * _); rw [Int.zero_mul]; exact fits_0)⟩
  · rw [if_neg ha, nzJ_l ha]
    have hmin : ∀ c : Int64, c = -9223372036854775808 → c.toInt = -2 ^ 63 := fun c h => by rw [h, min64]
    by_cases hs : a = -1 ∧ b = -9223372036854775808
    · have hnf : ¬ fits (a.toInt * b.toInt) := not_fits_min (by rw [hs.1]; rfl) (hmin b hs.2)
      by_cases hd : a * b / a = b
      · rw [if_pos hd, if_pos hs.1, if_pos hs.2]
        exact k1 ⟨fun _ => hnf, fun _ => trivial⟩
      · rw [if_neg hd]
        exact k1 ⟨fun _ => hnf, fun _ => trivial⟩
    · have ho2 := over64 (a := b) (b := a) ha hs
      rw [Int64.mul_comm b a, Int.mul_comm b.toInt] at ho2
      by_cases hd : a * b / a = b
      · rw [if_pos hd]
        have hf := ho2.mp hd
        have e : (if a = -1 then (if b = -9223372036854775808 then J_X9_multiplied_41 N 322 (a * b) 1 (S m) else J_X9_multiplied_41 N 322 (a * b) 0 (S m)) else J_X9_multiplied_41 N 322 (a * b) 0 (S m)) = J_X9_multiplied_41 N 322 (a * b) 0 (S m) := by
          by_cases q1 : a = -1
          · rw [if_pos q1, if_neg (fun q2 => hs ⟨q1, q2⟩)]
          · rw [if_neg q1]
        rw [e]
        exact k0 ⟨fun h => h.elim, fun h => h hf⟩
      · rw [if_neg hd]
        exact k1 ⟨fun _ h => hd (ho2.mpr h), fun _ => trivial⟩
end SUM1
