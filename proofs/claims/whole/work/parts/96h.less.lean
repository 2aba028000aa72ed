section UROWS
theorem u_J_X2_isLess_189 {N : Nat} {s : vS} : J_X2_isLess_189 N s = (rtZ (0 : Int32) s) := rfl
theorem u_J_X2_isLess_181 {N : Nat} {k20 : Int64 → Int64 → Int64 → Int64 → Int32 → Int32 → vS → Option (Int32 × vS)} {l8 : Int64} {l10 : Int64} {l12 : Int64} {l14 : Int64} {l17 : Int32} {k0 : Int32} {s : vS} : J_X2_isLess_181 N k20 l8 l10 l12 l14 l17 k0 s = (nm (l17 + (1 : Int32)) (fun l17_5 => k20 l8 l10 l12 l14 k0 l17_5 s)) := rfl
theorem u_J_X2_isLess_154 {N : Nat} {k0 : Int32} {s : vS} : J_X2_isLess_154 N k0 s = (rtZ k0 s) := rfl
theorem u_J_X2_isLess_153 {N : Nat} {s : vS} : J_X2_isLess_153 N s = (J_X2_isLess_154 N (0 : Int32) s) := rfl
theorem u_J_X2_isLess_144 {N : Nat} {l16 : Int32} {k0 : Int32} {s : vS} : J_X2_isLess_144 N l16 k0 s = (if k0 = l16 then (J_X2_isLess_153 N  s) else (J_X2_isLess_154 N (1 : Int32) s)) := rfl
theorem u_J_X2_isLess_124 {N : Nat} {l16 : Int32} {l22 : Int64} {l24 : Int64} {s : vS} : J_X2_isLess_124 N l16 l22 l24 s = (if (lg_cmp l22 l24) = (0 : Int32) then (J_X2_isLess_153 N  s) else (if (lg_cmp l22 (0 : Int64)) = (0 : Int32) then (J_X2_isLess_144 N l16 (1 : Int32) s) else (J_X2_isLess_144 N l16 (0 : Int32) s))) := rfl
theorem u_J_X2_isLess_91 {N : Nat} {k0 : Int32} {s : vS} : J_X2_isLess_91 N k0 s = (rtZ k0 s) := rfl
theorem u_J_X2_isLess_81 {N : Nat} {l16 : Int32} {k0 : Int32} {s : vS} : J_X2_isLess_81 N l16 k0 s = (if k0 = l16 then (J_X2_isLess_91 N (0 : Int32) s) else (J_X2_isLess_91 N (1 : Int32) s)) := rfl
theorem u_H_X2_isLess_20 {N : Nat} {n : Nat} {l8 : Int64} {l10 : Int64} {l12 : Int64} {l14 : Int64} {l16 : Int32} {l17 : Int32} {s : vS} : H_X2_isLess_20 N (n + 1) l8 l10 l12 l14 l16 l17 s = (if (200 : Int32) ≤ l17 then (J_X2_isLess_189 N  s) else (if (lg_cmp l10 (0 : Int64)) ≤ (0 : Int32) then (J_X2_isLess_189 N  s) else (if (lg_cmp l14 (0 : Int64)) ≤ (0 : Int32) then (J_X2_isLess_189 N  s) else (bnd (F_J9_floorDiv_f86c9 N l8 l10 s) (fun v1 s => bnd (F_J9_floorDiv_f86c9 N l12 l14 s) (fun v2 s => if (lg_cmp v1 v2) = (0 : Int32) then (bnd (F_J9_floorMod_f86c9 N l8 l10 s) (fun v3 s => bnd (F_J9_floorMod_f86c9 N l12 l14 s) (fun v4 s => if (lg_cmp v3 (0 : Int64)) = (0 : Int32) then (J_X2_isLess_124 N l16 v3 v4 s) else (if (lg_cmp v4 (0 : Int64)) = (0 : Int32) then (J_X2_isLess_124 N l16 v3 v4 s) else (if l16 = (0 : Int32) then (J_X2_isLess_181 N (H_X2_isLess_20 N n) l10 v3 l14 v4 l17 (1 : Int32) s) else (J_X2_isLess_181 N (H_X2_isLess_20 N n) l10 v3 l14 v4 l17 (0 : Int32) s)))))) else (if (0 : Int32) ≤ (lg_cmp v1 v2) then (J_X2_isLess_81 N l16 (0 : Int32) s) else (J_X2_isLess_81 N l16 (1 : Int32) s)))))))) := rfl
theorem u_F_X2_isLess {N : Nat} {l0 : Int64} {l2 : Int64} {l4 : Int64} {l6 : Int64} {s : vS} : F_X2_isLess N l0 l2 l4 l6 s = (H_X2_isLess_20 N N l0 l2 l4 l6 (0 : Int32) (0 : Int32) s) := rfl
theorem u_J_X9_isLess_174 {N : Nat} {k17 : Int64 → Int64 → Int64 → Int64 → Int32 → vS → Option (Int32 × vS)} {l8 : Int64} {l10 : Int64} {l12 : Int64} {l14 : Int64} {k0 : Int32} {s : vS} : J_X9_isLess_174 N k17 l8 l10 l12 l14 k0 s = (k17 l8 l10 l12 l14 k0 s) := rfl
theorem u_J_X9_isLess_147 {N : Nat} {k0 : Int32} {s : vS} : J_X9_isLess_147 N k0 s = (rtZ k0 s) := rfl
theorem u_J_X9_isLess_146 {N : Nat} {s : vS} : J_X9_isLess_146 N s = (J_X9_isLess_147 N (0 : Int32) s) := rfl
theorem u_J_X9_isLess_124 {N : Nat} {s : vS} : J_X9_isLess_124 N s = (J_X9_isLess_147 N (0 : Int32) s) := rfl
theorem u_J_X9_isLess_101 {N : Nat} {l16 : Int32} {l21 : Int64} {l23 : Int64} {s : vS} : J_X9_isLess_101 N l16 l21 l23 s = (if l16 = (0 : Int32) then (if (lg_cmp l21 (0 : Int64)) = (0 : Int32) then (if (lg_cmp l23 (0 : Int64)) = (0 : Int32) then (J_X9_isLess_146 N  s) else (J_X9_isLess_147 N (1 : Int32) s)) else (J_X9_isLess_146 N  s)) else (if (lg_cmp l21 (0 : Int64)) = (0 : Int32) then (J_X9_isLess_124 N  s) else (if (lg_cmp l23 (0 : Int64)) = (0 : Int32) then (J_X9_isLess_147 N (1 : Int32) s) else (J_X9_isLess_124 N  s)))) := rfl
theorem u_J_X9_isLess_66 {N : Nat} {k0 : Int32} {s : vS} : J_X9_isLess_66 N k0 s = (rtZ k0 s) := rfl
theorem u_J_X9_isLess_56 {N : Nat} {l16 : Int32} {k0 : Int32} {s : vS} : J_X9_isLess_56 N l16 k0 s = (if k0 = l16 then (J_X9_isLess_66 N (0 : Int32) s) else (J_X9_isLess_66 N (1 : Int32) s)) := rfl
theorem u_H_X9_isLess_17 {N : Nat} {n : Nat} {l8 : Int64} {l10 : Int64} {l12 : Int64} {l14 : Int64} {l16 : Int32} {s : vS} : H_X9_isLess_17 N (n + 1) l8 l10 l12 l14 l16 s = (bnd (F_J9_floorDiv_f86c9 N l8 l10 s) (fun v1 s => bnd (F_J9_floorDiv_f86c9 N l12 l14 s) (fun v2 s => if (lg_cmp v1 v2) = (0 : Int32) then (nm ((l8 - (v1 * l10))) (fun l21_3 => nm ((l12 - (v2 * l14))) (fun l23_4 => if (lg_cmp l21_3 (0 : Int64)) = (0 : Int32) then (J_X9_isLess_101 N l16 l21_3 l23_4 s) else (if (lg_cmp l23_4 (0 : Int64)) = (0 : Int32) then (J_X9_isLess_101 N l16 l21_3 l23_4 s) else (if l16 = (0 : Int32) then (J_X9_isLess_174 N (H_X9_isLess_17 N n) l10 l21_3 l14 l23_4 (1 : Int32) s) else (J_X9_isLess_174 N (H_X9_isLess_17 N n) l10 l21_3 l14 l23_4 (0 : Int32) s)))))) else (if (0 : Int32) ≤ (lg_cmp v1 v2) then (J_X9_isLess_56 N l16 (0 : Int32) s) else (J_X9_isLess_56 N l16 (1 : Int32) s))))) := rfl
theorem u_F_X9_isLess {N : Nat} {l0 : Int64} {l2 : Int64} {l4 : Int64} {l6 : Int64} {s : vS} : F_X9_isLess N l0 l2 l4 l6 s = (H_X9_isLess_17 N N l0 l2 l4 l6 (0 : Int32) s) := rfl
end UROWS
section LESS
variable {N : Nat} {m m' : vM} {s : vS}
theorem lq {a b : Int64} : lg_cmp a b = 0 ↔ a = b := by simp only [lg_cmp_eq]
theorem lgx {a b : Int64} : (0 : Int32) ≤ lg_cmp a b ↔ b ≤ a := by simp only [lg_cmp_ge]
theorem llx {a b : Int64} : lg_cmp a b ≤ 0 ↔ a ≤ b := by simp only [lg_cmp_le]
theorem xge (a b : Int64) : ((0 : Int64) ≤ a ^^^ b) ↔ (a.toInt < 0 ↔ b.toInt < 0) := by
  rw [← Int64.not_lt, lt0_msb, Int64.toBitVec_xor, BitVec.msb_xor, msb_i, msb_i]
  by_cases h1 : a.toInt < 0 <;> by_cases h2 : b.toInt < 0 <;> simp [h1, h2]
def fdv (a b : Int64) : Int64 := if (0 : Int32) ≤ lg_cmp (a ^^^ b) 0 then a / b else if lg_cmp (a / b * b) a = 0 then a / b else a / b - 1
def fmd (a b : Int64) : Int64 := if (0 : Int32) ≤ lg_cmp (a ^^^ b) 0 then a - a / b * b else if lg_cmp (a - a / b * b) 0 = 0 then a - a / b * b else a - a / b * b + b
theorem e_fdv {a b : Int64} (hb : ¬ b = 0) : F_J9_floorDiv_f86c9 N a b s = some (fdv a b, s) := by
  unfold F_J9_floorDiv_f86c9
  refine e_nzJ hb ?_
  refine e_nm ?_
  unfold fdv J_J9_floorDiv_f86c9_27
  repeat' split
  all_goals rfl
theorem e_fmd {a b : Int64} (hb : ¬ b = 0) : F_J9_floorMod_f86c9 N a b s = some (fmd a b, s) := by
  unfold F_J9_floorMod_f86c9
  refine e_nzJ hb ?_
  refine e_nm ?_
  unfold fmd J_J9_floorMod_f86c9_25
  repeat' split
  all_goals rfl
theorem sub_s (a t b : Int64) : a - (t - b) = a - t + b := by
  rw [Int64.sub_eq_add_neg a (t - b), Int64.neg_sub, Int64.sub_eq_add_neg b t, Int64.sub_eq_add_neg a t, Int64.add_assoc, Int64.add_comm b (-t)]
theorem sub_0 (a t : Int64) : a - t = 0 ↔ t = a := by
  constructor
  · intro h
    have h2 : a - t + t = 0 + t := by rw [h]
    rw [Int64.sub_add_cancel, Int64.zero_add] at h2
    exact h2.symm
  · intro h
    rw [h, Int64.sub_self]
theorem fmd_eq (a b : Int64) : fmd a b = a - fdv a b * b := by
  unfold fmd fdv
  by_cases c1 : (0 : Int32) ≤ lg_cmp (a ^^^ b) 0
  · rw [if_pos c1, if_pos c1]
  · rw [if_neg c1, if_neg c1]
    by_cases c2 : a / b * b = a
    · rw [if_pos (lq.mpr ((sub_0 _ _).mpr c2)), if_pos (lq.mpr c2)]
    · rw [if_neg (fun w => c2 ((sub_0 _ _).mp (lq.mp w))), if_neg (fun w => c2 (lq.mp w)), Int64.sub_mul, Int64.one_mul, sub_s]
theorem fmd_int {a b : Int64} (hb : 0 < b.toInt) : (fmd a b).toInt = a.toInt % b.toInt := by
  have hb0 := pos64 hb
  have hr := rem64 a b hb0
  have he := Int.emod_nonneg a.toInt (show b.toInt ≠ 0 by omega)
  have hl := Int.emod_lt_of_pos a.toInt hb
  have ht := Int.tmod_eq_emod (a := a.toInt) (b := b.toInt)
  unfold fmd
  by_cases c1 : (0 : Int32) ≤ lg_cmp (a ^^^ b) 0
  · have ha : 0 ≤ a.toInt := by
      have := (xge a b).mp (lgx.mp c1)
      omega
    rw [if_pos c1, hr, ht, if_pos (Or.inl ha)]
    exact Int.sub_zero _
  · have ha : a.toInt < 0 := by
      have : ¬ (a.toInt < 0 ↔ b.toInt < 0) := fun w => c1 (lgx.mpr ((xge a b).mpr w))
      omega
    rw [if_neg c1]
    by_cases c2 : a - a / b * b = 0
    · rw [if_pos (lq.mpr c2), c2]
      rw [c2] at hr
      have hr : (0 : Int) = a.toInt.tmod b.toInt := hr
      show (0 : Int) = _
      by_cases d : b.toInt ∣ a.toInt
      · exact (Int.emod_eq_zero_of_dvd d).symm
      · rw [if_neg (fun w => w.elim (fun w => by omega) d)] at ht
        omega
    · rw [if_neg (fun w => c2 (lq.mp w))]
      have hne : a.toInt.tmod b.toInt ≠ 0 := fun w => c2 (Int64.toInt_inj.mp (by rw [hr, w]; rfl))
      have d : ¬ b.toInt ∣ a.toInt := fun w => hne (Int.tmod_eq_zero_of_dvd w)
      rw [if_neg (fun w => w.elim (fun w => by omega) d)] at ht
      have hbi := fit0_i b
      unfold fit0 at hbi
      have hab : (b.toInt.natAbs : Int) = b.toInt := by omega
      rw [hab] at ht
      rw [Int64.toInt_add, hr, bm_fit0 (by unfold fit0; omega)]
      omega
section MAIN
def LsP (N : Nat) (k x y : Nat) : Prop := ∀ (a b c d : Int64) (q : Bool) (i n n' : Nat), 0 < b.toInt → 0 < d.toInt → b.toInt = (y : Int) → a.toInt % (y : Int) = ((x % y : Nat) : Int) → k + i ≤ 150 → k < n → k < n' → ∃ v, ∀ s : vS, H_X2_isLess_20 N n a b c d (if q = true then 1 else 0) (nI i) s = some (v, s) ∧ H_X9_isLess_17 N n' a b c d (if q = true then 1 else 0) s = some (v, s)
theorem less_ind : ∀ k x y, y < fb k → LsP N k x y := by
  refine euclid_ind (LsP N) ?_ ?_
  · intro k x a b c d q i n n' hb hd hy
    omega
  · intro k x y hy ih a b c d q i n n' hb hd hby hax hki hn hn'
    obtain ⟨n1, rfl⟩ : ∃ n1, n = n1 + 1 := ⟨n - 1, by omega⟩
    obtain ⟨n2, rfl⟩ : ∃ n2, n' = n2 + 1 := ⟨n' - 1, by omega⟩
    have b0 := pos64 hb
    have d0 := pos64 hd
    have nb : ¬ lg_cmp b 0 ≤ 0 := fun w => by
      have := llx.mp w
      rw [Int64.le_iff_toInt_le] at this
      have : b.toInt ≤ 0 := this
      omega
    have nd : ¬ lg_cmp d 0 ≤ 0 := fun w => by
      have := llx.mp w
      rw [Int64.le_iff_toInt_le] at this
      have : d.toInt ≤ 0 := this
      omega
    have startC : ∀ (s : vS) R, (if (lg_cmp (fdv a b) (fdv c d)) = (0 : Int32) then (if (lg_cmp (fmd a b) (0 : Int64)) = (0 : Int32) then (J_X2_isLess_124 N (if q = true then 1 else 0) (fmd a b) (fmd c d) s) else (if (lg_cmp (fmd c d) (0 : Int64)) = (0 : Int32) then (J_X2_isLess_124 N (if q = true then 1 else 0) (fmd a b) (fmd c d) s) else (if (if q = true then (1 : Int32) else 0) = (0 : Int32) then (J_X2_isLess_181 N (H_X2_isLess_20 N n1) b (fmd a b) d (fmd c d) (nI i) (1 : Int32) s) else (J_X2_isLess_181 N (H_X2_isLess_20 N n1) b (fmd a b) d (fmd c d) (nI i) (0 : Int32) s)))) else (if (0 : Int32) ≤ (lg_cmp (fdv a b) (fdv c d)) then (J_X2_isLess_81 N (if q = true then 1 else 0) (0 : Int32) s) else (J_X2_isLess_81 N (if q = true then 1 else 0) (1 : Int32) s))) = R → H_X2_isLess_20 N (n1 + 1) a b c d (if q = true then 1 else 0) (nI i) s = R := fun s R hR => by
      refine Eq.trans u_H_X2_isLess_20 ?_
      refine e_f (by rw [leL (by decide) (by omega)]; show ¬ 200 ≤ i; omega) ?_
      refine e_f nb ?_
      refine e_f nd ?_
      refine e_bnd (e_fdv b0) ?_
      refine e_bnd (e_fdv d0) ?_
      by_cases w : (lg_cmp (fdv a b) (fdv c d)) = (0 : Int32)
      · rw [if_pos w] at hR
        refine e_t w ?_
        refine e_bnd (e_fmd b0) ?_
        refine e_bnd (e_fmd d0) ?_
        exact hR
      · rw [if_neg w] at hR
        exact e_f w hR
    have startM : ∀ (s : vS) R, (if (lg_cmp (fdv a b) (fdv c d)) = (0 : Int32) then (if (lg_cmp (fmd a b) (0 : Int64)) = (0 : Int32) then (J_X9_isLess_101 N (if q = true then 1 else 0) (fmd a b) (fmd c d) s) else (if (lg_cmp (fmd c d) (0 : Int64)) = (0 : Int32) then (J_X9_isLess_101 N (if q = true then 1 else 0) (fmd a b) (fmd c d) s) else (if (if q = true then (1 : Int32) else 0) = (0 : Int32) then (J_X9_isLess_174 N (H_X9_isLess_17 N n2) b (fmd a b) d (fmd c d) (1 : Int32) s) else (J_X9_isLess_174 N (H_X9_isLess_17 N n2) b (fmd a b) d (fmd c d) (0 : Int32) s)))) else (if (0 : Int32) ≤ (lg_cmp (fdv a b) (fdv c d)) then (J_X9_isLess_56 N (if q = true then 1 else 0) (0 : Int32) s) else (J_X9_isLess_56 N (if q = true then 1 else 0) (1 : Int32) s))) = R → H_X9_isLess_17 N (n2 + 1) a b c d (if q = true then 1 else 0) s = R := fun s R hR => by
      refine Eq.trans u_H_X9_isLess_17 ?_
      refine e_bnd (e_fdv b0) ?_
      refine e_bnd (e_fdv d0) ?_
      by_cases w : (lg_cmp (fdv a b) (fdv c d)) = (0 : Int32)
      · rw [if_pos w] at hR
        refine e_t w ?_
        refine e_nm ?_
        refine e_nm ?_
        rw [← fmd_eq, ← fmd_eq]
        exact hR
      · rw [if_neg w] at hR
        exact e_f w hR
    by_cases w : (lg_cmp (fdv a b) (fdv c d)) = (0 : Int32)
    · by_cases z1 : fmd a b = 0
      · by_cases z2 : fmd c d = 0
        · refine ⟨0, fun s => ⟨startC s _ ?_, startM s _ ?_⟩⟩
          · rw [if_pos w, if_pos (lq.mpr z1), z1, z2]
            rfl
          · rw [if_pos w, if_pos (lq.mpr z1), z1, z2]
            cases q <;> rfl
        · refine ⟨if q = true then 0 else 1, fun s => ⟨startC s _ ?_, startM s _ ?_⟩⟩
          · rw [if_pos w, if_pos (lq.mpr z1), z1]
            unfold J_X2_isLess_124
            rw [if_neg (fun v => z2 (lq.mp v).symm), if_pos (lq.mpr rfl)]
            cases q <;> rfl
          · rw [if_pos w, if_pos (lq.mpr z1), z1]
            unfold J_X9_isLess_101
            cases q with
            | false =>
              rw [if_pos (by decide), if_pos (lq.mpr rfl), if_neg (fun v => z2 (lq.mp v))]
              rfl
            | true =>
              rw [if_neg (by decide), if_pos (lq.mpr rfl)]
              rfl
      · by_cases z2 : fmd c d = 0
        · refine ⟨if q = true then 1 else 0, fun s => ⟨startC s _ ?_, startM s _ ?_⟩⟩
          · rw [if_pos w, if_neg (fun v => z1 (lq.mp v)), if_pos (lq.mpr z2), z2]
            unfold J_X2_isLess_124
            rw [if_neg (fun v => z1 (lq.mp v)), if_neg (fun v => z1 (lq.mp v))]
            cases q <;> rfl
          · rw [if_pos w, if_neg (fun v => z1 (lq.mp v)), if_pos (lq.mpr z2), z2]
            unfold J_X9_isLess_101
            cases q with
            | false =>
              rw [if_pos (by decide), if_neg (fun v => z1 (lq.mp v))]
              rfl
            | true =>
              rw [if_neg (by decide), if_neg (fun v => z1 (lq.mp v)), if_pos (lq.mpr rfl)]
              rfl
        · have r1 := fmd_int (a := a) hb
          have r2 := fmd_int (a := c) hd
          have p1 := Int.emod_nonneg a.toInt (show b.toInt ≠ 0 by omega)
          have p2 := Int.emod_nonneg c.toInt (show d.toInt ≠ 0 by omega)
          have q1 : (fmd a b).toInt ≠ 0 := fun v => z1 (Int64.toInt_inj.mp v)
          have q2 : (fmd c d).toInt ≠ 0 := fun v => z2 (Int64.toInt_inj.mp v)
          obtain ⟨v, hv⟩ := ih b (fmd a b) d (fmd c d) (!q) (i + 1) n1 n2 (by omega) (by omega) (by rw [r1, hby]; exact hax) (by rw [hby]; exact (Int.natCast_emod _ _).symm) (by omega) (by omega) (by omega)
          refine ⟨v, fun s => ⟨startC s _ ?_, startM s _ ?_⟩⟩
          · rw [if_pos w, if_neg (fun v => z1 (lq.mp v)), if_neg (fun v => z2 (lq.mp v))]
            have h1 := (hv s).1
            rw [← addR] at h1
            cases q with
            | false =>
              rw [if_pos (by decide)]
              exact h1
            | true =>
              rw [if_neg (by decide)]
              exact h1
          · rw [if_pos w, if_neg (fun v => z1 (lq.mp v)), if_neg (fun v => z2 (lq.mp v))]
            have h1 := (hv s).2
            cases q with
            | false =>
              rw [if_pos (by decide)]
              exact h1
            | true =>
              rw [if_neg (by decide)]
              exact h1
    · by_cases w2 : (0 : Int32) ≤ (lg_cmp (fdv a b) (fdv c d))
      · refine ⟨if q = true then 1 else 0, fun s => ⟨startC s _ ?_, startM s _ ?_⟩⟩
        · rw [if_neg w, if_pos w2]
          cases q <;> rfl
        · rw [if_neg w, if_pos w2]
          cases q <;> rfl
      · refine ⟨if q = true then 0 else 1, fun s => ⟨startC s _ ?_, startM s _ ?_⟩⟩
        · rw [if_neg w, if_neg w2]
          cases q <;> rfl
        · rw [if_neg w, if_neg w2]
          cases q <;> rfl
theorem less_ex (hN : 1000 ≤ N) {a b c d : Int64} (hb : 0 < b.toInt) (hd : 0 < d.toInt) : ∃ v, ∀ s : vS, F_X2_isLess N a b c d s = some (v, s) ∧ F_X9_isLess N a b c d s = some (v, s) := by
  have hbl := ab_lt b
  have p1 := Int.emod_nonneg a.toInt (show b.toInt ≠ 0 by omega)
  have p2 := Int.emod_lt_of_pos a.toInt hb
  have hb1 : b.toInt = (b.toInt.toNat : Int) := by omega
  obtain ⟨v, hv⟩ := less_ind (N := N) 91 (a.toInt % b.toInt).toNat b.toInt.toNat (by unfold ab at hbl; omega) a b c d false 0 N N hb hd hb1 (by
    rw [← hb1, Nat.mod_eq_of_lt (by omega)]
    omega) (by omega) (by omega) (by omega)
  refine ⟨v, fun s => ⟨?_, ?_⟩⟩
  · unfold F_X2_isLess
    exact (hv s).1
  · unfold F_X9_isLess
    exact (hv s).2
end MAIN
end LESS
