theorem k_X1_init {X : VX} {cc : ByteArray} {own : String} {nL fr lo : Nat} {ini : Bool} {E : VX → Prop} {sF s : vS} {ρ : Type} {res : ρ} {pc : Nat} {ls : Array Slot} {rest : List Value} {N index : Nat} {a0 : Nat} {l1 : Int32} {l2 : Int32} {f : Unit → vS → Option ρ} (h : bnd (F_X1_init N a0 l1 l2 s) f = some res) (hlink : Cond.methodLink own index yX1_init ∈ TT) (hR : 4 + 1 ≤ fr ∧ 8 + (5 + 11) + 100 ≤ lo) (hls : ls.size = nL) (hr : (rest.map fun v => v.category).sum ≤ 8) (hdg : decode cc pc = .ok (.invokespecial index, 3)) (kk : ∀ r s', f r s' = some res → V X (cc, own, nL, fr, lo, ini) E sF s' (G0 X (pc + 3) ls (rest))) : V X (cc, own, nL, fr, lo, ini) E sF s (G0 X pc ls (.int l2 :: .int l1 :: .ref (xb X + a0) :: rest)) := by
  obtain ⟨r, s', e, h⟩ := bnd_some h
  exact v_callI (b := a0) (As := [.int l1, .int l2]) (rest := rest) (c_X1_init X N a0 l1 l2 s s' r e).2 rfl vl_X1_init qi_X1_init hlink hR rfl rfl hls hr hdg (kk r s' h)
set_option maxHeartbeats 4000000 in
set_option maxRecDepth 100000 in
theorem L_X1_has_17 {X : VX} {sF : vS} {r : Int32} (N : Nat) (k0 : Int32) (s : vS) (ls : Array Slot) (hl : lv_has ls 2 []) (h : J_X1_has_17 N k0 s = some (r, sF)) : V X (cX1_has, RX1, 2, 0, 0, false) (vRet sF (some (.int r)) (some .boolean)) sF s (G0 X 17 ls [.int k0]) := by
  unfold J_X1_has_17 at h
  exact v_zret dX1_has_17 h
set_option maxHeartbeats 4000000 in
set_option maxRecDepth 100000 in
theorem L_X1_has_16 {X : VX} {sF : vS} {r : Int32} (N : Nat) (s : vS) (ls : Array Slot) (hl : lv_has ls 2 []) (h : J_X1_has_16 N  s = some (r, sF)) : V X (cX1_has, RX1, 2, 0, 0, false) (vRet sF (some (.int r)) (some .boolean)) sF s (G0 X 16 ls []) := by
  unfold J_X1_has_16 at h
  refine v_iconst (0 : Int32) dX1_has_16 (by decide) ?_
  exact L_X1_has_17 N (0 : Int32) s ls (lv_sub hl [] rfl) h
theorem vl_X1_has : vCl yX1_has cX1_has 2 (some .boolean) 1 := ⟨qy_X1_has, qjX1, by decide +kernel, by decide +kernel, by decide +kernel⟩
set_option maxHeartbeats 4000000 in
set_option maxRecDepth 100000 in
theorem c_X1_has {l : Launch} {D : va_G} {ka : Nat → ClassId} (X0 : VX) (N : Nat) (a0 : Nat) (l1 : Int32) (s sF : vS) (r : Int32) (h : F_X1_has N a0 l1 s = some (r, sF)) : isO s a0 1 = true ∧ vMet l D ka (xb X0) yX1_has cX1_has 2 (some .boolean) 0 0 [.ref (xb X0 + a0), .int l1] s sF (some (.int r)) := by
  unfold F_X1_has at h
  unfold rcv at h
  obtain ⟨hO, h⟩ := v_chk h
  refine ⟨hO, vMet.of (ini := false) X0 (plainFor_of_name (by decide +kernel)) (Nat.le_of_ble_eq_true rfl) (fun h => by cases h) (fun X ls hb hl => ?_) rfl⟩
  show V X (cX1_has, RX1, 2, 0, 0, false) (vRet sF (some (.int r)) (some .boolean)) sF s (G0 X 0 ls [])
  rw [← hb] at hl
  have hl : lv_has ls 2 [(0, .ref (xb X + a0)), (1, .int l1)] := hl
  refine v_iload_n dX1_has_0 rfl (lv_at hl 1 rfl) ?_
  refine v_if_lt 16 dX1_has_1 (by decide) h (fun h => ?_) (fun h => ?_)
  · exact L_X1_has_16 N  s ls (lv_sub hl [] rfl) h
  · refine v_iload_n dX1_has_4 rfl (lv_at hl 1 rfl) ?_
    refine v_aload_n dX1_has_5 rfl (lv_at hl 0 rfl) ?_
    refine v_getI 1 2 h (by decide) (Or.inl rfl) qfX1_35 dX1_has_6 (fun v1 h => ?_)
    refine v_icmp_ge 16 dX1_has_9 (by decide) h (fun h => ?_) (fun h => ?_)
    · exact L_X1_has_16 N  s ls (lv_sub hl [] rfl) h
    · refine v_iconst (1 : Int32) dX1_has_12 (by decide) ?_
      refine v_goto 17 dX1_has_13 (by decide) ?_
      exact L_X1_has_17 N (1 : Int32) s ls (lv_sub hl [] rfl) h
theorem k_X1_has {X : VX} {cc : ByteArray} {own : String} {nL fr lo : Nat} {ini : Bool} {E : VX → Prop} {sF s : vS} {ρ : Type} {res : ρ} {pc : Nat} {ls : Array Slot} {rest : List Value} {N index : Nat} {a0 : Nat} {l1 : Int32} {f : Int32 → vS → Option ρ} (h : bnd (F_X1_has N a0 l1 s) f = some res) (hlink : Cond.methodLink own index yX1_has ∈ TT) (hR : 0 + 1 ≤ fr ∧ 8 + (2 + 11) + 0 ≤ lo) (hls : ls.size = nL) (hr : (rest.map fun v => v.category).sum ≤ 8) (hdg : decode cc pc = .ok (.invokevirtual index, 3)) (kk : ∀ r s', f r s' = some res → V X (cc, own, nL, fr, lo, ini) E sF s' (G0 X (pc + 3) ls (.int r :: rest))) : V X (cc, own, nL, fr, lo, ini) E sF s (G0 X pc ls (.int l1 :: .ref (xb X + a0) :: rest)) := by
  obtain ⟨r, s', e, h⟩ := bnd_some h
  exact v_callV (b := a0) (ci := 1) (As := [.int l1]) (rest := rest) (c_X1_has X N a0 l1 s s' r e).2 (c_X1_has (l := xl X) (D := xD X) (ka := xka X) X N a0 l1 s s' r e).1 rfl vl_X1_has qi_X1_has qe_X1_has hlink hR rfl rfl hls hr hdg (kk r s' h)
set_option maxHeartbeats 4000000 in
set_option maxRecDepth 100000 in
theorem L_X1_manyOf_27 {X : VX} {sF : vS} {r : Int32} (N : Nat) (k0 : Int32) (s : vS) (ls : Array Slot) (hl : lv_has ls 2 []) (h : J_X1_manyOf_27 N k0 s = some (r, sF)) : V X (cX1_manyOf, RX1, 2, 1, 21, false) (vRet sF (some (.int r)) (some .int)) sF s (G0 X 27 ls [.int k0]) := by
  unfold J_X1_manyOf_27 at h
  exact v_iret dX1_manyOf_27 h
theorem vl_X1_manyOf : vCl yX1_manyOf cX1_manyOf 2 (some .int) 1 := ⟨qy_X1_manyOf, qjX1, by decide +kernel, by decide +kernel, by decide +kernel⟩
set_option maxHeartbeats 4000000 in
set_option maxRecDepth 100000 in
theorem c_X1_manyOf {l : Launch} {D : va_G} {ka : Nat → ClassId} (X0 : VX) (N : Nat) (a0 : Nat) (l1 : Int32) (s sF : vS) (r : Int32) (h : F_X1_manyOf N a0 l1 s = some (r, sF)) : isO s a0 1 = true ∧ vMet l D ka (xb X0) yX1_manyOf cX1_manyOf 2 (some .int) 1 21 [.ref (xb X0 + a0), .int l1] s sF (some (.int r)) := by
  unfold F_X1_manyOf at h
  unfold rcv at h
  obtain ⟨hO, h⟩ := v_chk h
  refine ⟨hO, vMet.of (ini := false) X0 (plainFor_of_name (by decide +kernel)) (Nat.le_of_ble_eq_true rfl) (fun h => by cases h) (fun X ls hb hl => ?_) rfl⟩
  show V X (cX1_manyOf, RX1, 2, 1, 21, false) (vRet sF (some (.int r)) (some .int)) sF s (G0 X 0 ls [])
  rw [← hb] at hl
  have hl : lv_has ls 2 [(0, .ref (xb X + a0)), (1, .int l1)] := hl
  refine v_aload_n dX1_manyOf_0 rfl (lv_at hl 0 rfl) ?_
  refine v_iload_n dX1_manyOf_1 rfl (lv_at hl 1 rfl) ?_
  refine k_X1_hasSize h qmX1_74 (by decide) hl.1 (Nat.le_of_ble_eq_true rfl) dX1_manyOf_2 (fun v1 s h => ?_)
  refine v_if_eq 26 dX1_manyOf_5 (by decide) h (fun h => ?_) (fun h => ?_)
  · refine v_iconst (0 : Int32) dX1_manyOf_26 (by decide) ?_
    exact L_X1_manyOf_27 N (0 : Int32) s ls (lv_sub hl [] rfl) h
  · refine v_aload_n dX1_manyOf_8 rfl (lv_at hl 0 rfl) ?_
    refine v_getR 1 6 h (by decide) rfl qfX1_9 dX1_manyOf_9 (fun r2 h => ?_)
    refine v_iload_n dX1_manyOf_12 rfl (lv_at hl 1 rfl) ?_
    refine v_iconst (1 : Int32) dX1_manyOf_13 (by decide) ?_
    refine v_iadd dX1_manyOf_14 ?_
    refine v_iald dX1_manyOf_15 h (fun v3 h => ?_)
    refine v_aload_n dX1_manyOf_16 rfl (lv_at hl 0 rfl) ?_
    refine v_getR 1 6 h (by decide) rfl qfX1_9 dX1_manyOf_17 (fun r4 h => ?_)
    refine v_iload_n dX1_manyOf_20 rfl (lv_at hl 1 rfl) ?_
    refine v_iald dX1_manyOf_21 h (fun v5 h => ?_)
    refine v_isub dX1_manyOf_22 ?_
    refine v_goto 27 dX1_manyOf_23 (by decide) ?_
    exact L_X1_manyOf_27 N (v3 - v5) s ls (lv_sub hl [] rfl) h
theorem k_X1_manyOf {X : VX} {cc : ByteArray} {own : String} {nL fr lo : Nat} {ini : Bool} {E : VX → Prop} {sF s : vS} {ρ : Type} {res : ρ} {pc : Nat} {ls : Array Slot} {rest : List Value} {N index : Nat} {a0 : Nat} {l1 : Int32} {f : Int32 → vS → Option ρ} (h : bnd (F_X1_manyOf N a0 l1 s) f = some res) (hlink : Cond.methodLink own index yX1_manyOf ∈ TT) (hR : 1 + 1 ≤ fr ∧ 8 + (2 + 11) + 21 ≤ lo) (hls : ls.size = nL) (hr : (rest.map fun v => v.category).sum ≤ 8) (hdg : decode cc pc = .ok (.invokevirtual index, 3)) (kk : ∀ r s', f r s' = some res → V X (cc, own, nL, fr, lo, ini) E sF s' (G0 X (pc + 3) ls (.int r :: rest))) : V X (cc, own, nL, fr, lo, ini) E sF s (G0 X pc ls (.int l1 :: .ref (xb X + a0) :: rest)) := by
  obtain ⟨r, s', e, h⟩ := bnd_some h
  exact v_callV (b := a0) (ci := 1) (As := [.int l1]) (rest := rest) (c_X1_manyOf X N a0 l1 s s' r e).2 (c_X1_manyOf (l := xl X) (D := xD X) (ka := xka X) X N a0 l1 s s' r e).1 rfl vl_X1_manyOf qi_X1_manyOf qe_X1_manyOf hlink hR rfl rfl hls hr hdg (kk r s' h)
set_option maxHeartbeats 4000000 in
set_option maxRecDepth 100000 in
theorem L_X1_symmetriesOf_71 {X : VX} {sF : vS} {r : Int32} (N : Nat) (k14 : Nat → Int32 → Int32 → Nat → Int32 → Int32 → vS → Option (Int32 × vS)) (hk14 : ∀ (a0 : Nat) (l1 : Int32) (l2 : Int32) (a3 : Nat) (l4 : Int32) (l5 : Int32) (s : vS) (ls : Array Slot), lv_has ls 7 [(0, .ref (xb X + a0)), (1, .int l1), (2, .int l2), (3, .ref (xb X + a3)), (4, .int l4), (5, .int l5)] → k14 a0 l1 l2 a3 l4 l5 s = some (r, sF) → V X (cX1_symmetriesOf, RX1, 7, 2, 48, false) (vRet sF (some (.int r)) (some .int)) sF s (G0 X 14 ls [])) (a0 : Nat) (l1 : Int32) (l2 : Int32) (a3 : Nat) (l4 : Int32) (l5 : Int32) (s : vS) (ls : Array Slot) (hl : lv_has ls 7 [(0, .ref (xb X + a0)), (1, .int l1), (2, .int l2), (3, .ref (xb X + a3)), (4, .int l4), (5, .int l5)]) (h : J_X1_symmetriesOf_71 N k14 a0 l1 l2 a3 l4 l5 s = some (r, sF)) : V X (cX1_symmetriesOf, RX1, 7, 2, 48, false) (vRet sF (some (.int r)) (some .int)) sF s (G0 X 71 ls []) := by
  unfold J_X1_symmetriesOf_71 at h
  refine v_inc (fun z => [(5, .int z), (0, .ref (xb X + a0)), (1, .int l1), (2, .int l2), (3, .ref (xb X + a3)), (4, .int l4)]) dX1_symmetriesOf_71 h hl (k := 5) rfl (by rfl) (by decide) (fun _ => rfl) (fun l5_15 ls hl h => ?_)
  refine v_goto 14 dX1_symmetriesOf_74 (by decide) ?_
  exact hk14 a0 l1 l2 a3 l4 l5_15 s ls (lv_sub hl [1, 2, 3, 4, 5, 0] rfl) h
set_option maxHeartbeats 4000000 in
set_option maxRecDepth 100000 in
theorem L_X1_symmetriesOf_14 {X : VX} {sF : vS} {r : Int32} (N : Nat) : ∀ (n : Nat) (a0 : Nat) (l1 : Int32) (l2 : Int32) (a3 : Nat) (l4 : Int32) (l5 : Int32) (s : vS) (ls : Array Slot), lv_has ls 7 [(0, .ref (xb X + a0)), (1, .int l1), (2, .int l2), (3, .ref (xb X + a3)), (4, .int l4), (5, .int l5)] → H_X1_symmetriesOf_14 N n a0 l1 l2 a3 l4 l5 s = some (r, sF) → V X (cX1_symmetriesOf, RX1, 7, 2, 48, false) (vRet sF (some (.int r)) (some .int)) sF s (G0 X 14 ls []) := by
  intro n
  induction n with
  | zero => intro a0 l1 l2 a3 l4 l5 s ls hl h; cases h
  | succ n ih =>
   intro a0 l1 l2 a3 l4 l5 s ls hl h
   unfold H_X1_symmetriesOf_14 at h
   refine v_iload dX1_symmetriesOf_14 (lv_at hl 5 rfl) ?_
   refine v_iload dX1_symmetriesOf_16 (lv_at hl 4 rfl) ?_
   refine v_icmp_ge 77 dX1_symmetriesOf_18 (by decide) h (fun h => ?_) (fun h => ?_)
   · refine v_iload_n dX1_symmetriesOf_77 rfl (lv_at hl 2 rfl) ?_
     exact v_iret dX1_symmetriesOf_78 h
   · refine v_aload_n dX1_symmetriesOf_21 rfl (lv_at hl 3 rfl) ?_
     refine v_iload dX1_symmetriesOf_22 (lv_at hl 5 rfl) ?_
     refine v_iald dX1_symmetriesOf_24 h (fun v3 h => ?_)
     refine v_istore [(6, .int v3), (0, .ref (xb X + a0)), (1, .int l1), (2, .int l2), (3, .ref (xb X + a3)), (4, .int l4), (5, .int l5)] dX1_symmetriesOf_25 hl (by decide) rfl (fun ls hl => ?_)
     refine v_aload_n dX1_symmetriesOf_27 rfl (lv_at hl 1 rfl) ?_
     refine v_iload dX1_symmetriesOf_28 (lv_at hl 0 rfl) ?_
     refine v_aload_n dX1_symmetriesOf_30 rfl (lv_at hl 1 rfl) ?_
     refine v_getR 1 3 h (by decide) rfl qfX1_41 dX1_symmetriesOf_31 (fun r4 h => ?_)
     refine v_iload_n dX1_symmetriesOf_34 rfl (lv_at hl 2 rfl) ?_
     refine v_iald dX1_symmetriesOf_35 h (fun v5 h => ?_)
     refine k_X1_suits h qmX1_86 (by decide) hl.1 (Nat.le_of_ble_eq_true rfl) dX1_symmetriesOf_36 (fun v6 s h => ?_)
     refine v_if_eq 71 dX1_symmetriesOf_39 (by decide) h (fun h => ?_) (fun h => ?_)
     · exact L_X1_symmetriesOf_71 N (H_X1_symmetriesOf_14 N n) ih a0 l1 l2 a3 l4 l5 s ls (lv_sub hl [1, 2, 3, 4, 5, 6] rfl) h
     · refine v_aload_n dX1_symmetriesOf_42 rfl (lv_at hl 1 rfl) ?_
       refine v_getR 1 3 h (by decide) rfl qfX1_41 dX1_symmetriesOf_43 (fun r7 h => ?_)
       refine v_iload_n dX1_symmetriesOf_46 rfl (lv_at hl 2 rfl) ?_
       refine v_iald dX1_symmetriesOf_47 h (fun v8 h => ?_)
       refine v_aload_n dX1_symmetriesOf_48 rfl (lv_at hl 1 rfl) ?_
       refine v_getR 1 4 h (by decide) rfl qfX1_44 dX1_symmetriesOf_49 (fun r9 h => ?_)
       refine v_iload_n dX1_symmetriesOf_52 rfl (lv_at hl 2 rfl) ?_
       refine v_iald dX1_symmetriesOf_53 h (fun v10 h => ?_)
       refine v_iload dX1_symmetriesOf_54 (lv_at hl 0 rfl) ?_
       refine k_X1_renamed h qmX1_90 (by decide) hl.1 (Nat.le_of_ble_eq_true rfl) dX1_symmetriesOf_56 (fun v11 s h => ?_)
       refine v_aload_n dX1_symmetriesOf_59 rfl (lv_at hl 1 rfl) ?_
       refine v_getR 1 4 h (by decide) rfl qfX1_44 dX1_symmetriesOf_60 (fun r12 h => ?_)
       refine v_iload_n dX1_symmetriesOf_63 rfl (lv_at hl 2 rfl) ?_
       refine v_iald dX1_symmetriesOf_64 h (fun v13 h => ?_)
       refine v_icmp_ne 71 dX1_symmetriesOf_65 (by decide) h (fun h => ?_) (fun h => ?_)
       · exact L_X1_symmetriesOf_71 N (H_X1_symmetriesOf_14 N n) ih a0 l1 l2 a3 l4 l5 s ls (lv_sub hl [1, 2, 3, 4, 5, 6] rfl) h
       · refine v_inc (fun z => [(2, .int z), (6, .int v3), (0, .ref (xb X + a0)), (1, .int l1), (3, .ref (xb X + a3)), (4, .int l4), (5, .int l5)]) dX1_symmetriesOf_68 h hl (k := 3) rfl (by rfl) (by decide) (fun _ => rfl) (fun l2_14 ls hl h => ?_)
         exact L_X1_symmetriesOf_71 N (H_X1_symmetriesOf_14 N n) ih a0 l1 l2_14 a3 l4 l5 s ls (lv_sub hl [2, 3, 0, 4, 5, 6] rfl) h
theorem vl_X1_symmetriesOf : vCl yX1_symmetriesOf cX1_symmetriesOf 7 (some .int) 1 := ⟨qy_X1_symmetriesOf, qjX1, by decide +kernel, by decide +kernel, by decide +kernel⟩
set_option maxHeartbeats 4000000 in
set_option maxRecDepth 100000 in
theorem c_X1_symmetriesOf {l : Launch} {D : va_G} {ka : Nat → ClassId} (X0 : VX) (N : Nat) (a0 : Nat) (l1 : Int32) (s sF : vS) (r : Int32) (h : F_X1_symmetriesOf N a0 l1 s = some (r, sF)) : isO s a0 1 = true ∧ vMet l D ka (xb X0) yX1_symmetriesOf cX1_symmetriesOf 7 (some .int) 2 48 [.ref (xb X0 + a0), .int l1] s sF (some (.int r)) := by
  unfold F_X1_symmetriesOf at h
  unfold rcv at h
  obtain ⟨hO, h⟩ := v_chk h
  refine ⟨hO, vMet.of (ini := false) X0 (plainFor_of_name (by decide +kernel)) (Nat.le_of_ble_eq_true rfl) (fun h => by cases h) (fun X ls hb hl => ?_) rfl⟩
  show V X (cX1_symmetriesOf, RX1, 7, 2, 48, false) (vRet sF (some (.int r)) (some .int)) sF s (G0 X 0 ls [])
  rw [← hb] at hl
  have hl : lv_has ls 7 [(0, .ref (xb X + a0)), (1, .int l1)] := hl
  refine v_iconst (0 : Int32) dX1_symmetriesOf_0 (by decide) ?_
  refine v_istore_n [(2, .int (0 : Int32)), (0, .ref (xb X + a0)), (1, .int l1)] dX1_symmetriesOf_1 rfl hl (by decide) rfl (fun ls hl => ?_)
  refine v_aload_n dX1_symmetriesOf_2 rfl (lv_at hl 1 rfl) ?_
  refine v_getR 1 9 h (by decide) rfl qfX1_24 dX1_symmetriesOf_3 (fun r1 h => ?_)
  refine v_astore_n [(3, .ref (xb X + r1)), (2, .int (0 : Int32)), (0, .ref (xb X + a0)), (1, .int l1)] dX1_symmetriesOf_6 rfl hl (by decide) rfl (fun ls hl => ?_)
  refine v_aload_n dX1_symmetriesOf_7 rfl (lv_at hl 0 rfl) ?_
  refine v_alen dX1_symmetriesOf_8 h (fun v2 h => ?_)
  refine v_istore [(4, .int v2), (3, .ref (xb X + r1)), (2, .int (0 : Int32)), (0, .ref (xb X + a0)), (1, .int l1)] dX1_symmetriesOf_9 hl (by decide) rfl (fun ls hl => ?_)
  refine v_iconst (0 : Int32) dX1_symmetriesOf_11 (by decide) ?_
  refine v_istore [(5, .int (0 : Int32)), (4, .int v2), (3, .ref (xb X + r1)), (2, .int (0 : Int32)), (0, .ref (xb X + a0)), (1, .int l1)] dX1_symmetriesOf_12 hl (by decide) rfl (fun ls hl => ?_)
  exact L_X1_symmetriesOf_14 N N a0 l1 (0 : Int32) r1 v2 (0 : Int32) s ls (lv_sub hl [4, 5, 3, 2, 1, 0] rfl) h
theorem k_X1_symmetriesOf {X : VX} {cc : ByteArray} {own : String} {nL fr lo : Nat} {ini : Bool} {E : VX → Prop} {sF s : vS} {ρ : Type} {res : ρ} {pc : Nat} {ls : Array Slot} {rest : List Value} {N index : Nat} {a0 : Nat} {l1 : Int32} {f : Int32 → vS → Option ρ} (h : bnd (F_X1_symmetriesOf N a0 l1 s) f = some res) (hlink : Cond.methodLink own index yX1_symmetriesOf ∈ TT) (hR : 2 + 1 ≤ fr ∧ 8 + (7 + 11) + 48 ≤ lo) (hls : ls.size = nL) (hr : (rest.map fun v => v.category).sum ≤ 8) (hdg : decode cc pc = .ok (.invokevirtual index, 3)) (kk : ∀ r s', f r s' = some res → V X (cc, own, nL, fr, lo, ini) E sF s' (G0 X (pc + 3) ls (.int r :: rest))) : V X (cc, own, nL, fr, lo, ini) E sF s (G0 X pc ls (.int l1 :: .ref (xb X + a0) :: rest)) := by
  obtain ⟨r, s', e, h⟩ := bnd_some h
  exact v_callV (b := a0) (ci := 1) (As := [.int l1]) (rest := rest) (c_X1_symmetriesOf X N a0 l1 s s' r e).2 (c_X1_symmetriesOf (l := xl X) (D := xD X) (ka := xka X) X N a0 l1 s s' r e).1 rfl vl_X1_symmetriesOf qi_X1_symmetriesOf qe_X1_symmetriesOf hlink hR rfl rfl hls hr hdg (kk r s' h)
theorem vl_X1_oppositeOf : vCl yX1_oppositeOf cX1_oppositeOf 3 (some .int) 1 := ⟨qy_X1_oppositeOf, qjX1, by decide +kernel, by decide +kernel, by decide +kernel⟩
set_option maxHeartbeats 4000000 in
set_option maxRecDepth 100000 in
theorem c_X1_oppositeOf {l : Launch} {D : va_G} {ka : Nat → ClassId} (X0 : VX) (N : Nat) (a0 : Nat) (l1 : Int32) (s sF : vS) (r : Int32) (h : F_X1_oppositeOf N a0 l1 s = some (r, sF)) : isO s a0 1 = true ∧ vMet l D ka (xb X0) yX1_oppositeOf cX1_oppositeOf 3 (some .int) 1 20 [.ref (xb X0 + a0), .int l1] s sF (some (.int r)) := by
  unfold F_X1_oppositeOf at h
  unfold rcv at h
  obtain ⟨hO, h⟩ := v_chk h
  refine ⟨hO, vMet.of (ini := false) X0 (plainFor_of_name (by decide +kernel)) (Nat.le_of_ble_eq_true rfl) (fun h => by cases h) (fun X ls hb hl => ?_) rfl⟩
  show V X (cX1_oppositeOf, RX1, 3, 1, 20, false) (vRet sF (some (.int r)) (some .int)) sF s (G0 X 0 ls [])
  rw [← hb] at hl
  have hl : lv_has ls 3 [(0, .ref (xb X + a0)), (1, .int l1)] := hl
  refine v_aload_n dX1_oppositeOf_0 rfl (lv_at hl 0 rfl) ?_
  refine v_getR 1 3 h (by decide) rfl qfX1_41 dX1_oppositeOf_1 (fun r1 h => ?_)
  refine v_iload_n dX1_oppositeOf_4 rfl (lv_at hl 1 rfl) ?_
  refine v_iald dX1_oppositeOf_5 h (fun v2 h => ?_)
  refine v_istore_n [(2, .int v2), (0, .ref (xb X + a0)), (1, .int l1)] dX1_oppositeOf_6 rfl hl (by decide) rfl (fun ls hl => ?_)
  refine v_aload_n dX1_oppositeOf_7 rfl (lv_at hl 1 rfl) ?_
  refine v_getR 1 7 h (by decide) rfl qfX1_17 dX1_oppositeOf_8 (fun r3 h => ?_)
  refine v_iload_n dX1_oppositeOf_11 rfl (lv_at hl 0 rfl) ?_
  refine v_aald 6 dX1_oppositeOf_12 h (fun r4 h => ?_)
  refine v_iload_n dX1_oppositeOf_13 rfl (lv_at hl 0 rfl) ?_
  refine k_X1_codesOf h qmX1_78 (by decide) hl.1 (Nat.le_of_ble_eq_true rfl) dX1_oppositeOf_14 (fun v5 s h => ?_)
  refine v_iconst (1 : Int32) dX1_oppositeOf_17 (by decide) ?_
  refine v_isub dX1_oppositeOf_18 ?_
  refine v_aload_n dX1_oppositeOf_19 rfl (lv_at hl 1 rfl) ?_
  refine v_getR 1 4 h (by decide) rfl qfX1_44 dX1_oppositeOf_20 (fun r6 h => ?_)
  refine v_iload_n dX1_oppositeOf_23 rfl (lv_at hl 2 rfl) ?_
  refine v_iald dX1_oppositeOf_24 h (fun v7 h => ?_)
  refine v_isub dX1_oppositeOf_25 ?_
  refine v_iald dX1_oppositeOf_26 h (fun v8 h => ?_)
  exact v_iret dX1_oppositeOf_27 h
theorem k_X1_oppositeOf {X : VX} {cc : ByteArray} {own : String} {nL fr lo : Nat} {ini : Bool} {E : VX → Prop} {sF s : vS} {ρ : Type} {res : ρ} {pc : Nat} {ls : Array Slot} {rest : List Value} {N index : Nat} {a0 : Nat} {l1 : Int32} {f : Int32 → vS → Option ρ} (h : bnd (F_X1_oppositeOf N a0 l1 s) f = some res) (hlink : Cond.methodLink own index yX1_oppositeOf ∈ TT) (hR : 1 + 1 ≤ fr ∧ 8 + (3 + 11) + 20 ≤ lo) (hls : ls.size = nL) (hr : (rest.map fun v => v.category).sum ≤ 8) (hdg : decode cc pc = .ok (.invokevirtual index, 3)) (kk : ∀ r s', f r s' = some res → V X (cc, own, nL, fr, lo, ini) E sF s' (G0 X (pc + 3) ls (.int r :: rest))) : V X (cc, own, nL, fr, lo, ini) E sF s (G0 X pc ls (.int l1 :: .ref (xb X + a0) :: rest)) := by
  obtain ⟨r, s', e, h⟩ := bnd_some h
  exact v_callV (b := a0) (ci := 1) (As := [.int l1]) (rest := rest) (c_X1_oppositeOf X N a0 l1 s s' r e).2 (c_X1_oppositeOf (l := xl X) (D := xD X) (ka := xka X) X N a0 l1 s s' r e).1 rfl vl_X1_oppositeOf qi_X1_oppositeOf qe_X1_oppositeOf hlink hR rfl rfl hls hr hdg (kk r s' h)
set_option maxHeartbeats 4000000 in
set_option maxRecDepth 100000 in
theorem L_X1_ranked_84 {X : VX} {sF : vS} {r : Int32} (N : Nat) (k7 : Nat → Int32 → Int32 → Int32 → vS → Option (Int32 × vS)) (k30 : Nat → Int32 → Int32 → Int32 → Int32 → Int32 → vS → Option (Int32 × vS)) (hk7 : ∀ (a0 : Nat) (l1 : Int32) (l2 : Int32) (l3 : Int32) (s : vS) (ls : Array Slot), lv_has ls 6 [(0, .ref (xb X + a0)), (1, .int l1), (2, .int l2), (3, .int l3)] → k7 a0 l1 l2 l3 s = some (r, sF) → V X (cX1_ranked, RX1, 6, 0, 0, false) (vRet sF (some (.int r)) (some .int)) sF s (G0 X 7 ls [])) (hk30 : ∀ (a0 : Nat) (l1 : Int32) (l2 : Int32) (l3 : Int32) (l4 : Int32) (l5 : Int32) (s : vS) (ls : Array Slot), lv_has ls 6 [(0, .ref (xb X + a0)), (1, .int l1), (2, .int l2), (3, .int l3), (4, .int l4), (5, .int l5)] → k30 a0 l1 l2 l3 l4 l5 s = some (r, sF) → V X (cX1_ranked, RX1, 6, 0, 0, false) (vRet sF (some (.int r)) (some .int)) sF s (G0 X 30 ls [])) (a0 : Nat) (l1 : Int32) (l2 : Int32) (l3 : Int32) (l4 : Int32) (l5 : Int32) (s : vS) (ls : Array Slot) (hl : lv_has ls 6 [(0, .ref (xb X + a0)), (1, .int l1), (2, .int l2), (3, .int l3), (4, .int l4), (5, .int l5)]) (h : J_X1_ranked_84 N k7 k30 a0 l1 l2 l3 l4 l5 s = some (r, sF)) : V X (cX1_ranked, RX1, 6, 0, 0, false) (vRet sF (some (.int r)) (some .int)) sF s (G0 X 84 ls []) := by
  unfold J_X1_ranked_84 at h
  refine v_inc (fun z => [(5, .int z), (0, .ref (xb X + a0)), (1, .int l1), (2, .int l2), (3, .int l3), (4, .int l4)]) dX1_ranked_84 h hl (k := 5) rfl (by rfl) (by decide) (fun _ => rfl) (fun l5_19 ls hl h => ?_)
  refine v_goto 30 dX1_ranked_87 (by decide) ?_
  exact hk30 a0 l1 l2 l3 l4 l5_19 s ls (lv_sub hl [1, 2, 3, 4, 5, 0] rfl) h
set_option maxHeartbeats 4000000 in
set_option maxRecDepth 100000 in
theorem L_X1_ranked_81 {X : VX} {sF : vS} {r : Int32} (N : Nat) (k7 : Nat → Int32 → Int32 → Int32 → vS → Option (Int32 × vS)) (k30 : Nat → Int32 → Int32 → Int32 → Int32 → Int32 → vS → Option (Int32 × vS)) (hk7 : ∀ (a0 : Nat) (l1 : Int32) (l2 : Int32) (l3 : Int32) (s : vS) (ls : Array Slot), lv_has ls 6 [(0, .ref (xb X + a0)), (1, .int l1), (2, .int l2), (3, .int l3)] → k7 a0 l1 l2 l3 s = some (r, sF) → V X (cX1_ranked, RX1, 6, 0, 0, false) (vRet sF (some (.int r)) (some .int)) sF s (G0 X 7 ls [])) (hk30 : ∀ (a0 : Nat) (l1 : Int32) (l2 : Int32) (l3 : Int32) (l4 : Int32) (l5 : Int32) (s : vS) (ls : Array Slot), lv_has ls 6 [(0, .ref (xb X + a0)), (1, .int l1), (2, .int l2), (3, .int l3), (4, .int l4), (5, .int l5)] → k30 a0 l1 l2 l3 l4 l5 s = some (r, sF) → V X (cX1_ranked, RX1, 6, 0, 0, false) (vRet sF (some (.int r)) (some .int)) sF s (G0 X 30 ls [])) (a0 : Nat) (l1 : Int32) (l2 : Int32) (l3 : Int32) (l4 : Int32) (l5 : Int32) (s : vS) (ls : Array Slot) (hl : lv_has ls 6 [(0, .ref (xb X + a0)), (1, .int l1), (2, .int l2), (3, .int l3), (4, .int l4), (5, .int l5)]) (h : J_X1_ranked_81 N k7 k30 a0 l1 l2 l3 l4 l5 s = some (r, sF)) : V X (cX1_ranked, RX1, 6, 0, 0, false) (vRet sF (some (.int r)) (some .int)) sF s (G0 X 81 ls []) := by
  unfold J_X1_ranked_81 at h
  refine v_inc (fun z => [(4, .int z), (0, .ref (xb X + a0)), (1, .int l1), (2, .int l2), (3, .int l3), (5, .int l5)]) dX1_ranked_81 h hl (k := 4) rfl (by rfl) (by decide) (fun _ => rfl) (fun l4_18 ls hl h => ?_)
  exact L_X1_ranked_84 N k7 k30 hk7 hk30 a0 l1 l2 l3 l4_18 l5 s ls (lv_sub hl [1, 2, 3, 4, 0, 5] rfl) h
set_option maxHeartbeats 4000000 in
set_option maxRecDepth 100000 in
theorem L_X1_ranked_30 {X : VX} {sF : vS} {r : Int32} (N : Nat) (k7 : Nat → Int32 → Int32 → Int32 → vS → Option (Int32 × vS)) (hk7 : ∀ (a0 : Nat) (l1 : Int32) (l2 : Int32) (l3 : Int32) (s : vS) (ls : Array Slot), lv_has ls 6 [(0, .ref (xb X + a0)), (1, .int l1), (2, .int l2), (3, .int l3)] → k7 a0 l1 l2 l3 s = some (r, sF) → V X (cX1_ranked, RX1, 6, 0, 0, false) (vRet sF (some (.int r)) (some .int)) sF s (G0 X 7 ls [])) : ∀ (n : Nat) (a0 : Nat) (l1 : Int32) (l2 : Int32) (l3 : Int32) (l4 : Int32) (l5 : Int32) (s : vS) (ls : Array Slot), lv_has ls 6 [(0, .ref (xb X + a0)), (1, .int l1), (2, .int l2), (3, .int l3), (4, .int l4), (5, .int l5)] → H_X1_ranked_30 N k7 n a0 l1 l2 l3 l4 l5 s = some (r, sF) → V X (cX1_ranked, RX1, 6, 0, 0, false) (vRet sF (some (.int r)) (some .int)) sF s (G0 X 30 ls []) := by
  intro n
  induction n with
  | zero => intro a0 l1 l2 l3 l4 l5 s ls hl h; cases h
  | succ n ih =>
   intro a0 l1 l2 l3 l4 l5 s ls hl h
   unfold H_X1_ranked_30 at h
   refine v_iload dX1_ranked_30 (lv_at hl 5 rfl) ?_
   refine v_aload_n dX1_ranked_32 rfl (lv_at hl 0 rfl) ?_
   refine v_getR 1 6 h (by decide) rfl qfX1_9 dX1_ranked_33 (fun r7 h => ?_)
   refine v_iload_n dX1_ranked_36 rfl (lv_at hl 1 rfl) ?_
   refine v_iconst (1 : Int32) dX1_ranked_37 (by decide) ?_
   refine v_iadd dX1_ranked_38 ?_
   refine v_iald dX1_ranked_39 h (fun v8 h => ?_)
   refine v_icmp_ge 90 dX1_ranked_40 (by decide) h (fun h => ?_) (fun h => ?_)
   · refine v_iload dX1_ranked_90 (lv_at hl 4 rfl) ?_
     refine v_iload_n dX1_ranked_92 rfl (lv_at hl 2 rfl) ?_
     refine v_icmp_ne 98 dX1_ranked_93 (by decide) h (fun h => ?_) (fun h => ?_)
     · refine v_inc (fun z => [(3, .int z), (0, .ref (xb X + a0)), (1, .int l1), (2, .int l2), (4, .int l4), (5, .int l5)]) dX1_ranked_98 h hl (k := 3) rfl (by rfl) (by decide) (fun _ => rfl) (fun l3_9 ls hl h => ?_)
       refine v_goto 7 dX1_ranked_101 (by decide) ?_
       exact hk7 a0 l1 l2 l3_9 s ls (lv_sub hl [1, 2, 3, 0] rfl) h
     · refine v_iload_n dX1_ranked_96 rfl (lv_at hl 3 rfl) ?_
       exact v_iret dX1_ranked_97 h
   · refine v_aload_n dX1_ranked_43 rfl (lv_at hl 0 rfl) ?_
     refine v_getR 1 10 h (by decide) rfl qfX1_56 dX1_ranked_44 (fun r10 h => ?_)
     refine v_iload dX1_ranked_47 (lv_at hl 5 rfl) ?_
     refine v_iald dX1_ranked_49 h (fun v11 h => ?_)
     refine v_aload_n dX1_ranked_50 rfl (lv_at hl 0 rfl) ?_
     refine v_getR 1 10 h (by decide) rfl qfX1_56 dX1_ranked_51 (fun r12 h => ?_)
     refine v_iload_n dX1_ranked_54 rfl (lv_at hl 3 rfl) ?_
     refine v_iald dX1_ranked_55 h (fun v13 h => ?_)
     refine v_icmp_gt 81 dX1_ranked_56 (by decide) h (fun h => ?_) (fun h => ?_)
     · exact L_X1_ranked_81 N k7 (H_X1_ranked_30 N k7 n) hk7 ih a0 l1 l2 l3 l4 l5 s ls (lv_sub hl [0, 1, 2, 3, 4, 5] rfl) h
     · refine v_aload_n dX1_ranked_59 rfl (lv_at hl 0 rfl) ?_
       refine v_getR 1 10 h (by decide) rfl qfX1_56 dX1_ranked_60 (fun r14 h => ?_)
       refine v_iload dX1_ranked_63 (lv_at hl 5 rfl) ?_
       refine v_iald dX1_ranked_65 h (fun v15 h => ?_)
       refine v_aload_n dX1_ranked_66 rfl (lv_at hl 0 rfl) ?_
       refine v_getR 1 10 h (by decide) rfl qfX1_56 dX1_ranked_67 (fun r16 h => ?_)
       refine v_iload_n dX1_ranked_70 rfl (lv_at hl 3 rfl) ?_
       refine v_iald dX1_ranked_71 h (fun v17 h => ?_)
       refine v_icmp_ne 84 dX1_ranked_72 (by decide) h (fun h => ?_) (fun h => ?_)
       · exact L_X1_ranked_84 N k7 (H_X1_ranked_30 N k7 n) hk7 ih a0 l1 l2 l3 l4 l5 s ls (lv_sub hl [0, 1, 2, 3, 4, 5] rfl) h
       · refine v_iload dX1_ranked_75 (lv_at hl 5 rfl) ?_
         refine v_iload_n dX1_ranked_77 rfl (lv_at hl 3 rfl) ?_
         refine v_icmp_ge 84 dX1_ranked_78 (by decide) h (fun h => ?_) (fun h => ?_)
         · exact L_X1_ranked_84 N k7 (H_X1_ranked_30 N k7 n) hk7 ih a0 l1 l2 l3 l4 l5 s ls (lv_sub hl [0, 1, 2, 3, 4, 5] rfl) h
         · exact L_X1_ranked_81 N k7 (H_X1_ranked_30 N k7 n) hk7 ih a0 l1 l2 l3 l4 l5 s ls (lv_sub hl [0, 1, 2, 3, 4, 5] rfl) h
set_option maxHeartbeats 4000000 in
set_option maxRecDepth 100000 in
theorem L_X1_ranked_7 {X : VX} {sF : vS} {r : Int32} (N : Nat) : ∀ (n : Nat) (a0 : Nat) (l1 : Int32) (l2 : Int32) (l3 : Int32) (s : vS) (ls : Array Slot), lv_has ls 6 [(0, .ref (xb X + a0)), (1, .int l1), (2, .int l2), (3, .int l3)] → H_X1_ranked_7 N n a0 l1 l2 l3 s = some (r, sF) → V X (cX1_ranked, RX1, 6, 0, 0, false) (vRet sF (some (.int r)) (some .int)) sF s (G0 X 7 ls []) := by
  intro n
  induction n with
  | zero => intro a0 l1 l2 l3 s ls hl h; cases h
  | succ n ih =>
   intro a0 l1 l2 l3 s ls hl h
   unfold H_X1_ranked_7 at h
   refine v_iload_n dX1_ranked_7 rfl (lv_at hl 3 rfl) ?_
   refine v_aload_n dX1_ranked_8 rfl (lv_at hl 0 rfl) ?_
   refine v_getR 1 6 h (by decide) rfl qfX1_9 dX1_ranked_9 (fun r3 h => ?_)
   refine v_iload_n dX1_ranked_12 rfl (lv_at hl 1 rfl) ?_
   refine v_iconst (1 : Int32) dX1_ranked_13 (by decide) ?_
   refine v_iadd dX1_ranked_14 ?_
   refine v_iald dX1_ranked_15 h (fun v4 h => ?_)
   refine v_icmp_ge 104 dX1_ranked_16 (by decide) h (fun h => ?_) (fun h => ?_)
   · refine v_iconst (-1 : Int32) dX1_ranked_104 (by decide) ?_
     exact v_iret dX1_ranked_105 h
   · refine v_iconst (0 : Int32) dX1_ranked_19 (by decide) ?_
     refine v_istore [(4, .int (0 : Int32)), (0, .ref (xb X + a0)), (1, .int l1), (2, .int l2), (3, .int l3)] dX1_ranked_20 hl (by decide) rfl (fun ls hl => ?_)
     refine v_aload_n dX1_ranked_22 rfl (lv_at hl 1 rfl) ?_
     refine v_getR 1 6 h (by decide) rfl qfX1_9 dX1_ranked_23 (fun r5 h => ?_)
     refine v_iload_n dX1_ranked_26 rfl (lv_at hl 2 rfl) ?_
     refine v_iald dX1_ranked_27 h (fun v6 h => ?_)
     refine v_istore [(5, .int v6), (4, .int (0 : Int32)), (0, .ref (xb X + a0)), (1, .int l1), (2, .int l2), (3, .int l3)] dX1_ranked_28 hl (by decide) rfl (fun ls hl => ?_)
     exact L_X1_ranked_30 N (H_X1_ranked_7 N n) ih N a0 l1 l2 l3 (0 : Int32) v6 s ls (lv_sub hl [2, 3, 4, 5, 1, 0] rfl) h
theorem vl_X1_ranked : vCl yX1_ranked cX1_ranked 6 (some .int) 2 := ⟨qy_X1_ranked, qjX1, by decide +kernel, by decide +kernel, by decide +kernel⟩
set_option maxHeartbeats 4000000 in
set_option maxRecDepth 100000 in
theorem c_X1_ranked {l : Launch} {D : va_G} {ka : Nat → ClassId} (X0 : VX) (N : Nat) (a0 : Nat) (l1 : Int32) (l2 : Int32) (s sF : vS) (r : Int32) (h : F_X1_ranked N a0 l1 l2 s = some (r, sF)) : isO s a0 1 = true ∧ vMet l D ka (xb X0) yX1_ranked cX1_ranked 6 (some .int) 0 0 [.ref (xb X0 + a0), .int l1, .int l2] s sF (some (.int r)) := by
  unfold F_X1_ranked at h
  unfold rcv at h
  obtain ⟨hO, h⟩ := v_chk h
  refine ⟨hO, vMet.of (ini := false) X0 (plainFor_of_name (by decide +kernel)) (Nat.le_of_ble_eq_true rfl) (fun h => by cases h) (fun X ls hb hl => ?_) rfl⟩
  show V X (cX1_ranked, RX1, 6, 0, 0, false) (vRet sF (some (.int r)) (some .int)) sF s (G0 X 0 ls [])
  rw [← hb] at hl
  have hl : lv_has ls 6 [(0, .ref (xb X + a0)), (1, .int l1), (2, .int l2)] := hl
  refine v_aload_n dX1_ranked_0 rfl (lv_at hl 0 rfl) ?_
  refine v_getR 1 6 h (by decide) rfl qfX1_9 dX1_ranked_1 (fun r1 h => ?_)
  refine v_iload_n dX1_ranked_4 rfl (lv_at hl 1 rfl) ?_
  refine v_iald dX1_ranked_5 h (fun v2 h => ?_)
  refine v_istore_n [(3, .int v2), (0, .ref (xb X + a0)), (1, .int l1), (2, .int l2)] dX1_ranked_6 rfl hl (by decide) rfl (fun ls hl => ?_)
  exact L_X1_ranked_7 N N a0 l1 l2 v2 s ls (lv_sub hl [1, 2, 3, 0] rfl) h
theorem k_X1_ranked {X : VX} {cc : ByteArray} {own : String} {nL fr lo : Nat} {ini : Bool} {E : VX → Prop} {sF s : vS} {ρ : Type} {res : ρ} {pc : Nat} {ls : Array Slot} {rest : List Value} {N index : Nat} {a0 : Nat} {l1 : Int32} {l2 : Int32} {f : Int32 → vS → Option ρ} (h : bnd (F_X1_ranked N a0 l1 l2 s) f = some res) (hlink : Cond.methodLink own index yX1_ranked ∈ TT) (hR : 0 + 1 ≤ fr ∧ 8 + (6 + 11) + 0 ≤ lo) (hls : ls.size = nL) (hr : (rest.map fun v => v.category).sum ≤ 8) (hdg : decode cc pc = .ok (.invokevirtual index, 3)) (kk : ∀ r s', f r s' = some res → V X (cc, own, nL, fr, lo, ini) E sF s' (G0 X (pc + 3) ls (.int r :: rest))) : V X (cc, own, nL, fr, lo, ini) E sF s (G0 X pc ls (.int l2 :: .int l1 :: .ref (xb X + a0) :: rest)) := by
  obtain ⟨r, s', e, h⟩ := bnd_some h
  exact v_callV (b := a0) (ci := 1) (As := [.int l1, .int l2]) (rest := rest) (c_X1_ranked X N a0 l1 l2 s s' r e).2 (c_X1_ranked (l := xl X) (D := xD X) (ka := xka X) X N a0 l1 l2 s s' r e).1 rfl vl_X1_ranked qi_X1_ranked qe_X1_ranked hlink hR rfl rfl hls hr hdg (kk r s' h)
set_option maxHeartbeats 4000000 in
set_option maxRecDepth 100000 in
theorem L_X2_part_15 {X : VX} {sF : vS} {r : Int64} (N : Nat) (k0 : Int64) (s : vS) (ls : Array Slot) (hl : lv_has ls 2 []) (h : J_X2_part_15 N k0 s = some (r, sF)) : V X (cX2_part, RX2, 2, 0, 0, false) (vRet sF (some (.long r)) (some .long)) sF s (G0 X 15 ls [.long k0]) := by
  unfold J_X2_part_15 at h
  exact v_lret dX2_part_15 h
theorem vl_X2_part : vCl yX2_part cX2_part 2 (some .long) 1 := ⟨qy_X2_part, qjX2, by decide +kernel, by decide +kernel, by decide +kernel⟩
set_option maxHeartbeats 4000000 in
set_option maxRecDepth 100000 in
theorem c_X2_part {l : Launch} {D : va_G} {ka : Nat → ClassId} (X0 : VX) (N : Nat) (a0 : Nat) (l1 : Int32) (s sF : vS) (r : Int64) (h : F_X2_part N a0 l1 s = some (r, sF)) : isO s a0 2 = true ∧ vMet l D ka (xb X0) yX2_part cX2_part 2 (some .long) 0 0 [.ref (xb X0 + a0), .int l1] s sF (some (.long r)) := by
  unfold F_X2_part at h
  unfold rcv at h
  obtain ⟨hO, h⟩ := v_chk h
  refine ⟨hO, vMet.of (ini := false) X0 (plainFor_of_name (by decide +kernel)) (Nat.le_of_ble_eq_true rfl) (fun h => by cases h) (fun X ls hb hl => ?_) rfl⟩
  show V X (cX2_part, RX2, 2, 0, 0, false) (vRet sF (some (.long r)) (some .long)) sF s (G0 X 0 ls [])
  rw [← hb] at hl
  have hl : lv_has ls 2 [(0, .ref (xb X + a0)), (1, .int l1)] := hl
  refine v_iload_n dX2_part_0 rfl (lv_at hl 1 rfl) ?_
  refine v_if_ne 11 dX2_part_1 (by decide) h (fun h => ?_) (fun h => ?_)
  · refine v_aload_n dX2_part_11 rfl (lv_at hl 0 rfl) ?_
    refine v_getJ 2 1 h (by decide) rfl qfX2_13 dX2_part_12 (fun v1 h => ?_)
    exact L_X2_part_15 N v1 s ls (lv_sub hl [] rfl) h
  · refine v_aload_n dX2_part_4 rfl (lv_at hl 0 rfl) ?_
    refine v_getJ 2 0 h (by decide) rfl qfX2_7 dX2_part_5 (fun v2 h => ?_)
    refine v_goto 15 dX2_part_8 (by decide) ?_
    exact L_X2_part_15 N v2 s ls (lv_sub hl [] rfl) h
theorem k_X2_part {X : VX} {cc : ByteArray} {own : String} {nL fr lo : Nat} {ini : Bool} {E : VX → Prop} {sF s : vS} {ρ : Type} {res : ρ} {pc : Nat} {ls : Array Slot} {rest : List Value} {N index : Nat} {a0 : Nat} {l1 : Int32} {f : Int64 → vS → Option ρ} (h : bnd (F_X2_part N a0 l1 s) f = some res) (hlink : Cond.methodLink own index yX2_part ∈ TT) (hR : 0 + 1 ≤ fr ∧ 8 + (2 + 11) + 0 ≤ lo) (hls : ls.size = nL) (hr : (rest.map fun v => v.category).sum ≤ 8) (hdg : decode cc pc = .ok (.invokevirtual index, 3)) (kk : ∀ r s', f r s' = some res → V X (cc, own, nL, fr, lo, ini) E sF s' (G0 X (pc + 3) ls (.long r :: rest))) : V X (cc, own, nL, fr, lo, ini) E sF s (G0 X pc ls (.int l1 :: .ref (xb X + a0) :: rest)) := by
  obtain ⟨r, s', e, h⟩ := bnd_some h
  exact v_callV (b := a0) (ci := 2) (As := [.int l1]) (rest := rest) (c_X2_part X N a0 l1 s s' r e).2 (c_X2_part (l := xl X) (D := xD X) (ka := xka X) X N a0 l1 s s' r e).1 rfl vl_X2_part qi_X2_part qe_X2_part hlink hR rfl rfl hls hr hdg (kk r s' h)
set_option maxHeartbeats 4000000 in
set_option maxRecDepth 100000 in
theorem L_J9_floorDiv_f86c9_27 {X : VX} {sF : vS} {r : Int64} (N : Nat) (l4 : Int64) (s : vS) (ls : Array Slot) (hl : lv_has ls 6 [(4, .long l4)]) (h : J_J9_floorDiv_f86c9_27 N l4 s = some (r, sF)) : V X (cJ9_floorDiv_f86c9, RJ9, 6, 0, 0, false) (vRet sF (some (.long r)) (some .long)) sF s (G0 X 27 ls []) := by
  unfold J_J9_floorDiv_f86c9_27 at h
  refine v_lload dJ9_floorDiv_f86c9_27 (lv_at hl 0 rfl) ?_
  exact v_lret dJ9_floorDiv_f86c9_29 h
theorem vl_J9_floorDiv_f86c9 : vCl yJ9_floorDiv_f86c9 cJ9_floorDiv_f86c9 6 (some .long) 2 := ⟨qy_J9_floorDiv_f86c9, qjJ9, by decide +kernel, by decide +kernel, by decide +kernel⟩
set_option maxHeartbeats 4000000 in
set_option maxRecDepth 100000 in
theorem c_J9_floorDiv_f86c9 {l : Launch} {D : va_G} {ka : Nat → ClassId} (X0 : VX) (N : Nat) (l0 : Int64) (l2 : Int64) (s sF : vS) (r : Int64) (h : F_J9_floorDiv_f86c9 N l0 l2 s = some (r, sF)) : vMet l D ka (xb X0) yJ9_floorDiv_f86c9 cJ9_floorDiv_f86c9 6 (some .long) 0 0 [.long l0, .long l2] s sF (some (.long r)) := by
  unfold F_J9_floorDiv_f86c9 at h
  refine vMet.of (ini := false) X0 (flPlain rfl (by decide +kernel)) (Nat.le_of_ble_eq_true rfl) (fun h => by cases h) (fun X ls hb hl => ?_) rfl
  show V X (cJ9_floorDiv_f86c9, RJ9, 6, 0, 0, false) (vRet sF (some (.long r)) (some .long)) sF s (G0 X 0 ls [])
  have hl : lv_has ls 6 [(0, .long l0), (2, .long l2)] := hl
  refine v_lload_n dJ9_floorDiv_f86c9_0 rfl (lv_at hl 0 rfl) ?_
  refine v_lload_n dJ9_floorDiv_f86c9_1 rfl (lv_at hl 1 rfl) ?_
  refine v_ldiv dJ9_floorDiv_f86c9_2 h (fun h => ?_)
  refine v_nmJ h (fun l4_1 h => ?_)
  refine v_lstore [(4, .long l4_1), (0, .long l0), (2, .long l2)] dJ9_floorDiv_f86c9_3 hl (by decide) rfl (fun ls hl => ?_)
  refine v_lload_n dJ9_floorDiv_f86c9_5 rfl (lv_at hl 1 rfl) ?_
  refine v_lload_n dJ9_floorDiv_f86c9_6 rfl (lv_at hl 2 rfl) ?_
  refine v_lxor dJ9_floorDiv_f86c9_7 ?_
  refine v_lconst (0 : Int64) dJ9_floorDiv_f86c9_8 (by decide) ?_
  refine v_lcmp dJ9_floorDiv_f86c9_9 ?_
  refine v_if_ge 27 dJ9_floorDiv_f86c9_10 (by decide) h (fun h => ?_) (fun h => ?_)
  · exact L_J9_floorDiv_f86c9_27 N l4_1 s ls (lv_sub hl [0] rfl) h
  · refine v_lload dJ9_floorDiv_f86c9_13 (lv_at hl 0 rfl) ?_
    refine v_lload_n dJ9_floorDiv_f86c9_15 rfl (lv_at hl 2 rfl) ?_
    refine v_lmul dJ9_floorDiv_f86c9_16 ?_
    refine v_lload_n dJ9_floorDiv_f86c9_17 rfl (lv_at hl 1 rfl) ?_
    refine v_lcmp dJ9_floorDiv_f86c9_18 ?_
    refine v_if_eq 27 dJ9_floorDiv_f86c9_19 (by decide) h (fun h => ?_) (fun h => ?_)
    · exact L_J9_floorDiv_f86c9_27 N l4_1 s ls (lv_sub hl [0] rfl) h
    · refine v_lload dJ9_floorDiv_f86c9_22 (lv_at hl 0 rfl) ?_
      refine v_lconst (1 : Int64) dJ9_floorDiv_f86c9_24 (by decide) ?_
      refine v_lsub dJ9_floorDiv_f86c9_25 ?_
      exact v_lret dJ9_floorDiv_f86c9_26 h
theorem k_J9_floorDiv_f86c9 {X : VX} {cc : ByteArray} {own : String} {nL fr lo : Nat} {ini : Bool} {E : VX → Prop} {sF s : vS} {ρ : Type} {res : ρ} {pc : Nat} {ls : Array Slot} {rest : List Value} {N index : Nat} {l0 : Int64} {l2 : Int64} {f : Int64 → vS → Option ρ} (h : bnd (F_J9_floorDiv_f86c9 N l0 l2 s) f = some res) (hlink : Cond.methodLink own index yJ9_floorDiv_f86c9 ∈ TT) (hR : 0 + 1 ≤ fr ∧ 8 + (6 + 11) + 0 ≤ lo) (hls : ls.size = nL) (hr : (rest.map fun v => v.category).sum ≤ 8) (hdg : decode cc pc = .ok (.invokestatic index, 3)) (kk : ∀ r s', f r s' = some res → V X (cc, own, nL, fr, lo, ini) E sF s' (G0 X (pc + 3) ls (.long r :: rest))) : V X (cc, own, nL, fr, lo, ini) E sF s (G0 X pc ls (.long l2 :: .long l0 :: rest)) := by
  obtain ⟨r, s', e, h⟩ := bnd_some h
  exact v_callS (As := [.long l0, .long l2]) (rest := rest) (c_J9_floorDiv_f86c9 X N l0 l2 s s' r e) vl_J9_floorDiv_f86c9 qs_J9_floorDiv_f86c9 hlink hR rfl rfl hls hr hdg (kk r s' h)
set_option maxHeartbeats 4000000 in
set_option maxRecDepth 100000 in
theorem L_J9_floorMod_f86c9_25 {X : VX} {sF : vS} {r : Int64} (N : Nat) (l4 : Int64) (s : vS) (ls : Array Slot) (hl : lv_has ls 6 [(4, .long l4)]) (h : J_J9_floorMod_f86c9_25 N l4 s = some (r, sF)) : V X (cJ9_floorMod_f86c9, RJ9, 6, 0, 0, false) (vRet sF (some (.long r)) (some .long)) sF s (G0 X 25 ls []) := by
  unfold J_J9_floorMod_f86c9_25 at h
  refine v_lload dJ9_floorMod_f86c9_25 (lv_at hl 0 rfl) ?_
  exact v_lret dJ9_floorMod_f86c9_27 h
theorem vl_J9_floorMod_f86c9 : vCl yJ9_floorMod_f86c9 cJ9_floorMod_f86c9 6 (some .long) 2 := ⟨qy_J9_floorMod_f86c9, qjJ9, by decide +kernel, by decide +kernel, by decide +kernel⟩
set_option maxHeartbeats 4000000 in
set_option maxRecDepth 100000 in
theorem c_J9_floorMod_f86c9 {l : Launch} {D : va_G} {ka : Nat → ClassId} (X0 : VX) (N : Nat) (l0 : Int64) (l2 : Int64) (s sF : vS) (r : Int64) (h : F_J9_floorMod_f86c9 N l0 l2 s = some (r, sF)) : vMet l D ka (xb X0) yJ9_floorMod_f86c9 cJ9_floorMod_f86c9 6 (some .long) 0 0 [.long l0, .long l2] s sF (some (.long r)) := by
  unfold F_J9_floorMod_f86c9 at h
  refine vMet.of (ini := false) X0 (flPlain rfl (by decide +kernel)) (Nat.le_of_ble_eq_true rfl) (fun h => by cases h) (fun X ls hb hl => ?_) rfl
  show V X (cJ9_floorMod_f86c9, RJ9, 6, 0, 0, false) (vRet sF (some (.long r)) (some .long)) sF s (G0 X 0 ls [])
  have hl : lv_has ls 6 [(0, .long l0), (2, .long l2)] := hl
  refine v_lload_n dJ9_floorMod_f86c9_0 rfl (lv_at hl 0 rfl) ?_
  refine v_lload_n dJ9_floorMod_f86c9_1 rfl (lv_at hl 1 rfl) ?_
  refine v_lrem dJ9_floorMod_f86c9_2 h (fun h => ?_)
  refine v_nmJ h (fun l4_1 h => ?_)
  refine v_lstore [(4, .long l4_1), (0, .long l0), (2, .long l2)] dJ9_floorMod_f86c9_3 hl (by decide) rfl (fun ls hl => ?_)
  refine v_lload_n dJ9_floorMod_f86c9_5 rfl (lv_at hl 1 rfl) ?_
  refine v_lload_n dJ9_floorMod_f86c9_6 rfl (lv_at hl 2 rfl) ?_
  refine v_lxor dJ9_floorMod_f86c9_7 ?_
  refine v_lconst (0 : Int64) dJ9_floorMod_f86c9_8 (by decide) ?_
  refine v_lcmp dJ9_floorMod_f86c9_9 ?_
  refine v_if_ge 25 dJ9_floorMod_f86c9_10 (by decide) h (fun h => ?_) (fun h => ?_)
  · exact L_J9_floorMod_f86c9_25 N l4_1 s ls (lv_sub hl [0] rfl) h
  · refine v_lload dJ9_floorMod_f86c9_13 (lv_at hl 0 rfl) ?_
    refine v_lconst (0 : Int64) dJ9_floorMod_f86c9_15 (by decide) ?_
    refine v_lcmp dJ9_floorMod_f86c9_16 ?_
    refine v_if_eq 25 dJ9_floorMod_f86c9_17 (by decide) h (fun h => ?_) (fun h => ?_)
    · exact L_J9_floorMod_f86c9_25 N l4_1 s ls (lv_sub hl [0] rfl) h
    · refine v_lload dJ9_floorMod_f86c9_20 (lv_at hl 0 rfl) ?_
      refine v_lload_n dJ9_floorMod_f86c9_22 rfl (lv_at hl 2 rfl) ?_
      refine v_ladd dJ9_floorMod_f86c9_23 ?_
      exact v_lret dJ9_floorMod_f86c9_24 h
theorem k_J9_floorMod_f86c9 {X : VX} {cc : ByteArray} {own : String} {nL fr lo : Nat} {ini : Bool} {E : VX → Prop} {sF s : vS} {ρ : Type} {res : ρ} {pc : Nat} {ls : Array Slot} {rest : List Value} {N index : Nat} {l0 : Int64} {l2 : Int64} {f : Int64 → vS → Option ρ} (h : bnd (F_J9_floorMod_f86c9 N l0 l2 s) f = some res) (hlink : Cond.methodLink own index yJ9_floorMod_f86c9 ∈ TT) (hR : 0 + 1 ≤ fr ∧ 8 + (6 + 11) + 0 ≤ lo) (hls : ls.size = nL) (hr : (rest.map fun v => v.category).sum ≤ 8) (hdg : decode cc pc = .ok (.invokestatic index, 3)) (kk : ∀ r s', f r s' = some res → V X (cc, own, nL, fr, lo, ini) E sF s' (G0 X (pc + 3) ls (.long r :: rest))) : V X (cc, own, nL, fr, lo, ini) E sF s (G0 X pc ls (.long l2 :: .long l0 :: rest)) := by
  obtain ⟨r, s', e, h⟩ := bnd_some h
  exact v_callS (As := [.long l0, .long l2]) (rest := rest) (c_J9_floorMod_f86c9 X N l0 l2 s s' r e) vl_J9_floorMod_f86c9 qs_J9_floorMod_f86c9 hlink hR rfl rfl hls hr hdg (kk r s' h)
set_option maxHeartbeats 4000000 in
set_option maxRecDepth 100000 in
theorem L_X2_isLess_189 {X : VX} {sF : vS} {r : Int32} (N : Nat) (s : vS) (ls : Array Slot) (hl : lv_has ls 26 []) (h : J_X2_isLess_189 N  s = some (r, sF)) : V X (cX2_isLess, RX2, 26, 1, 25, false) (vRet sF (some (.int r)) (some .boolean)) sF s (G0 X 189 ls []) := by
  unfold J_X2_isLess_189 at h
  refine v_iconst (0 : Int32) dX2_isLess_189 (by decide) ?_
  exact v_zret dX2_isLess_190 h
set_option maxHeartbeats 4000000 in
set_option maxRecDepth 100000 in
theorem L_X2_isLess_181 {X : VX} {sF : vS} {r : Int32} (N : Nat) (k20 : Int64 → Int64 → Int64 → Int64 → Int32 → Int32 → vS → Option (Int32 × vS)) (hk20 : ∀ (l8 : Int64) (l10 : Int64) (l12 : Int64) (l14 : Int64) (l16 : Int32) (l17 : Int32) (s : vS) (ls : Array Slot), lv_has ls 26 [(8, .long l8), (10, .long l10), (12, .long l12), (14, .long l14), (16, .int l16), (17, .int l17)] → k20 l8 l10 l12 l14 l16 l17 s = some (r, sF) → V X (cX2_isLess, RX2, 26, 1, 25, false) (vRet sF (some (.int r)) (some .boolean)) sF s (G0 X 20 ls [])) (l8 : Int64) (l10 : Int64) (l12 : Int64) (l14 : Int64) (l17 : Int32) (k0 : Int32) (s : vS) (ls : Array Slot) (hl : lv_has ls 26 [(8, .long l8), (10, .long l10), (12, .long l12), (14, .long l14), (17, .int l17)]) (h : J_X2_isLess_181 N k20 l8 l10 l12 l14 l17 k0 s = some (r, sF)) : V X (cX2_isLess, RX2, 26, 1, 25, false) (vRet sF (some (.int r)) (some .boolean)) sF s (G0 X 181 ls [.int k0]) := by
  unfold J_X2_isLess_181 at h
  refine v_istore [(16, .int k0), (8, .long l8), (10, .long l10), (12, .long l12), (14, .long l14), (17, .int l17)] dX2_isLess_181 hl (by decide) rfl (fun ls hl => ?_)
  refine v_inc (fun z => [(17, .int z), (16, .int k0), (8, .long l8), (10, .long l10), (12, .long l12), (14, .long l14)]) dX2_isLess_183 h hl (k := 5) rfl (by rfl) (by decide) (fun _ => rfl) (fun l17_5 ls hl h => ?_)
  refine v_goto 20 dX2_isLess_186 (by decide) ?_
  exact hk20 l8 l10 l12 l14 k0 l17_5 s ls (lv_sub hl [2, 3, 4, 5, 1, 0] rfl) h
set_option maxHeartbeats 4000000 in
set_option maxRecDepth 100000 in
theorem L_X2_isLess_154 {X : VX} {sF : vS} {r : Int32} (N : Nat) (k0 : Int32) (s : vS) (ls : Array Slot) (hl : lv_has ls 26 []) (h : J_X2_isLess_154 N k0 s = some (r, sF)) : V X (cX2_isLess, RX2, 26, 1, 25, false) (vRet sF (some (.int r)) (some .boolean)) sF s (G0 X 154 ls [.int k0]) := by
  unfold J_X2_isLess_154 at h
  exact v_zret dX2_isLess_154 h
set_option maxHeartbeats 4000000 in
set_option maxRecDepth 100000 in
theorem L_X2_isLess_153 {X : VX} {sF : vS} {r : Int32} (N : Nat) (s : vS) (ls : Array Slot) (hl : lv_has ls 26 []) (h : J_X2_isLess_153 N  s = some (r, sF)) : V X (cX2_isLess, RX2, 26, 1, 25, false) (vRet sF (some (.int r)) (some .boolean)) sF s (G0 X 153 ls []) := by
  unfold J_X2_isLess_153 at h
  refine v_iconst (0 : Int32) dX2_isLess_153 (by decide) ?_
  exact L_X2_isLess_154 N (0 : Int32) s ls (lv_sub hl [] rfl) h
set_option maxHeartbeats 4000000 in
set_option maxRecDepth 100000 in
theorem L_X2_isLess_144 {X : VX} {sF : vS} {r : Int32} (N : Nat) (l16 : Int32) (k0 : Int32) (s : vS) (ls : Array Slot) (hl : lv_has ls 26 [(16, .int l16)]) (h : J_X2_isLess_144 N l16 k0 s = some (r, sF)) : V X (cX2_isLess, RX2, 26, 1, 25, false) (vRet sF (some (.int r)) (some .boolean)) sF s (G0 X 144 ls [.int k0]) := by
  unfold J_X2_isLess_144 at h
  refine v_iload dX2_isLess_144 (lv_at hl 0 rfl) ?_
  refine v_icmp_eq 153 dX2_isLess_146 (by decide) h (fun h => ?_) (fun h => ?_)
  · exact L_X2_isLess_153 N  s ls (lv_sub hl [] rfl) h
  · refine v_iconst (1 : Int32) dX2_isLess_149 (by decide) ?_
    refine v_goto 154 dX2_isLess_150 (by decide) ?_
    exact L_X2_isLess_154 N (1 : Int32) s ls (lv_sub hl [] rfl) h
set_option maxHeartbeats 4000000 in
set_option maxRecDepth 100000 in
theorem L_X2_isLess_124 {X : VX} {sF : vS} {r : Int32} (N : Nat) (l16 : Int32) (l22 : Int64) (l24 : Int64) (s : vS) (ls : Array Slot) (hl : lv_has ls 26 [(16, .int l16), (22, .long l22), (24, .long l24)]) (h : J_X2_isLess_124 N l16 l22 l24 s = some (r, sF)) : V X (cX2_isLess, RX2, 26, 1, 25, false) (vRet sF (some (.int r)) (some .boolean)) sF s (G0 X 124 ls []) := by
  unfold J_X2_isLess_124 at h
  refine v_lload dX2_isLess_124 (lv_at hl 1 rfl) ?_
  refine v_lload dX2_isLess_126 (lv_at hl 2 rfl) ?_
  refine v_lcmp dX2_isLess_128 ?_
  refine v_if_eq 153 dX2_isLess_129 (by decide) h (fun h => ?_) (fun h => ?_)
  · exact L_X2_isLess_153 N  s ls (lv_sub hl [] rfl) h
  · refine v_lload dX2_isLess_132 (lv_at hl 1 rfl) ?_
    refine v_lconst (0 : Int64) dX2_isLess_134 (by decide) ?_
    refine v_lcmp dX2_isLess_135 ?_
    refine v_if_ne 143 dX2_isLess_136 (by decide) h (fun h => ?_) (fun h => ?_)
    · refine v_iconst (0 : Int32) dX2_isLess_143 (by decide) ?_
      exact L_X2_isLess_144 N l16 (0 : Int32) s ls (lv_sub hl [0] rfl) h
    · refine v_iconst (1 : Int32) dX2_isLess_139 (by decide) ?_
      refine v_goto 144 dX2_isLess_140 (by decide) ?_
      exact L_X2_isLess_144 N l16 (1 : Int32) s ls (lv_sub hl [0] rfl) h
set_option maxHeartbeats 4000000 in
set_option maxRecDepth 100000 in
theorem L_X2_isLess_91 {X : VX} {sF : vS} {r : Int32} (N : Nat) (k0 : Int32) (s : vS) (ls : Array Slot) (hl : lv_has ls 26 []) (h : J_X2_isLess_91 N k0 s = some (r, sF)) : V X (cX2_isLess, RX2, 26, 1, 25, false) (vRet sF (some (.int r)) (some .boolean)) sF s (G0 X 91 ls [.int k0]) := by
  unfold J_X2_isLess_91 at h
  exact v_zret dX2_isLess_91 h
set_option maxHeartbeats 4000000 in
set_option maxRecDepth 100000 in
theorem L_X2_isLess_81 {X : VX} {sF : vS} {r : Int32} (N : Nat) (l16 : Int32) (k0 : Int32) (s : vS) (ls : Array Slot) (hl : lv_has ls 26 [(16, .int l16)]) (h : J_X2_isLess_81 N l16 k0 s = some (r, sF)) : V X (cX2_isLess, RX2, 26, 1, 25, false) (vRet sF (some (.int r)) (some .boolean)) sF s (G0 X 81 ls [.int k0]) := by
  unfold J_X2_isLess_81 at h
  refine v_iload dX2_isLess_81 (lv_at hl 0 rfl) ?_
  refine v_icmp_eq 90 dX2_isLess_83 (by decide) h (fun h => ?_) (fun h => ?_)
  · refine v_iconst (0 : Int32) dX2_isLess_90 (by decide) ?_
    exact L_X2_isLess_91 N (0 : Int32) s ls (lv_sub hl [] rfl) h
  · refine v_iconst (1 : Int32) dX2_isLess_86 (by decide) ?_
    refine v_goto 91 dX2_isLess_87 (by decide) ?_
    exact L_X2_isLess_91 N (1 : Int32) s ls (lv_sub hl [] rfl) h
set_option maxHeartbeats 4000000 in
set_option maxRecDepth 100000 in
theorem L_X2_isLess_20 {X : VX} {sF : vS} {r : Int32} (N : Nat) : ∀ (n : Nat) (l8 : Int64) (l10 : Int64) (l12 : Int64) (l14 : Int64) (l16 : Int32) (l17 : Int32) (s : vS) (ls : Array Slot), lv_has ls 26 [(8, .long l8), (10, .long l10), (12, .long l12), (14, .long l14), (16, .int l16), (17, .int l17)] → H_X2_isLess_20 N n l8 l10 l12 l14 l16 l17 s = some (r, sF) → V X (cX2_isLess, RX2, 26, 1, 25, false) (vRet sF (some (.int r)) (some .boolean)) sF s (G0 X 20 ls []) := by
  intro n
  induction n with
  | zero => intro l8 l10 l12 l14 l16 l17 s ls hl h; cases h
  | succ n ih =>
   intro l8 l10 l12 l14 l16 l17 s ls hl h
   unfold H_X2_isLess_20 at h
   refine v_iload dX2_isLess_20 (lv_at hl 5 rfl) ?_
   refine v_sipush (200 : Int32) dX2_isLess_22 (by decide) ?_
   refine v_icmp_ge 189 dX2_isLess_25 (by decide) h (fun h => ?_) (fun h => ?_)
   · exact L_X2_isLess_189 N  s ls (lv_sub hl [] rfl) h
   · refine v_lload dX2_isLess_28 (lv_at hl 1 rfl) ?_
     refine v_lconst (0 : Int64) dX2_isLess_30 (by decide) ?_
     refine v_lcmp dX2_isLess_31 ?_
     refine v_if_le 189 dX2_isLess_32 (by decide) h (fun h => ?_) (fun h => ?_)
     · exact L_X2_isLess_189 N  s ls (lv_sub hl [] rfl) h
     · refine v_lload dX2_isLess_35 (lv_at hl 3 rfl) ?_
       refine v_lconst (0 : Int64) dX2_isLess_37 (by decide) ?_
       refine v_lcmp dX2_isLess_38 ?_
       refine v_if_le 189 dX2_isLess_39 (by decide) h (fun h => ?_) (fun h => ?_)
       · exact L_X2_isLess_189 N  s ls (lv_sub hl [] rfl) h
       · refine v_lload dX2_isLess_42 (lv_at hl 0 rfl) ?_
         refine v_lload dX2_isLess_44 (lv_at hl 1 rfl) ?_
         refine k_J9_floorDiv_f86c9 h qmX2_30 (by decide) hl.1 (Nat.le_of_ble_eq_true rfl) dX2_isLess_46 (fun v1 s h => ?_)
         refine v_lstore [(18, .long v1), (8, .long l8), (10, .long l10), (12, .long l12), (14, .long l14), (16, .int l16), (17, .int l17)] dX2_isLess_49 hl (by decide) rfl (fun ls hl => ?_)
         refine v_lload dX2_isLess_51 (lv_at hl 3 rfl) ?_
         refine v_lload dX2_isLess_53 (lv_at hl 4 rfl) ?_
         refine k_J9_floorDiv_f86c9 h qmX2_30 (by decide) hl.1 (Nat.le_of_ble_eq_true rfl) dX2_isLess_55 (fun v2 s h => ?_)
         refine v_lstore [(20, .long v2), (18, .long v1), (8, .long l8), (10, .long l10), (12, .long l12), (14, .long l14), (16, .int l16), (17, .int l17)] dX2_isLess_58 hl (by decide) rfl (fun ls hl => ?_)
         refine v_lload dX2_isLess_60 (lv_at hl 1 rfl) ?_
         refine v_lload dX2_isLess_62 (lv_at hl 0 rfl) ?_
         refine v_lcmp dX2_isLess_64 ?_
         refine v_if_eq 92 dX2_isLess_65 (by decide) h (fun h => ?_) (fun h => ?_)
         · refine v_lload dX2_isLess_92 (lv_at hl 2 rfl) ?_
           refine v_lload dX2_isLess_94 (lv_at hl 3 rfl) ?_
           refine k_J9_floorMod_f86c9 h qmX2_35 (by decide) hl.1 (Nat.le_of_ble_eq_true rfl) dX2_isLess_96 (fun v3 s h => ?_)
           refine v_lstore [(22, .long v3), (20, .long v2), (18, .long v1), (8, .long l8), (10, .long l10), (12, .long l12), (14, .long l14), (16, .int l16), (17, .int l17)] dX2_isLess_99 hl (by decide) rfl (fun ls hl => ?_)
           refine v_lload dX2_isLess_101 (lv_at hl 5 rfl) ?_
           refine v_lload dX2_isLess_103 (lv_at hl 6 rfl) ?_
           refine k_J9_floorMod_f86c9 h qmX2_35 (by decide) hl.1 (Nat.le_of_ble_eq_true rfl) dX2_isLess_105 (fun v4 s h => ?_)
           refine v_lstore [(24, .long v4), (22, .long v3), (20, .long v2), (18, .long v1), (8, .long l8), (10, .long l10), (12, .long l12), (14, .long l14), (16, .int l16), (17, .int l17)] dX2_isLess_108 hl (by decide) rfl (fun ls hl => ?_)
           refine v_lload dX2_isLess_110 (lv_at hl 1 rfl) ?_
           refine v_lconst (0 : Int64) dX2_isLess_112 (by decide) ?_
           refine v_lcmp dX2_isLess_113 ?_
           refine v_if_eq 124 dX2_isLess_114 (by decide) h (fun h => ?_) (fun h => ?_)
           · exact L_X2_isLess_124 N l16 v3 v4 s ls (lv_sub hl [8, 1, 0] rfl) h
           · refine v_lload dX2_isLess_117 (lv_at hl 0 rfl) ?_
             refine v_lconst (0 : Int64) dX2_isLess_119 (by decide) ?_
             refine v_lcmp dX2_isLess_120 ?_
             refine v_if_ne 155 dX2_isLess_121 (by decide) h (fun h => ?_) (fun h => ?_)
             · refine v_lload dX2_isLess_155 (lv_at hl 5 rfl) ?_
               refine v_lstore [(8, .long l10), (24, .long v4), (22, .long v3), (20, .long v2), (18, .long v1), (10, .long l10), (12, .long l12), (14, .long l14), (16, .int l16), (17, .int l17)] dX2_isLess_157 hl (by decide) rfl (fun ls hl => ?_)
               refine v_lload dX2_isLess_159 (lv_at hl 2 rfl) ?_
               refine v_lstore [(10, .long v3), (8, .long l10), (24, .long v4), (22, .long v3), (20, .long v2), (18, .long v1), (12, .long l12), (14, .long l14), (16, .int l16), (17, .int l17)] dX2_isLess_161 hl (by decide) rfl (fun ls hl => ?_)
               refine v_lload dX2_isLess_163 (lv_at hl 7 rfl) ?_
               refine v_lstore [(12, .long l14), (10, .long v3), (8, .long l10), (24, .long v4), (22, .long v3), (20, .long v2), (18, .long v1), (14, .long l14), (16, .int l16), (17, .int l17)] dX2_isLess_165 hl (by decide) rfl (fun ls hl => ?_)
               refine v_lload dX2_isLess_167 (lv_at hl 3 rfl) ?_
               refine v_lstore [(14, .long v4), (12, .long l14), (10, .long v3), (8, .long l10), (24, .long v4), (22, .long v3), (20, .long v2), (18, .long v1), (16, .int l16), (17, .int l17)] dX2_isLess_169 hl (by decide) rfl (fun ls hl => ?_)
               refine v_iload dX2_isLess_171 (lv_at hl 8 rfl) ?_
               refine v_if_ne 180 dX2_isLess_173 (by decide) h (fun h => ?_) (fun h => ?_)
               · refine v_iconst (0 : Int32) dX2_isLess_180 (by decide) ?_
                 exact L_X2_isLess_181 N (H_X2_isLess_20 N n) ih l10 v3 l14 v4 l17 (0 : Int32) s ls (lv_sub hl [3, 2, 1, 0, 9] rfl) h
               · refine v_iconst (1 : Int32) dX2_isLess_176 (by decide) ?_
                 refine v_goto 181 dX2_isLess_177 (by decide) ?_
                 exact L_X2_isLess_181 N (H_X2_isLess_20 N n) ih l10 v3 l14 v4 l17 (1 : Int32) s ls (lv_sub hl [3, 2, 1, 0, 9] rfl) h
             · exact L_X2_isLess_124 N l16 v3 v4 s ls (lv_sub hl [8, 1, 0] rfl) h
         · refine v_lload dX2_isLess_68 (lv_at hl 1 rfl) ?_
           refine v_lload dX2_isLess_70 (lv_at hl 0 rfl) ?_
           refine v_lcmp dX2_isLess_72 ?_
           refine v_if_ge 80 dX2_isLess_73 (by decide) h (fun h => ?_) (fun h => ?_)
           · refine v_iconst (0 : Int32) dX2_isLess_80 (by decide) ?_
             exact L_X2_isLess_81 N l16 (0 : Int32) s ls (lv_sub hl [6] rfl) h
           · refine v_iconst (1 : Int32) dX2_isLess_76 (by decide) ?_
             refine v_goto 81 dX2_isLess_77 (by decide) ?_
             exact L_X2_isLess_81 N l16 (1 : Int32) s ls (lv_sub hl [6] rfl) h
theorem vl_X2_isLess : vCl yX2_isLess cX2_isLess 26 (some .boolean) 4 := ⟨qy_X2_isLess, qjX2, by decide +kernel, by decide +kernel, by decide +kernel⟩
set_option maxHeartbeats 4000000 in
set_option maxRecDepth 100000 in
theorem c_X2_isLess {l : Launch} {D : va_G} {ka : Nat → ClassId} (X0 : VX) (N : Nat) (l0 : Int64) (l2 : Int64) (l4 : Int64) (l6 : Int64) (s sF : vS) (r : Int32) (h : F_X2_isLess N l0 l2 l4 l6 s = some (r, sF)) : vMet l D ka (xb X0) yX2_isLess cX2_isLess 26 (some .boolean) 1 25 [.long l0, .long l2, .long l4, .long l6] s sF (some (.int r)) := by
  unfold F_X2_isLess at h
  refine vMet.of (ini := false) X0 (plainFor_of_name (by decide +kernel)) (Nat.le_of_ble_eq_true rfl) (fun h => by cases h) (fun X ls hb hl => ?_) rfl
  show V X (cX2_isLess, RX2, 26, 1, 25, false) (vRet sF (some (.int r)) (some .boolean)) sF s (G0 X 0 ls [])
  have hl : lv_has ls 26 [(0, .long l0), (2, .long l2), (4, .long l4), (6, .long l6)] := hl
  refine v_lload_n dX2_isLess_0 rfl (lv_at hl 0 rfl) ?_
  refine v_lstore [(8, .long l0), (0, .long l0), (2, .long l2), (4, .long l4), (6, .long l6)] dX2_isLess_1 hl (by decide) rfl (fun ls hl => ?_)
  refine v_lload_n dX2_isLess_3 rfl (lv_at hl 2 rfl) ?_
  refine v_lstore [(10, .long l2), (8, .long l0), (0, .long l0), (2, .long l2), (4, .long l4), (6, .long l6)] dX2_isLess_4 hl (by decide) rfl (fun ls hl => ?_)
  refine v_lload dX2_isLess_6 (lv_at hl 4 rfl) ?_
  refine v_lstore [(12, .long l4), (10, .long l2), (8, .long l0), (0, .long l0), (2, .long l2), (4, .long l4), (6, .long l6)] dX2_isLess_8 hl (by decide) rfl (fun ls hl => ?_)
  refine v_lload dX2_isLess_10 (lv_at hl 6 rfl) ?_
  refine v_lstore [(14, .long l6), (12, .long l4), (10, .long l2), (8, .long l0), (0, .long l0), (2, .long l2), (4, .long l4), (6, .long l6)] dX2_isLess_12 hl (by decide) rfl (fun ls hl => ?_)
  refine v_iconst (0 : Int32) dX2_isLess_14 (by decide) ?_
  refine v_istore [(16, .int (0 : Int32)), (14, .long l6), (12, .long l4), (10, .long l2), (8, .long l0), (0, .long l0), (2, .long l2), (4, .long l4), (6, .long l6)] dX2_isLess_15 hl (by decide) rfl (fun ls hl => ?_)
  refine v_iconst (0 : Int32) dX2_isLess_17 (by decide) ?_
  refine v_istore [(17, .int (0 : Int32)), (16, .int (0 : Int32)), (14, .long l6), (12, .long l4), (10, .long l2), (8, .long l0), (0, .long l0), (2, .long l2), (4, .long l4), (6, .long l6)] dX2_isLess_18 hl (by decide) rfl (fun ls hl => ?_)
  exact L_X2_isLess_20 N N l0 l2 l4 l6 (0 : Int32) (0 : Int32) s ls (lv_sub hl [5, 4, 3, 2, 1, 0] rfl) h
theorem k_X2_isLess {X : VX} {cc : ByteArray} {own : String} {nL fr lo : Nat} {ini : Bool} {E : VX → Prop} {sF s : vS} {ρ : Type} {res : ρ} {pc : Nat} {ls : Array Slot} {rest : List Value} {N index : Nat} {l0 : Int64} {l2 : Int64} {l4 : Int64} {l6 : Int64} {f : Int32 → vS → Option ρ} (h : bnd (F_X2_isLess N l0 l2 l4 l6 s) f = some res) (hlink : Cond.methodLink own index yX2_isLess ∈ TT) (hR : 1 + 1 ≤ fr ∧ 8 + (26 + 11) + 25 ≤ lo) (hls : ls.size = nL) (hr : (rest.map fun v => v.category).sum ≤ 8) (hdg : decode cc pc = .ok (.invokestatic index, 3)) (kk : ∀ r s', f r s' = some res → V X (cc, own, nL, fr, lo, ini) E sF s' (G0 X (pc + 3) ls (.int r :: rest))) : V X (cc, own, nL, fr, lo, ini) E sF s (G0 X pc ls (.long l6 :: .long l4 :: .long l2 :: .long l0 :: rest)) := by
  obtain ⟨r, s', e, h⟩ := bnd_some h
  exact v_callS (As := [.long l0, .long l2, .long l4, .long l6]) (rest := rest) (c_X2_isLess X N l0 l2 l4 l6 s s' r e) vl_X2_isLess qs_X2_isLess hlink hR rfl rfl hls hr hdg (kk r s' h)
set_option maxHeartbeats 4000000 in
set_option maxRecDepth 100000 in
theorem L_X3_become_10 {X : VX} {sF : vS} {r : Unit} (N : Nat) : ∀ (n : Nat) (a0 : Nat) (a1 : Nat) (l2 : Int32) (s : vS) (ls : Array Slot), lv_has ls 3 [(0, .ref (xb X + a0)), (1, .ref (xb X + a1)), (2, .int l2)] → H_X3_become_10 N n a0 a1 l2 s = some (r, sF) → V X (cX3_become, RX3, 3, 0, 0, false) (vRet sF none none) sF s (G0 X 10 ls []) := by
  intro n
  induction n with
  | zero => intro a0 a1 l2 s ls hl h; cases h
  | succ n ih =>
   intro a0 a1 l2 s ls hl h
   unfold H_X3_become_10 at h
   refine v_iload_n dX3_become_10 rfl (lv_at hl 2 rfl) ?_
   refine v_bipush (8 : Int32) dX3_become_11 (by decide) ?_
   refine v_icmp_ge 34 dX3_become_13 (by decide) h (fun h => ?_) (fun h => ?_)
   · exact v_vret dX3_become_34 h
   · refine v_aload_n dX3_become_16 rfl (lv_at hl 0 rfl) ?_
     refine v_getR 3 1 h (by decide) rfl qfX3_15 dX3_become_17 (fun r2 h => ?_)
     refine v_iload_n dX3_become_20 rfl (lv_at hl 2 rfl) ?_
     refine v_aload_n dX3_become_21 rfl (lv_at hl 1 rfl) ?_
     refine v_getR 3 1 h (by decide) rfl qfX3_15 dX3_become_22 (fun r3 h => ?_)
     refine v_iload_n dX3_become_25 rfl (lv_at hl 2 rfl) ?_
     refine v_iald dX3_become_26 h (fun v4 h => ?_)
     refine v_iast dX3_become_27 h (fun s h => ?_)
     refine v_inc (fun z => [(2, .int z), (0, .ref (xb X + a0)), (1, .ref (xb X + a1))]) dX3_become_28 h hl (k := 2) rfl (by rfl) (by decide) (fun _ => rfl) (fun l2_5 ls hl h => ?_)
     refine v_goto 10 dX3_become_31 (by decide) ?_
     exact ih a0 a1 l2_5 s ls (lv_sub hl [1, 2, 0] rfl) h
theorem vl_X3_become : vCl yX3_become cX3_become 3 none 1 := ⟨qy_X3_become, qjX3, by decide +kernel, by decide +kernel, by decide +kernel⟩
set_option maxHeartbeats 4000000 in
set_option maxRecDepth 100000 in
theorem c_X3_become {l : Launch} {D : va_G} {ka : Nat → ClassId} (X0 : VX) (N : Nat) (a0 : Nat) (a1 : Nat) (s sF : vS) (r : Unit) (h : F_X3_become N a0 a1 s = some (r, sF)) : isO s a0 3 = true ∧ vMet l D ka (xb X0) yX3_become cX3_become 3 none 0 0 [.ref (xb X0 + a0), .ref (xb X0 + a1)] s sF none := by
  unfold F_X3_become at h
  unfold rcv at h
  obtain ⟨hO, h⟩ := v_chk h
  refine ⟨hO, vMet.of (ini := false) X0 (plainFor_of_name (by decide +kernel)) (Nat.le_of_ble_eq_true rfl) (fun h => by cases h) (fun X ls hb hl => ?_) rfl⟩
  show V X (cX3_become, RX3, 3, 0, 0, false) (vRet sF none none) sF s (G0 X 0 ls [])
  rw [← hb] at hl
  have hl : lv_has ls 3 [(0, .ref (xb X + a0)), (1, .ref (xb X + a1))] := hl
  refine v_aload_n dX3_become_0 rfl (lv_at hl 0 rfl) ?_
  refine v_aload_n dX3_become_1 rfl (lv_at hl 1 rfl) ?_
  refine v_getI 3 0 h (by decide) (Or.inl rfl) qfX3_9 dX3_become_2 (fun v1 h => ?_)
  refine v_putI 3 0 h (by decide) rfl (Or.inl rfl) qfX3_9 dX3_become_5 (fun s h => ?_)
  refine v_iconst (0 : Int32) dX3_become_8 (by decide) ?_
  refine v_istore_n [(2, .int (0 : Int32)), (0, .ref (xb X + a0)), (1, .ref (xb X + a1))] dX3_become_9 rfl hl (by decide) rfl (fun ls hl => ?_)
  exact L_X3_become_10 N N a0 a1 (0 : Int32) s ls (lv_sub hl [1, 2, 0] rfl) h
theorem k_X3_become {X : VX} {cc : ByteArray} {own : String} {nL fr lo : Nat} {ini : Bool} {E : VX → Prop} {sF s : vS} {ρ : Type} {res : ρ} {pc : Nat} {ls : Array Slot} {rest : List Value} {N index : Nat} {a0 : Nat} {a1 : Nat} {f : Unit → vS → Option ρ} (h : bnd (F_X3_become N a0 a1 s) f = some res) (hlink : Cond.methodLink own index yX3_become ∈ TT) (hR : 0 + 1 ≤ fr ∧ 8 + (3 + 11) + 0 ≤ lo) (hls : ls.size = nL) (hr : (rest.map fun v => v.category).sum ≤ 8) (hdg : decode cc pc = .ok (.invokevirtual index, 3)) (kk : ∀ r s', f r s' = some res → V X (cc, own, nL, fr, lo, ini) E sF s' (G0 X (pc + 3) ls (rest))) : V X (cc, own, nL, fr, lo, ini) E sF s (G0 X pc ls (.ref (xb X + a1) :: .ref (xb X + a0) :: rest)) := by
  obtain ⟨r, s', e, h⟩ := bnd_some h
  exact v_callV (b := a0) (ci := 3) (As := [.ref (xb X + a1)]) (rest := rest) (c_X3_become X N a0 a1 s s' r e).2 (c_X3_become (l := xl X) (D := xD X) (ka := xka X) X N a0 a1 s s' r e).1 rfl vl_X3_become qi_X3_become qe_X3_become hlink hR rfl rfl hls hr hdg (kk r s' h)
set_option maxHeartbeats 4000000 in
set_option maxRecDepth 100000 in
theorem L_X3_joins_34 {X : VX} {sF : vS} {r : Int32} (N : Nat) (k0 : Int32) (s : vS) (ls : Array Slot) (hl : lv_has ls 3 []) (h : J_X3_joins_34 N k0 s = some (r, sF)) : V X (cX3_joins, RX3, 3, 1, 21, false) (vRet sF (some (.int r)) (some .boolean)) sF s (G0 X 34 ls [.int k0]) := by
  unfold J_X3_joins_34 at h
  exact v_zret dX3_joins_34 h
set_option maxHeartbeats 4000000 in
set_option maxRecDepth 100000 in
theorem L_X3_joins_33 {X : VX} {sF : vS} {r : Int32} (N : Nat) (s : vS) (ls : Array Slot) (hl : lv_has ls 3 []) (h : J_X3_joins_33 N  s = some (r, sF)) : V X (cX3_joins, RX3, 3, 1, 21, false) (vRet sF (some (.int r)) (some .boolean)) sF s (G0 X 33 ls []) := by
  unfold J_X3_joins_33 at h
  refine v_iconst (0 : Int32) dX3_joins_33 (by decide) ?_
  exact L_X3_joins_34 N (0 : Int32) s ls (lv_sub hl [] rfl) h
theorem vl_X3_joins : vCl yX3_joins cX3_joins 3 (some .boolean) 2 := ⟨qy_X3_joins, qjX3, by decide +kernel, by decide +kernel, by decide +kernel⟩
set_option maxHeartbeats 4000000 in
set_option maxRecDepth 100000 in
theorem c_X3_joins {l : Launch} {D : va_G} {ka : Nat → ClassId} (X0 : VX) (N : Nat) (a0 : Nat) (l1 : Int32) (l2 : Int32) (s sF : vS) (r : Int32) (h : F_X3_joins N a0 l1 l2 s = some (r, sF)) : isO s a0 3 = true ∧ vMet l D ka (xb X0) yX3_joins cX3_joins 3 (some .boolean) 1 21 [.ref (xb X0 + a0), .int l1, .int l2] s sF (some (.int r)) := by
  unfold F_X3_joins at h
  unfold rcv at h
  obtain ⟨hO, h⟩ := v_chk h
  refine ⟨hO, vMet.of (ini := false) X0 (plainFor_of_name (by decide +kernel)) (Nat.le_of_ble_eq_true rfl) (fun h => by cases h) (fun X ls hb hl => ?_) rfl⟩
  show V X (cX3_joins, RX3, 3, 1, 21, false) (vRet sF (some (.int r)) (some .boolean)) sF s (G0 X 0 ls [])
  rw [← hb] at hl
  have hl : lv_has ls 3 [(0, .ref (xb X + a0)), (1, .int l1), (2, .int l2)] := hl
  refine v_aload_n dX3_joins_0 rfl (lv_at hl 0 rfl) ?_
  refine v_iload_n dX3_joins_1 rfl (lv_at hl 1 rfl) ?_
  refine k_X3_has h qmX3_44 (by decide) hl.1 (Nat.le_of_ble_eq_true rfl) dX3_joins_2 (fun v1 s h => ?_)
  refine v_if_eq 33 dX3_joins_5 (by decide) h (fun h => ?_) (fun h => ?_)
  · exact L_X3_joins_33 N  s ls (lv_sub hl [] rfl) h
  · refine v_aload_n dX3_joins_8 rfl (lv_at hl 0 rfl) ?_
    refine v_iload_n dX3_joins_9 rfl (lv_at hl 2 rfl) ?_
    refine k_X3_has h qmX3_44 (by decide) hl.1 (Nat.le_of_ble_eq_true rfl) dX3_joins_10 (fun v2 s h => ?_)
    refine v_if_eq 33 dX3_joins_13 (by decide) h (fun h => ?_) (fun h => ?_)
    · exact L_X3_joins_33 N  s ls (lv_sub hl [] rfl) h
    · refine v_aload_n dX3_joins_16 rfl (lv_at hl 0 rfl) ?_
      refine v_getR 3 1 h (by decide) rfl qfX3_15 dX3_joins_17 (fun r3 h => ?_)
      refine v_iload_n dX3_joins_20 rfl (lv_at hl 1 rfl) ?_
      refine v_iald dX3_joins_21 h (fun v4 h => ?_)
      refine v_iload_n dX3_joins_22 rfl (lv_at hl 2 rfl) ?_
      refine v_ishr dX3_joins_23 ?_
      refine v_iconst (1 : Int32) dX3_joins_24 (by decide) ?_
      refine v_iand dX3_joins_25 ?_
      refine v_if_eq 33 dX3_joins_26 (by decide) h (fun h => ?_) (fun h => ?_)
      · exact L_X3_joins_33 N  s ls (lv_sub hl [] rfl) h
      · refine v_iconst (1 : Int32) dX3_joins_29 (by decide) ?_
        refine v_goto 34 dX3_joins_30 (by decide) ?_
        exact L_X3_joins_34 N (1 : Int32) s ls (lv_sub hl [] rfl) h
theorem k_X3_joins {X : VX} {cc : ByteArray} {own : String} {nL fr lo : Nat} {ini : Bool} {E : VX → Prop} {sF s : vS} {ρ : Type} {res : ρ} {pc : Nat} {ls : Array Slot} {rest : List Value} {N index : Nat} {a0 : Nat} {l1 : Int32} {l2 : Int32} {f : Int32 → vS → Option ρ} (h : bnd (F_X3_joins N a0 l1 l2 s) f = some res) (hlink : Cond.methodLink own index yX3_joins ∈ TT) (hR : 1 + 1 ≤ fr ∧ 8 + (3 + 11) + 21 ≤ lo) (hls : ls.size = nL) (hr : (rest.map fun v => v.category).sum ≤ 8) (hdg : decode cc pc = .ok (.invokevirtual index, 3)) (kk : ∀ r s', f r s' = some res → V X (cc, own, nL, fr, lo, ini) E sF s' (G0 X (pc + 3) ls (.int r :: rest))) : V X (cc, own, nL, fr, lo, ini) E sF s (G0 X pc ls (.int l2 :: .int l1 :: .ref (xb X + a0) :: rest)) := by
  obtain ⟨r, s', e, h⟩ := bnd_some h
  exact v_callV (b := a0) (ci := 3) (As := [.int l1, .int l2]) (rest := rest) (c_X3_joins X N a0 l1 l2 s s' r e).2 (c_X3_joins (l := xl X) (D := xD X) (ka := xka X) X N a0 l1 l2 s s' r e).1 rfl vl_X3_joins qi_X3_joins qe_X3_joins hlink hR rfl rfl hls hr hdg (kk r s' h)
set_option maxHeartbeats 4000000 in
set_option maxRecDepth 100000 in
theorem L_X3_lines_4 {X : VX} {sF : vS} {r : Int32} (N : Nat) : ∀ (n : Nat) (a0 : Nat) (l1 : Int32) (l2 : Int32) (s : vS) (ls : Array Slot), lv_has ls 3 [(0, .ref (xb X + a0)), (1, .int l1), (2, .int l2)] → H_X3_lines_4 N n a0 l1 l2 s = some (r, sF) → V X (cX3_lines, RX3, 3, 1, 20, false) (vRet sF (some (.int r)) (some .int)) sF s (G0 X 4 ls []) := by
  intro n
  induction n with
  | zero => intro a0 l1 l2 s ls hl h; cases h
  | succ n ih =>
   intro a0 l1 l2 s ls hl h
   unfold H_X3_lines_4 at h
   refine v_iload_n dX3_lines_4 rfl (lv_at hl 2 rfl) ?_
   refine v_aload_n dX3_lines_5 rfl (lv_at hl 0 rfl) ?_
   refine v_getI 3 0 h (by decide) (Or.inl rfl) qfX3_9 dX3_lines_6 (fun v1 h => ?_)
   refine v_icmp_ge 30 dX3_lines_9 (by decide) h (fun h => ?_) (fun h => ?_)
   · refine v_iload_n dX3_lines_30 rfl (lv_at hl 1 rfl) ?_
     refine v_iconst (2 : Int32) dX3_lines_31 (by decide) ?_
     refine v_idiv dX3_lines_32 h (fun h => ?_)
     exact v_iret dX3_lines_33 h
   · refine v_iload_n dX3_lines_12 rfl (lv_at hl 1 rfl) ?_
     refine v_aload_n dX3_lines_13 rfl (lv_at hl 0 rfl) ?_
     refine v_getR 3 1 h (by decide) rfl qfX3_15 dX3_lines_14 (fun r2 h => ?_)
     refine v_iload_n dX3_lines_17 rfl (lv_at hl 2 rfl) ?_
     refine v_iald dX3_lines_18 h (fun v3 h => ?_)
     refine k_J6_bitCount_0f7a4 h qmX3_48 (by decide) hl.1 (Nat.le_of_ble_eq_true rfl) dX3_lines_19 (fun v4 s h => ?_)
     refine v_iadd dX3_lines_22 ?_
     refine v_nmI h (fun l1_5 h => ?_)
     refine v_istore_n [(1, .int l1_5), (0, .ref (xb X + a0)), (2, .int l2)] dX3_lines_23 rfl hl (by decide) rfl (fun ls hl => ?_)
     refine v_inc (fun z => [(2, .int z), (1, .int l1_5), (0, .ref (xb X + a0))]) dX3_lines_24 h hl (k := 2) rfl (by rfl) (by decide) (fun _ => rfl) (fun l2_6 ls hl h => ?_)
     refine v_goto 4 dX3_lines_27 (by decide) ?_
     exact ih a0 l1_5 l2_6 s ls (lv_sub hl [2, 1, 0] rfl) h
theorem vl_X3_lines : vCl yX3_lines cX3_lines 3 (some .int) 0 := ⟨qy_X3_lines, qjX3, by decide +kernel, by decide +kernel, by decide +kernel⟩
set_option maxHeartbeats 4000000 in
set_option maxRecDepth 100000 in
theorem c_X3_lines {l : Launch} {D : va_G} {ka : Nat → ClassId} (X0 : VX) (N : Nat) (a0 : Nat) (s sF : vS) (r : Int32) (h : F_X3_lines N a0 s = some (r, sF)) : isO s a0 3 = true ∧ vMet l D ka (xb X0) yX3_lines cX3_lines 3 (some .int) 1 20 [.ref (xb X0 + a0)] s sF (some (.int r)) := by
  unfold F_X3_lines at h
  unfold rcv at h
  obtain ⟨hO, h⟩ := v_chk h
  refine ⟨hO, vMet.of (ini := false) X0 (plainFor_of_name (by decide +kernel)) (Nat.le_of_ble_eq_true rfl) (fun h => by cases h) (fun X ls hb hl => ?_) rfl⟩
  show V X (cX3_lines, RX3, 3, 1, 20, false) (vRet sF (some (.int r)) (some .int)) sF s (G0 X 0 ls [])
  rw [← hb] at hl
  have hl : lv_has ls 3 [(0, .ref (xb X + a0))] := hl
  refine v_iconst (0 : Int32) dX3_lines_0 (by decide) ?_
  refine v_istore_n [(1, .int (0 : Int32)), (0, .ref (xb X + a0))] dX3_lines_1 rfl hl (by decide) rfl (fun ls hl => ?_)
  refine v_iconst (0 : Int32) dX3_lines_2 (by decide) ?_
  refine v_istore_n [(2, .int (0 : Int32)), (1, .int (0 : Int32)), (0, .ref (xb X + a0))] dX3_lines_3 rfl hl (by decide) rfl (fun ls hl => ?_)
  exact L_X3_lines_4 N N a0 (0 : Int32) (0 : Int32) s ls (lv_sub hl [2, 1, 0] rfl) h
theorem k_X3_lines {X : VX} {cc : ByteArray} {own : String} {nL fr lo : Nat} {ini : Bool} {E : VX → Prop} {sF s : vS} {ρ : Type} {res : ρ} {pc : Nat} {ls : Array Slot} {rest : List Value} {N index : Nat} {a0 : Nat} {f : Int32 → vS → Option ρ} (h : bnd (F_X3_lines N a0 s) f = some res) (hlink : Cond.methodLink own index yX3_lines ∈ TT) (hR : 1 + 1 ≤ fr ∧ 8 + (3 + 11) + 20 ≤ lo) (hls : ls.size = nL) (hr : (rest.map fun v => v.category).sum ≤ 8) (hdg : decode cc pc = .ok (.invokevirtual index, 3)) (kk : ∀ r s', f r s' = some res → V X (cc, own, nL, fr, lo, ini) E sF s' (G0 X (pc + 3) ls (.int r :: rest))) : V X (cc, own, nL, fr, lo, ini) E sF s (G0 X pc ls (.ref (xb X + a0) :: rest)) := by
  obtain ⟨r, s', e, h⟩ := bnd_some h
  exact v_callV (b := a0) (ci := 3) (As := []) (rest := rest) (c_X3_lines X N a0 s s' r e).2 (c_X3_lines (l := xl X) (D := xD X) (ka := xka X) X N a0 s s' r e).1 rfl vl_X3_lines qi_X3_lines qe_X3_lines hlink hR rfl rfl hls hr hdg (kk r s' h)
set_option maxHeartbeats 4000000 in
set_option maxRecDepth 100000 in
theorem L_X3_mostLines_4 {X : VX} {sF : vS} {r : Int32} (N : Nat) : ∀ (n : Nat) (a0 : Nat) (l1 : Int32) (l2 : Int32) (s : vS) (ls : Array Slot), lv_has ls 3 [(0, .ref (xb X + a0)), (1, .int l1), (2, .int l2)] → H_X3_mostLines_4 N n a0 l1 l2 s = some (r, sF) → V X (cX3_mostLines, RX3, 3, 1, 21, false) (vRet sF (some (.int r)) (some .int)) sF s (G0 X 4 ls []) := by
  intro n
  induction n with
  | zero => intro a0 l1 l2 s ls hl h; cases h
  | succ n ih =>
   intro a0 l1 l2 s ls hl h
   unfold H_X3_mostLines_4 at h
   refine v_iload_n dX3_mostLines_4 rfl (lv_at hl 2 rfl) ?_
   refine v_aload_n dX3_mostLines_5 rfl (lv_at hl 0 rfl) ?_
   refine v_getI 3 0 h (by decide) (Or.inl rfl) qfX3_9 dX3_mostLines_6 (fun v1 h => ?_)
   refine v_icmp_ge 32 dX3_mostLines_9 (by decide) h (fun h => ?_) (fun h => ?_)
   · refine v_iload_n dX3_mostLines_32 rfl (lv_at hl 1 rfl) ?_
     exact v_iret dX3_mostLines_33 h
   · refine v_iload_n dX3_mostLines_12 rfl (lv_at hl 1 rfl) ?_
     refine v_aload_n dX3_mostLines_13 rfl (lv_at hl 0 rfl) ?_
     refine v_getR 3 1 h (by decide) rfl qfX3_15 dX3_mostLines_14 (fun r2 h => ?_)
     refine v_iload_n dX3_mostLines_17 rfl (lv_at hl 2 rfl) ?_
     refine v_iald dX3_mostLines_18 h (fun v3 h => ?_)
     refine k_J6_bitCount_0f7a4 h qmX3_48 (by decide) hl.1 (Nat.le_of_ble_eq_true rfl) dX3_mostLines_19 (fun v4 s h => ?_)
     refine k_J9_max_7cf53 h qmX3_28 (by decide) hl.1 (Nat.le_of_ble_eq_true rfl) dX3_mostLines_22 (fun v5 s h => ?_)
     refine v_istore_n [(1, .int v5), (0, .ref (xb X + a0)), (2, .int l2)] dX3_mostLines_25 rfl hl (by decide) rfl (fun ls hl => ?_)
     refine v_inc (fun z => [(2, .int z), (1, .int v5), (0, .ref (xb X + a0))]) dX3_mostLines_26 h hl (k := 2) rfl (by rfl) (by decide) (fun _ => rfl) (fun l2_6 ls hl h => ?_)
     refine v_goto 4 dX3_mostLines_29 (by decide) ?_
     exact ih a0 v5 l2_6 s ls (lv_sub hl [2, 1, 0] rfl) h
theorem vl_X3_mostLines : vCl yX3_mostLines cX3_mostLines 3 (some .int) 0 := ⟨qy_X3_mostLines, qjX3, by decide +kernel, by decide +kernel, by decide +kernel⟩
set_option maxHeartbeats 4000000 in
set_option maxRecDepth 100000 in
theorem c_X3_mostLines {l : Launch} {D : va_G} {ka : Nat → ClassId} (X0 : VX) (N : Nat) (a0 : Nat) (s sF : vS) (r : Int32) (h : F_X3_mostLines N a0 s = some (r, sF)) : isO s a0 3 = true ∧ vMet l D ka (xb X0) yX3_mostLines cX3_mostLines 3 (some .int) 1 21 [.ref (xb X0 + a0)] s sF (some (.int r)) := by
  unfold F_X3_mostLines at h
  unfold rcv at h
  obtain ⟨hO, h⟩ := v_chk h
  refine ⟨hO, vMet.of (ini := false) X0 (plainFor_of_name (by decide +kernel)) (Nat.le_of_ble_eq_true rfl) (fun h => by cases h) (fun X ls hb hl => ?_) rfl⟩
  show V X (cX3_mostLines, RX3, 3, 1, 21, false) (vRet sF (some (.int r)) (some .int)) sF s (G0 X 0 ls [])
  rw [← hb] at hl
  have hl : lv_has ls 3 [(0, .ref (xb X + a0))] := hl
  refine v_iconst (0 : Int32) dX3_mostLines_0 (by decide) ?_
  refine v_istore_n [(1, .int (0 : Int32)), (0, .ref (xb X + a0))] dX3_mostLines_1 rfl hl (by decide) rfl (fun ls hl => ?_)
  refine v_iconst (0 : Int32) dX3_mostLines_2 (by decide) ?_
  refine v_istore_n [(2, .int (0 : Int32)), (1, .int (0 : Int32)), (0, .ref (xb X + a0))] dX3_mostLines_3 rfl hl (by decide) rfl (fun ls hl => ?_)
  exact L_X3_mostLines_4 N N a0 (0 : Int32) (0 : Int32) s ls (lv_sub hl [2, 1, 0] rfl) h
theorem k_X3_mostLines {X : VX} {cc : ByteArray} {own : String} {nL fr lo : Nat} {ini : Bool} {E : VX → Prop} {sF s : vS} {ρ : Type} {res : ρ} {pc : Nat} {ls : Array Slot} {rest : List Value} {N index : Nat} {a0 : Nat} {f : Int32 → vS → Option ρ} (h : bnd (F_X3_mostLines N a0 s) f = some res) (hlink : Cond.methodLink own index yX3_mostLines ∈ TT) (hR : 1 + 1 ≤ fr ∧ 8 + (3 + 11) + 21 ≤ lo) (hls : ls.size = nL) (hr : (rest.map fun v => v.category).sum ≤ 8) (hdg : decode cc pc = .ok (.invokevirtual index, 3)) (kk : ∀ r s', f r s' = some res → V X (cc, own, nL, fr, lo, ini) E sF s' (G0 X (pc + 3) ls (.int r :: rest))) : V X (cc, own, nL, fr, lo, ini) E sF s (G0 X pc ls (.ref (xb X + a0) :: rest)) := by
  obtain ⟨r, s', e, h⟩ := bnd_some h
  exact v_callV (b := a0) (ci := 3) (As := []) (rest := rest) (c_X3_mostLines X N a0 s s' r e).2 (c_X3_mostLines (l := xl X) (D := xD X) (ka := xka X) X N a0 s s' r e).1 rfl vl_X3_mostLines qi_X3_mostLines qe_X3_mostLines hlink hR rfl rfl hls hr hdg (kk r s' h)
set_option maxHeartbeats 4000000 in
set_option maxRecDepth 100000 in
theorem L_X3_evenTriples_64 {X : VX} {sF : vS} {r : Int32} (N : Nat) (k4 : Nat → Int32 → Int32 → vS → Option (Int32 × vS)) (k14 : Nat → Int32 → Int32 → Int32 → vS → Option (Int32 × vS)) (k22 : Nat → Int32 → Int32 → Int32 → Int32 → vS → Option (Int32 × vS)) (hk4 : ∀ (a0 : Nat) (l1 : Int32) (l2 : Int32) (s : vS) (ls : Array Slot), lv_has ls 5 [(0, .ref (xb X + a0)), (1, .int l1), (2, .int l2)] → k4 a0 l1 l2 s = some (r, sF) → V X (cX3_evenTriples, RX3, 5, 2, 43, false) (vRet sF (some (.int r)) (some .int)) sF s (G0 X 4 ls [])) (hk14 : ∀ (a0 : Nat) (l1 : Int32) (l2 : Int32) (l3 : Int32) (s : vS) (ls : Array Slot), lv_has ls 5 [(0, .ref (xb X + a0)), (1, .int l1), (2, .int l2), (3, .int l3)] → k14 a0 l1 l2 l3 s = some (r, sF) → V X (cX3_evenTriples, RX3, 5, 2, 43, false) (vRet sF (some (.int r)) (some .int)) sF s (G0 X 14 ls [])) (hk22 : ∀ (a0 : Nat) (l1 : Int32) (l2 : Int32) (l3 : Int32) (l4 : Int32) (s : vS) (ls : Array Slot), lv_has ls 5 [(0, .ref (xb X + a0)), (1, .int l1), (2, .int l2), (3, .int l3), (4, .int l4)] → k22 a0 l1 l2 l3 l4 s = some (r, sF) → V X (cX3_evenTriples, RX3, 5, 2, 43, false) (vRet sF (some (.int r)) (some .int)) sF s (G0 X 22 ls [])) (a0 : Nat) (l1 : Int32) (l2 : Int32) (l3 : Int32) (l4 : Int32) (s : vS) (ls : Array Slot) (hl : lv_has ls 5 [(0, .ref (xb X + a0)), (1, .int l1), (2, .int l2), (3, .int l3), (4, .int l4)]) (h : J_X3_evenTriples_64 N k4 k14 k22 a0 l1 l2 l3 l4 s = some (r, sF)) : V X (cX3_evenTriples, RX3, 5, 2, 43, false) (vRet sF (some (.int r)) (some .int)) sF s (G0 X 64 ls []) := by
  unfold J_X3_evenTriples_64 at h
  refine v_inc (fun z => [(4, .int z), (0, .ref (xb X + a0)), (1, .int l1), (2, .int l2), (3, .int l3)]) dX3_evenTriples_64 h hl (k := 4) rfl (by rfl) (by decide) (fun _ => rfl) (fun l4_9 ls hl h => ?_)
  refine v_goto 22 dX3_evenTriples_67 (by decide) ?_
  exact hk22 a0 l1 l2 l3 l4_9 s ls (lv_sub hl [1, 2, 3, 4, 0] rfl) h
set_option maxHeartbeats 4000000 in
set_option maxRecDepth 100000 in
theorem L_X3_evenTriples_22 {X : VX} {sF : vS} {r : Int32} (N : Nat) (k4 : Nat → Int32 → Int32 → vS → Option (Int32 × vS)) (k14 : Nat → Int32 → Int32 → Int32 → vS → Option (Int32 × vS)) (hk4 : ∀ (a0 : Nat) (l1 : Int32) (l2 : Int32) (s : vS) (ls : Array Slot), lv_has ls 5 [(0, .ref (xb X + a0)), (1, .int l1), (2, .int l2)] → k4 a0 l1 l2 s = some (r, sF) → V X (cX3_evenTriples, RX3, 5, 2, 43, false) (vRet sF (some (.int r)) (some .int)) sF s (G0 X 4 ls [])) (hk14 : ∀ (a0 : Nat) (l1 : Int32) (l2 : Int32) (l3 : Int32) (s : vS) (ls : Array Slot), lv_has ls 5 [(0, .ref (xb X + a0)), (1, .int l1), (2, .int l2), (3, .int l3)] → k14 a0 l1 l2 l3 s = some (r, sF) → V X (cX3_evenTriples, RX3, 5, 2, 43, false) (vRet sF (some (.int r)) (some .int)) sF s (G0 X 14 ls [])) : ∀ (n : Nat) (a0 : Nat) (l1 : Int32) (l2 : Int32) (l3 : Int32) (l4 : Int32) (s : vS) (ls : Array Slot), lv_has ls 5 [(0, .ref (xb X + a0)), (1, .int l1), (2, .int l2), (3, .int l3), (4, .int l4)] → H_X3_evenTriples_22 N k4 k14 n a0 l1 l2 l3 l4 s = some (r, sF) → V X (cX3_evenTriples, RX3, 5, 2, 43, false) (vRet sF (some (.int r)) (some .int)) sF s (G0 X 22 ls []) := by
  intro n
  induction n with
  | zero => intro a0 l1 l2 l3 l4 s ls hl h; cases h
  | succ n ih =>
   intro a0 l1 l2 l3 l4 s ls hl h
   unfold H_X3_evenTriples_22 at h
   refine v_iload dX3_evenTriples_22 (lv_at hl 4 rfl) ?_
   refine v_iload_n dX3_evenTriples_24 rfl (lv_at hl 3 rfl) ?_
   refine v_icmp_ge 70 dX3_evenTriples_25 (by decide) h (fun h => ?_) (fun h => ?_)
   · refine v_inc (fun z => [(3, .int z), (0, .ref (xb X + a0)), (1, .int l1), (2, .int l2), (4, .int l4)]) dX3_evenTriples_70 h hl (k := 3) rfl (by rfl) (by decide) (fun _ => rfl) (fun l3_3 ls hl h => ?_)
     refine v_goto 14 dX3_evenTriples_73 (by decide) ?_
     exact hk14 a0 l1 l2 l3_3 s ls (lv_sub hl [1, 2, 3, 0] rfl) h
   · refine v_aload_n dX3_evenTriples_28 rfl (lv_at hl 0 rfl) ?_
     refine v_iload dX3_evenTriples_29 (lv_at hl 4 rfl) ?_
     refine v_iload_n dX3_evenTriples_31 rfl (lv_at hl 3 rfl) ?_
     refine k_X3_joins h qmX3_54 (by decide) hl.1 (Nat.le_of_ble_eq_true rfl) dX3_evenTriples_32 (fun v4 s h => ?_)
     refine v_aload_n dX3_evenTriples_35 rfl (lv_at hl 0 rfl) ?_
     refine v_iload dX3_evenTriples_36 (lv_at hl 4 rfl) ?_
     refine v_iload_n dX3_evenTriples_38 rfl (lv_at hl 2 rfl) ?_
     refine k_X3_joins h qmX3_54 (by decide) hl.1 (Nat.le_of_ble_eq_true rfl) dX3_evenTriples_39 (fun v5 s h => ?_)
     refine v_icmp_ne 64 dX3_evenTriples_42 (by decide) h (fun h => ?_) (fun h => ?_)
     · exact L_X3_evenTriples_64 N k4 k14 (H_X3_evenTriples_22 N k4 k14 n) hk4 hk14 ih a0 l1 l2 l3 l4 s ls (lv_sub hl [0, 1, 2, 3, 4] rfl) h
     · refine v_aload_n dX3_evenTriples_45 rfl (lv_at hl 0 rfl) ?_
       refine v_iload dX3_evenTriples_46 (lv_at hl 4 rfl) ?_
       refine v_iload_n dX3_evenTriples_48 rfl (lv_at hl 2 rfl) ?_
       refine k_X3_joins h qmX3_54 (by decide) hl.1 (Nat.le_of_ble_eq_true rfl) dX3_evenTriples_49 (fun v6 s h => ?_)
       refine v_aload_n dX3_evenTriples_52 rfl (lv_at hl 0 rfl) ?_
       refine v_iload_n dX3_evenTriples_53 rfl (lv_at hl 3 rfl) ?_
       refine v_iload_n dX3_evenTriples_54 rfl (lv_at hl 2 rfl) ?_
       refine k_X3_joins h qmX3_54 (by decide) hl.1 (Nat.le_of_ble_eq_true rfl) dX3_evenTriples_55 (fun v7 s h => ?_)
       refine v_icmp_ne 64 dX3_evenTriples_58 (by decide) h (fun h => ?_) (fun h => ?_)
       · exact L_X3_evenTriples_64 N k4 k14 (H_X3_evenTriples_22 N k4 k14 n) hk4 hk14 ih a0 l1 l2 l3 l4 s ls (lv_sub hl [0, 1, 2, 3, 4] rfl) h
       · refine v_inc (fun z => [(1, .int z), (0, .ref (xb X + a0)), (2, .int l2), (3, .int l3), (4, .int l4)]) dX3_evenTriples_61 h hl (k := 1) rfl (by rfl) (by decide) (fun _ => rfl) (fun l1_8 ls hl h => ?_)
         exact L_X3_evenTriples_64 N k4 k14 (H_X3_evenTriples_22 N k4 k14 n) hk4 hk14 ih a0 l1_8 l2 l3 l4 s ls (lv_sub hl [1, 0, 2, 3, 4] rfl) h
set_option maxHeartbeats 4000000 in
set_option maxRecDepth 100000 in
theorem L_X3_evenTriples_14 {X : VX} {sF : vS} {r : Int32} (N : Nat) (k4 : Nat → Int32 → Int32 → vS → Option (Int32 × vS)) (hk4 : ∀ (a0 : Nat) (l1 : Int32) (l2 : Int32) (s : vS) (ls : Array Slot), lv_has ls 5 [(0, .ref (xb X + a0)), (1, .int l1), (2, .int l2)] → k4 a0 l1 l2 s = some (r, sF) → V X (cX3_evenTriples, RX3, 5, 2, 43, false) (vRet sF (some (.int r)) (some .int)) sF s (G0 X 4 ls [])) : ∀ (n : Nat) (a0 : Nat) (l1 : Int32) (l2 : Int32) (l3 : Int32) (s : vS) (ls : Array Slot), lv_has ls 5 [(0, .ref (xb X + a0)), (1, .int l1), (2, .int l2), (3, .int l3)] → H_X3_evenTriples_14 N k4 n a0 l1 l2 l3 s = some (r, sF) → V X (cX3_evenTriples, RX3, 5, 2, 43, false) (vRet sF (some (.int r)) (some .int)) sF s (G0 X 14 ls []) := by
  intro n
  induction n with
  | zero => intro a0 l1 l2 l3 s ls hl h; cases h
  | succ n ih =>
   intro a0 l1 l2 l3 s ls hl h
   unfold H_X3_evenTriples_14 at h
   refine v_iload_n dX3_evenTriples_14 rfl (lv_at hl 3 rfl) ?_
   refine v_iload_n dX3_evenTriples_15 rfl (lv_at hl 2 rfl) ?_
   refine v_icmp_ge 76 dX3_evenTriples_16 (by decide) h (fun h => ?_) (fun h => ?_)
   · refine v_inc (fun z => [(2, .int z), (0, .ref (xb X + a0)), (1, .int l1), (3, .int l3)]) dX3_evenTriples_76 h hl (k := 2) rfl (by rfl) (by decide) (fun _ => rfl) (fun l2_2 ls hl h => ?_)
     refine v_goto 4 dX3_evenTriples_79 (by decide) ?_
     exact hk4 a0 l1 l2_2 s ls (lv_sub hl [1, 2, 0] rfl) h
   · refine v_iconst (0 : Int32) dX3_evenTriples_19 (by decide) ?_
     refine v_istore [(4, .int (0 : Int32)), (0, .ref (xb X + a0)), (1, .int l1), (2, .int l2), (3, .int l3)] dX3_evenTriples_20 hl (by decide) rfl (fun ls hl => ?_)
     exact L_X3_evenTriples_22 N k4 (H_X3_evenTriples_14 N k4 n) hk4 ih N a0 l1 l2 l3 (0 : Int32) s ls (lv_sub hl [1, 2, 3, 4, 0] rfl) h
set_option maxHeartbeats 4000000 in
set_option maxRecDepth 100000 in
theorem L_X3_evenTriples_4 {X : VX} {sF : vS} {r : Int32} (N : Nat) : ∀ (n : Nat) (a0 : Nat) (l1 : Int32) (l2 : Int32) (s : vS) (ls : Array Slot), lv_has ls 5 [(0, .ref (xb X + a0)), (1, .int l1), (2, .int l2)] → H_X3_evenTriples_4 N n a0 l1 l2 s = some (r, sF) → V X (cX3_evenTriples, RX3, 5, 2, 43, false) (vRet sF (some (.int r)) (some .int)) sF s (G0 X 4 ls []) := by
  intro n
  induction n with
  | zero => intro a0 l1 l2 s ls hl h; cases h
  | succ n ih =>
   intro a0 l1 l2 s ls hl h
   unfold H_X3_evenTriples_4 at h
   refine v_iload_n dX3_evenTriples_4 rfl (lv_at hl 2 rfl) ?_
   refine v_aload_n dX3_evenTriples_5 rfl (lv_at hl 0 rfl) ?_
   refine v_getI 3 0 h (by decide) (Or.inl rfl) qfX3_9 dX3_evenTriples_6 (fun v1 h => ?_)
   refine v_icmp_ge 82 dX3_evenTriples_9 (by decide) h (fun h => ?_) (fun h => ?_)
   · refine v_iload_n dX3_evenTriples_82 rfl (lv_at hl 1 rfl) ?_
     exact v_iret dX3_evenTriples_83 h
   · refine v_iconst (1 : Int32) dX3_evenTriples_12 (by decide) ?_
     refine v_istore_n [(3, .int (1 : Int32)), (0, .ref (xb X + a0)), (1, .int l1), (2, .int l2)] dX3_evenTriples_13 rfl hl (by decide) rfl (fun ls hl => ?_)
     exact L_X3_evenTriples_14 N (H_X3_evenTriples_4 N n) ih N a0 l1 l2 (1 : Int32) s ls (lv_sub hl [1, 2, 3, 0] rfl) h
theorem vl_X3_evenTriples : vCl yX3_evenTriples cX3_evenTriples 5 (some .int) 0 := ⟨qy_X3_evenTriples, qjX3, by decide +kernel, by decide +kernel, by decide +kernel⟩
set_option maxHeartbeats 4000000 in
set_option maxRecDepth 100000 in
theorem c_X3_evenTriples {l : Launch} {D : va_G} {ka : Nat → ClassId} (X0 : VX) (N : Nat) (a0 : Nat) (s sF : vS) (r : Int32) (h : F_X3_evenTriples N a0 s = some (r, sF)) : isO s a0 3 = true ∧ vMet l D ka (xb X0) yX3_evenTriples cX3_evenTriples 5 (some .int) 2 43 [.ref (xb X0 + a0)] s sF (some (.int r)) := by
  unfold F_X3_evenTriples at h
  unfold rcv at h
  obtain ⟨hO, h⟩ := v_chk h
  refine ⟨hO, vMet.of (ini := false) X0 (plainFor_of_name (by decide +kernel)) (Nat.le_of_ble_eq_true rfl) (fun h => by cases h) (fun X ls hb hl => ?_) rfl⟩
  show V X (cX3_evenTriples, RX3, 5, 2, 43, false) (vRet sF (some (.int r)) (some .int)) sF s (G0 X 0 ls [])
  rw [← hb] at hl
  have hl : lv_has ls 5 [(0, .ref (xb X + a0))] := hl
  refine v_iconst (0 : Int32) dX3_evenTriples_0 (by decide) ?_
  refine v_istore_n [(1, .int (0 : Int32)), (0, .ref (xb X + a0))] dX3_evenTriples_1 rfl hl (by decide) rfl (fun ls hl => ?_)
  refine v_iconst (2 : Int32) dX3_evenTriples_2 (by decide) ?_
  refine v_istore_n [(2, .int (2 : Int32)), (1, .int (0 : Int32)), (0, .ref (xb X + a0))] dX3_evenTriples_3 rfl hl (by decide) rfl (fun ls hl => ?_)
  exact L_X3_evenTriples_4 N N a0 (0 : Int32) (2 : Int32) s ls (lv_sub hl [2, 1, 0] rfl) h
theorem k_X3_evenTriples {X : VX} {cc : ByteArray} {own : String} {nL fr lo : Nat} {ini : Bool} {E : VX → Prop} {sF s : vS} {ρ : Type} {res : ρ} {pc : Nat} {ls : Array Slot} {rest : List Value} {N index : Nat} {a0 : Nat} {f : Int32 → vS → Option ρ} (h : bnd (F_X3_evenTriples N a0 s) f = some res) (hlink : Cond.methodLink own index yX3_evenTriples ∈ TT) (hR : 2 + 1 ≤ fr ∧ 8 + (5 + 11) + 43 ≤ lo) (hls : ls.size = nL) (hr : (rest.map fun v => v.category).sum ≤ 8) (hdg : decode cc pc = .ok (.invokevirtual index, 3)) (kk : ∀ r s', f r s' = some res → V X (cc, own, nL, fr, lo, ini) E sF s' (G0 X (pc + 3) ls (.int r :: rest))) : V X (cc, own, nL, fr, lo, ini) E sF s (G0 X pc ls (.ref (xb X + a0) :: rest)) := by
  obtain ⟨r, s', e, h⟩ := bnd_some h
  exact v_callV (b := a0) (ci := 3) (As := []) (rest := rest) (c_X3_evenTriples X N a0 s s' r e).2 (c_X3_evenTriples (l := xl X) (D := xD X) (ka := xka X) X N a0 s s' r e).1 rfl vl_X3_evenTriples qi_X3_evenTriples qe_X3_evenTriples hlink hR rfl rfl hls hr hdg (kk r s' h)
set_option maxHeartbeats 4000000 in
set_option maxRecDepth 100000 in
theorem L_X3_keepsLines_110 {X : VX} {sF : vS} {r : Int32} (N : Nat) (k53 : Nat → Nat → Int32 → vS → Option (Int32 × vS)) (k65 : Nat → Nat → Int32 → Int32 → vS → Option (Int32 × vS)) (hk53 : ∀ (a0 : Nat) (a1 : Nat) (l4 : Int32) (s : vS) (ls : Array Slot), lv_has ls 6 [(0, .ref (xb X + a0)), (1, .ref (xb X + a1)), (4, .int l4)] → k53 a0 a1 l4 s = some (r, sF) → V X (cX3_keepsLines, RX3, 6, 2, 43, false) (vRet sF (some (.int r)) (some .boolean)) sF s (G0 X 53 ls [])) (hk65 : ∀ (a0 : Nat) (a1 : Nat) (l4 : Int32) (l5 : Int32) (s : vS) (ls : Array Slot), lv_has ls 6 [(0, .ref (xb X + a0)), (1, .ref (xb X + a1)), (4, .int l4), (5, .int l5)] → k65 a0 a1 l4 l5 s = some (r, sF) → V X (cX3_keepsLines, RX3, 6, 2, 43, false) (vRet sF (some (.int r)) (some .boolean)) sF s (G0 X 65 ls [])) (a0 : Nat) (a1 : Nat) (l4 : Int32) (l5 : Int32) (s : vS) (ls : Array Slot) (hl : lv_has ls 6 [(0, .ref (xb X + a0)), (1, .ref (xb X + a1)), (4, .int l4), (5, .int l5)]) (h : J_X3_keepsLines_110 N k53 k65 a0 a1 l4 l5 s = some (r, sF)) : V X (cX3_keepsLines, RX3, 6, 2, 43, false) (vRet sF (some (.int r)) (some .boolean)) sF s (G0 X 110 ls []) := by
  unfold J_X3_keepsLines_110 at h
  refine v_inc (fun z => [(5, .int z), (0, .ref (xb X + a0)), (1, .ref (xb X + a1)), (4, .int l4)]) dX3_keepsLines_110 h hl (k := 3) rfl (by rfl) (by decide) (fun _ => rfl) (fun l5_17 ls hl h => ?_)
  refine v_goto 65 dX3_keepsLines_113 (by decide) ?_
  exact hk65 a0 a1 l4 l5_17 s ls (lv_sub hl [1, 2, 3, 0] rfl) h
set_option maxHeartbeats 4000000 in
set_option maxRecDepth 100000 in
theorem L_X3_keepsLines_65 {X : VX} {sF : vS} {r : Int32} (N : Nat) (k53 : Nat → Nat → Int32 → vS → Option (Int32 × vS)) (hk53 : ∀ (a0 : Nat) (a1 : Nat) (l4 : Int32) (s : vS) (ls : Array Slot), lv_has ls 6 [(0, .ref (xb X + a0)), (1, .ref (xb X + a1)), (4, .int l4)] → k53 a0 a1 l4 s = some (r, sF) → V X (cX3_keepsLines, RX3, 6, 2, 43, false) (vRet sF (some (.int r)) (some .boolean)) sF s (G0 X 53 ls [])) : ∀ (n : Nat) (a0 : Nat) (a1 : Nat) (l4 : Int32) (l5 : Int32) (s : vS) (ls : Array Slot), lv_has ls 6 [(0, .ref (xb X + a0)), (1, .ref (xb X + a1)), (4, .int l4), (5, .int l5)] → H_X3_keepsLines_65 N k53 n a0 a1 l4 l5 s = some (r, sF) → V X (cX3_keepsLines, RX3, 6, 2, 43, false) (vRet sF (some (.int r)) (some .boolean)) sF s (G0 X 65 ls []) := by
  intro n
  induction n with
  | zero => intro a0 a1 l4 l5 s ls hl h; cases h
  | succ n ih =>
   intro a0 a1 l4 l5 s ls hl h
   unfold H_X3_keepsLines_65 at h
   refine v_iload dX3_keepsLines_65 (lv_at hl 3 rfl) ?_
   refine v_iload dX3_keepsLines_67 (lv_at hl 2 rfl) ?_
   refine v_icmp_ge 116 dX3_keepsLines_69 (by decide) h (fun h => ?_) (fun h => ?_)
   · refine v_inc (fun z => [(4, .int z), (0, .ref (xb X + a0)), (1, .ref (xb X + a1)), (5, .int l5)]) dX3_keepsLines_116 h hl (k := 2) rfl (by rfl) (by decide) (fun _ => rfl) (fun l4_9 ls hl h => ?_)
     refine v_goto 53 dX3_keepsLines_119 (by decide) ?_
     exact hk53 a0 a1 l4_9 s ls (lv_sub hl [1, 2, 0] rfl) h
   · refine v_aload_n dX3_keepsLines_72 rfl (lv_at hl 1 rfl) ?_
     refine v_iload dX3_keepsLines_73 (lv_at hl 3 rfl) ?_
     refine v_iload dX3_keepsLines_75 (lv_at hl 2 rfl) ?_
     refine k_X3_joins h qmX3_54 (by decide) hl.1 (Nat.le_of_ble_eq_true rfl) dX3_keepsLines_77 (fun v10 s h => ?_)
     refine v_if_eq 110 dX3_keepsLines_80 (by decide) h (fun h => ?_) (fun h => ?_)
     · exact L_X3_keepsLines_110 N k53 (H_X3_keepsLines_65 N k53 n) hk53 ih a0 a1 l4 l5 s ls (lv_sub hl [0, 1, 2, 3] rfl) h
     · refine v_aload_n dX3_keepsLines_83 rfl (lv_at hl 0 rfl) ?_
       refine v_getR 3 1 h (by decide) rfl qfX3_15 dX3_keepsLines_84 (fun r11 h => ?_)
       refine v_aload_n dX3_keepsLines_87 rfl (lv_at hl 0 rfl) ?_
       refine v_getR 3 2 h (by decide) rfl qfX3_19 dX3_keepsLines_88 (fun r12 h => ?_)
       refine v_iload dX3_keepsLines_91 (lv_at hl 2 rfl) ?_
       refine v_iald dX3_keepsLines_93 h (fun v13 h => ?_)
       refine v_iald dX3_keepsLines_94 h (fun v14 h => ?_)
       refine v_aload_n dX3_keepsLines_95 rfl (lv_at hl 0 rfl) ?_
       refine v_getR 3 2 h (by decide) rfl qfX3_19 dX3_keepsLines_96 (fun r15 h => ?_)
       refine v_iload dX3_keepsLines_99 (lv_at hl 3 rfl) ?_
       refine v_iald dX3_keepsLines_101 h (fun v16 h => ?_)
       refine v_ishr dX3_keepsLines_102 ?_
       refine v_iconst (1 : Int32) dX3_keepsLines_103 (by decide) ?_
       refine v_iand dX3_keepsLines_104 ?_
       refine v_if_ne 110 dX3_keepsLines_105 (by decide) h (fun h => ?_) (fun h => ?_)
       · exact L_X3_keepsLines_110 N k53 (H_X3_keepsLines_65 N k53 n) hk53 ih a0 a1 l4 l5 s ls (lv_sub hl [0, 1, 2, 3] rfl) h
       · refine v_iconst (0 : Int32) dX3_keepsLines_108 (by decide) ?_
         exact v_zret dX3_keepsLines_109 h
set_option maxHeartbeats 4000000 in
set_option maxRecDepth 100000 in
theorem L_X3_keepsLines_53 {X : VX} {sF : vS} {r : Int32} (N : Nat) : ∀ (n : Nat) (a0 : Nat) (a1 : Nat) (l4 : Int32) (s : vS) (ls : Array Slot), lv_has ls 6 [(0, .ref (xb X + a0)), (1, .ref (xb X + a1)), (4, .int l4)] → H_X3_keepsLines_53 N n a0 a1 l4 s = some (r, sF) → V X (cX3_keepsLines, RX3, 6, 2, 43, false) (vRet sF (some (.int r)) (some .boolean)) sF s (G0 X 53 ls []) := by
  intro n
  induction n with
  | zero => intro a0 a1 l4 s ls hl h; cases h
  | succ n ih =>
   intro a0 a1 l4 s ls hl h
   unfold H_X3_keepsLines_53 at h
   refine v_iload dX3_keepsLines_53 (lv_at hl 2 rfl) ?_
   refine v_aload_n dX3_keepsLines_55 rfl (lv_at hl 1 rfl) ?_
   refine v_getI 3 0 h (by decide) (Or.inl rfl) qfX3_9 dX3_keepsLines_56 (fun v8 h => ?_)
   refine v_icmp_ge 122 dX3_keepsLines_59 (by decide) h (fun h => ?_) (fun h => ?_)
   · refine v_iconst (1 : Int32) dX3_keepsLines_122 (by decide) ?_
     exact v_zret dX3_keepsLines_123 h
   · refine v_iconst (0 : Int32) dX3_keepsLines_62 (by decide) ?_
     refine v_istore [(5, .int (0 : Int32)), (0, .ref (xb X + a0)), (1, .ref (xb X + a1)), (4, .int l4)] dX3_keepsLines_63 hl (by decide) rfl (fun ls hl => ?_)
     exact L_X3_keepsLines_65 N (H_X3_keepsLines_53 N n) ih N a0 a1 l4 (0 : Int32) s ls (lv_sub hl [1, 2, 3, 0] rfl) h
set_option maxHeartbeats 4000000 in
set_option maxRecDepth 100000 in
theorem L_X3_keepsLines_5 {X : VX} {sF : vS} {r : Int32} (N : Nat) : ∀ (n : Nat) (a0 : Nat) (a1 : Nat) (l3 : Int32) (l4 : Int32) (s : vS) (ls : Array Slot), lv_has ls 6 [(0, .ref (xb X + a0)), (1, .ref (xb X + a1)), (3, .int l3), (4, .int l4)] → H_X3_keepsLines_5 N n a0 a1 l3 l4 s = some (r, sF) → V X (cX3_keepsLines, RX3, 6, 2, 43, false) (vRet sF (some (.int r)) (some .boolean)) sF s (G0 X 5 ls []) := by
  intro n
  induction n with
  | zero => intro a0 a1 l3 l4 s ls hl h; cases h
  | succ n ih =>
   intro a0 a1 l3 l4 s ls hl h
   unfold H_X3_keepsLines_5 at h
   refine v_iload dX3_keepsLines_5 (lv_at hl 3 rfl) ?_
   refine v_aload_n dX3_keepsLines_7 rfl (lv_at hl 1 rfl) ?_
   refine v_getI 3 0 h (by decide) (Or.inl rfl) qfX3_9 dX3_keepsLines_8 (fun v1 h => ?_)
   refine v_icmp_ge 50 dX3_keepsLines_11 (by decide) h (fun h => ?_) (fun h => ?_)
   · refine v_iconst (1 : Int32) dX3_keepsLines_50 (by decide) ?_
     refine v_istore [(4, .int (1 : Int32)), (0, .ref (xb X + a0)), (1, .ref (xb X + a1)), (3, .int l3)] dX3_keepsLines_51 hl (by decide) rfl (fun ls hl => ?_)
     exact L_X3_keepsLines_53 N N a0 a1 (1 : Int32) s ls (lv_sub hl [1, 2, 0] rfl) h
   · refine v_aload_n dX3_keepsLines_14 rfl (lv_at hl 0 rfl) ?_
     refine v_getI 3 0 h (by decide) (Or.inl rfl) qfX3_9 dX3_keepsLines_15 (fun v2 h => ?_)
     refine v_iconst (1 : Int32) dX3_keepsLines_18 (by decide) ?_
     refine v_icmp_ge 24 dX3_keepsLines_19 (by decide) h (fun h => ?_) (fun h => ?_)
     · refine v_aload_n dX3_keepsLines_24 rfl (lv_at hl 0 rfl) ?_
       refine v_getR 3 2 h (by decide) rfl qfX3_19 dX3_keepsLines_25 (fun r3 h => ?_)
       refine v_iload dX3_keepsLines_28 (lv_at hl 3 rfl) ?_
       refine v_iload_n dX3_keepsLines_30 rfl (lv_at hl 2 rfl) ?_
       refine v_aload_n dX3_keepsLines_31 rfl (lv_at hl 0 rfl) ?_
       refine v_getI 3 0 h (by decide) (Or.inl rfl) qfX3_9 dX3_keepsLines_32 (fun v4 h => ?_)
       refine v_irem dX3_keepsLines_35 h (fun h => ?_)
       refine v_iast dX3_keepsLines_36 h (fun s h => ?_)
       refine v_iload_n dX3_keepsLines_37 rfl (lv_at hl 2 rfl) ?_
       refine v_aload_n dX3_keepsLines_38 rfl (lv_at hl 0 rfl) ?_
       refine v_getI 3 0 h (by decide) (Or.inl rfl) qfX3_9 dX3_keepsLines_39 (fun v5 h => ?_)
       refine v_idiv dX3_keepsLines_42 h (fun h => ?_)
       refine v_nmI h (fun l3_6 h => ?_)
       refine v_istore_n [(3, .int l3_6), (0, .ref (xb X + a0)), (1, .ref (xb X + a1)), (4, .int l4)] dX3_keepsLines_43 rfl hl (by decide) rfl (fun ls hl => ?_)
       refine v_inc (fun z => [(4, .int z), (3, .int l3_6), (0, .ref (xb X + a0)), (1, .ref (xb X + a1))]) dX3_keepsLines_44 h hl (k := 3) rfl (by rfl) (by decide) (fun _ => rfl) (fun l4_7 ls hl h => ?_)
       refine v_goto 5 dX3_keepsLines_47 (by decide) ?_
       exact ih a0 a1 l3_6 l4_7 s ls (lv_sub hl [2, 3, 1, 0] rfl) h
     · refine v_iconst (0 : Int32) dX3_keepsLines_22 (by decide) ?_
       exact v_zret dX3_keepsLines_23 h
theorem vl_X3_keepsLines : vCl yX3_keepsLines cX3_keepsLines 6 (some .boolean) 2 := ⟨qy_X3_keepsLines, qjX3, by decide +kernel, by decide +kernel, by decide +kernel⟩
set_option maxHeartbeats 4000000 in
set_option maxRecDepth 100000 in
theorem c_X3_keepsLines {l : Launch} {D : va_G} {ka : Nat → ClassId} (X0 : VX) (N : Nat) (a0 : Nat) (a1 : Nat) (l2 : Int32) (s sF : vS) (r : Int32) (h : F_X3_keepsLines N a0 a1 l2 s = some (r, sF)) : isO s a0 3 = true ∧ vMet l D ka (xb X0) yX3_keepsLines cX3_keepsLines 6 (some .boolean) 2 43 [.ref (xb X0 + a0), .ref (xb X0 + a1), .int l2] s sF (some (.int r)) := by
  unfold F_X3_keepsLines at h
  unfold rcv at h
  obtain ⟨hO, h⟩ := v_chk h
  refine ⟨hO, vMet.of (ini := false) X0 (plainFor_of_name (by decide +kernel)) (Nat.le_of_ble_eq_true rfl) (fun h => by cases h) (fun X ls hb hl => ?_) rfl⟩
  show V X (cX3_keepsLines, RX3, 6, 2, 43, false) (vRet sF (some (.int r)) (some .boolean)) sF s (G0 X 0 ls [])
  rw [← hb] at hl
  have hl : lv_has ls 6 [(0, .ref (xb X + a0)), (1, .ref (xb X + a1)), (2, .int l2)] := hl
  refine v_iload_n dX3_keepsLines_0 rfl (lv_at hl 2 rfl) ?_
  refine v_istore_n [(3, .int l2), (0, .ref (xb X + a0)), (1, .ref (xb X + a1)), (2, .int l2)] dX3_keepsLines_1 rfl hl (by decide) rfl (fun ls hl => ?_)
  refine v_iconst (0 : Int32) dX3_keepsLines_2 (by decide) ?_
  refine v_istore [(4, .int (0 : Int32)), (3, .int l2), (0, .ref (xb X + a0)), (1, .ref (xb X + a1)), (2, .int l2)] dX3_keepsLines_3 hl (by decide) rfl (fun ls hl => ?_)
  exact L_X3_keepsLines_5 N N a0 a1 l2 (0 : Int32) s ls (lv_sub hl [2, 3, 1, 0] rfl) h
theorem k_X3_keepsLines {X : VX} {cc : ByteArray} {own : String} {nL fr lo : Nat} {ini : Bool} {E : VX → Prop} {sF s : vS} {ρ : Type} {res : ρ} {pc : Nat} {ls : Array Slot} {rest : List Value} {N index : Nat} {a0 : Nat} {a1 : Nat} {l2 : Int32} {f : Int32 → vS → Option ρ} (h : bnd (F_X3_keepsLines N a0 a1 l2 s) f = some res) (hlink : Cond.methodLink own index yX3_keepsLines ∈ TT) (hR : 2 + 1 ≤ fr ∧ 8 + (6 + 11) + 43 ≤ lo) (hls : ls.size = nL) (hr : (rest.map fun v => v.category).sum ≤ 8) (hdg : decode cc pc = .ok (.invokevirtual index, 3)) (kk : ∀ r s', f r s' = some res → V X (cc, own, nL, fr, lo, ini) E sF s' (G0 X (pc + 3) ls (.int r :: rest))) : V X (cc, own, nL, fr, lo, ini) E sF s (G0 X pc ls (.int l2 :: .ref (xb X + a1) :: .ref (xb X + a0) :: rest)) := by
  obtain ⟨r, s', e, h⟩ := bnd_some h
  exact v_callV (b := a0) (ci := 3) (As := [.ref (xb X + a1), .int l2]) (rest := rest) (c_X3_keepsLines X N a0 a1 l2 s s' r e).2 (c_X3_keepsLines (l := xl X) (D := xD X) (ka := xka X) X N a0 a1 l2 s s' r e).1 rfl vl_X3_keepsLines qi_X3_keepsLines qe_X3_keepsLines hlink hR rfl rfl hls hr hdg (kk r s' h)
set_option maxHeartbeats 4000000 in
set_option maxRecDepth 100000 in
theorem L_X3_mapsFrom_49 {X : VX} {sF : vS} {r : Int32} (N : Nat) (k30 : Nat → Nat → Int32 → Int32 → Int32 → vS → Option (Int32 × vS)) (hk30 : ∀ (a0 : Nat) (a1 : Nat) (l2 : Int32) (l3 : Int32) (l4 : Int32) (s : vS) (ls : Array Slot), lv_has ls 5 [(0, .ref (xb X + a0)), (1, .ref (xb X + a1)), (2, .int l2), (3, .int l3), (4, .int l4)] → k30 a0 a1 l2 l3 l4 s = some (r, sF) → V X (cX3_mapsFrom, RX3, 5, 3, 68, false) (vRet sF (some (.int r)) (some .int)) sF s (G0 X 30 ls [])) (a0 : Nat) (a1 : Nat) (l2 : Int32) (l3 : Int32) (l4 : Int32) (s : vS) (ls : Array Slot) (hl : lv_has ls 5 [(0, .ref (xb X + a0)), (1, .ref (xb X + a1)), (2, .int l2), (3, .int l3), (4, .int l4)]) (h : J_X3_mapsFrom_49 N k30 a0 a1 l2 l3 l4 s = some (r, sF)) : V X (cX3_mapsFrom, RX3, 5, 3, 68, false) (vRet sF (some (.int r)) (some .int)) sF s (G0 X 49 ls []) := by
  unfold J_X3_mapsFrom_49 at h
  refine v_inc (fun z => [(4, .int z), (0, .ref (xb X + a0)), (1, .ref (xb X + a1)), (2, .int l2), (3, .int l3)]) dX3_mapsFrom_49 h hl (k := 4) rfl (by rfl) (by decide) (fun _ => rfl) (fun l4_7 ls hl h => ?_)
  refine v_goto 30 dX3_mapsFrom_52 (by decide) ?_
  exact hk30 a0 a1 l2 l3 l4_7 s ls (lv_sub hl [1, 2, 3, 4, 0] rfl) h
set_option maxHeartbeats 4000000 in
set_option maxRecDepth 100000 in
theorem L_X3_mapsFrom_30 {X : VX} {sF : vS} {r : Int32} (N : Nat) : ∀ (n : Nat) (a0 : Nat) (a1 : Nat) (l2 : Int32) (l3 : Int32) (l4 : Int32) (s : vS) (ls : Array Slot), lv_has ls 5 [(0, .ref (xb X + a0)), (1, .ref (xb X + a1)), (2, .int l2), (3, .int l3), (4, .int l4)] → H_X3_mapsFrom_30 N n a0 a1 l2 l3 l4 s = some (r, sF) → V X (cX3_mapsFrom, RX3, 5, 3, 68, false) (vRet sF (some (.int r)) (some .int)) sF s (G0 X 30 ls []) := by
  intro n
  induction n with
  | zero => intro a0 a1 l2 l3 l4 s ls hl h; cases h
  | succ n ih =>
   intro a0 a1 l2 l3 l4 s ls hl h
   unfold H_X3_mapsFrom_30 at h
   refine v_iload dX3_mapsFrom_30 (lv_at hl 4 rfl) ?_
   refine v_iload_n dX3_mapsFrom_32 rfl (lv_at hl 2 rfl) ?_
   refine v_icmp_ge 55 dX3_mapsFrom_33 (by decide) h (fun h => ?_) (fun h => ?_)
   · refine v_iload_n dX3_mapsFrom_55 rfl (lv_at hl 3 rfl) ?_
     exact v_iret dX3_mapsFrom_56 h
   · refine v_aload_n dX3_mapsFrom_36 rfl (lv_at hl 0 rfl) ?_
     refine v_aload_n dX3_mapsFrom_37 rfl (lv_at hl 1 rfl) ?_
     refine v_iload dX3_mapsFrom_38 (lv_at hl 4 rfl) ?_
     refine k_X3_keepsLines h qmX3_58 (by decide) hl.1 (Nat.le_of_ble_eq_true rfl) dX3_mapsFrom_40 (fun v5 s h => ?_)
     refine v_if_eq 49 dX3_mapsFrom_43 (by decide) h (fun h => ?_) (fun h => ?_)
     · exact L_X3_mapsFrom_49 N (H_X3_mapsFrom_30 N n) ih a0 a1 l2 l3 l4 s ls (lv_sub hl [0, 1, 2, 3, 4] rfl) h
     · refine v_inc (fun z => [(3, .int z), (0, .ref (xb X + a0)), (1, .ref (xb X + a1)), (2, .int l2), (4, .int l4)]) dX3_mapsFrom_46 h hl (k := 3) rfl (by rfl) (by decide) (fun _ => rfl) (fun l3_6 ls hl h => ?_)
       exact L_X3_mapsFrom_49 N (H_X3_mapsFrom_30 N n) ih a0 a1 l2 l3_6 l4 s ls (lv_sub hl [1, 2, 3, 0, 4] rfl) h
set_option maxHeartbeats 4000000 in
set_option maxRecDepth 100000 in
theorem L_X3_mapsFrom_4 {X : VX} {sF : vS} {r : Int32} (N : Nat) : ∀ (n : Nat) (a0 : Nat) (a1 : Nat) (l2 : Int32) (l3 : Int32) (s : vS) (ls : Array Slot), lv_has ls 5 [(0, .ref (xb X + a0)), (1, .ref (xb X + a1)), (2, .int l2), (3, .int l3)] → H_X3_mapsFrom_4 N n a0 a1 l2 l3 s = some (r, sF) → V X (cX3_mapsFrom, RX3, 5, 3, 68, false) (vRet sF (some (.int r)) (some .int)) sF s (G0 X 4 ls []) := by
  intro n
  induction n with
  | zero => intro a0 a1 l2 l3 s ls hl h; cases h
  | succ n ih =>
   intro a0 a1 l2 l3 s ls hl h
   unfold H_X3_mapsFrom_4 at h
   refine v_iload_n dX3_mapsFrom_4 rfl (lv_at hl 3 rfl) ?_
   refine v_aload_n dX3_mapsFrom_5 rfl (lv_at hl 1 rfl) ?_
   refine v_getI 3 0 h (by decide) (Or.inl rfl) qfX3_9 dX3_mapsFrom_6 (fun v1 h => ?_)
   refine v_icmp_ge 25 dX3_mapsFrom_9 (by decide) h (fun h => ?_) (fun h => ?_)
   · refine v_iconst (0 : Int32) dX3_mapsFrom_25 (by decide) ?_
     refine v_istore_n [(3, .int (0 : Int32)), (0, .ref (xb X + a0)), (1, .ref (xb X + a1)), (2, .int l2)] dX3_mapsFrom_26 rfl hl (by decide) rfl (fun ls hl => ?_)
     refine v_iconst (0 : Int32) dX3_mapsFrom_27 (by decide) ?_
     refine v_istore [(4, .int (0 : Int32)), (3, .int (0 : Int32)), (0, .ref (xb X + a0)), (1, .ref (xb X + a1)), (2, .int l2)] dX3_mapsFrom_28 hl (by decide) rfl (fun ls hl => ?_)
     exact L_X3_mapsFrom_30 N N a0 a1 l2 (0 : Int32) (0 : Int32) s ls (lv_sub hl [2, 3, 4, 1, 0] rfl) h
   · refine v_iload_n dX3_mapsFrom_12 rfl (lv_at hl 2 rfl) ?_
     refine v_aload_n dX3_mapsFrom_13 rfl (lv_at hl 0 rfl) ?_
     refine v_getI 3 0 h (by decide) (Or.inl rfl) qfX3_9 dX3_mapsFrom_14 (fun v2 h => ?_)
     refine v_imul dX3_mapsFrom_17 ?_
     refine v_nmI h (fun l2_3 h => ?_)
     refine v_istore_n [(2, .int l2_3), (0, .ref (xb X + a0)), (1, .ref (xb X + a1)), (3, .int l3)] dX3_mapsFrom_18 rfl hl (by decide) rfl (fun ls hl => ?_)
     refine v_inc (fun z => [(3, .int z), (2, .int l2_3), (0, .ref (xb X + a0)), (1, .ref (xb X + a1))]) dX3_mapsFrom_19 h hl (k := 3) rfl (by rfl) (by decide) (fun _ => rfl) (fun l3_4 ls hl h => ?_)
     refine v_goto 4 dX3_mapsFrom_22 (by decide) ?_
     exact ih a0 a1 l2_3 l3_4 s ls (lv_sub hl [2, 3, 1, 0] rfl) h
theorem vl_X3_mapsFrom : vCl yX3_mapsFrom cX3_mapsFrom 5 (some .int) 1 := ⟨qy_X3_mapsFrom, qjX3, by decide +kernel, by decide +kernel, by decide +kernel⟩
set_option maxHeartbeats 4000000 in
set_option maxRecDepth 100000 in
theorem c_X3_mapsFrom {l : Launch} {D : va_G} {ka : Nat → ClassId} (X0 : VX) (N : Nat) (a0 : Nat) (a1 : Nat) (s sF : vS) (r : Int32) (h : F_X3_mapsFrom N a0 a1 s = some (r, sF)) : isO s a0 3 = true ∧ vMet l D ka (xb X0) yX3_mapsFrom cX3_mapsFrom 5 (some .int) 3 68 [.ref (xb X0 + a0), .ref (xb X0 + a1)] s sF (some (.int r)) := by
  unfold F_X3_mapsFrom at h
  unfold rcv at h
  obtain ⟨hO, h⟩ := v_chk h
  refine ⟨hO, vMet.of (ini := false) X0 (plainFor_of_name (by decide +kernel)) (Nat.le_of_ble_eq_true rfl) (fun h => by cases h) (fun X ls hb hl => ?_) rfl⟩
  show V X (cX3_mapsFrom, RX3, 5, 3, 68, false) (vRet sF (some (.int r)) (some .int)) sF s (G0 X 0 ls [])
  rw [← hb] at hl
  have hl : lv_has ls 5 [(0, .ref (xb X + a0)), (1, .ref (xb X + a1))] := hl
  refine v_iconst (1 : Int32) dX3_mapsFrom_0 (by decide) ?_
  refine v_istore_n [(2, .int (1 : Int32)), (0, .ref (xb X + a0)), (1, .ref (xb X + a1))] dX3_mapsFrom_1 rfl hl (by decide) rfl (fun ls hl => ?_)
  refine v_iconst (0 : Int32) dX3_mapsFrom_2 (by decide) ?_
  refine v_istore_n [(3, .int (0 : Int32)), (2, .int (1 : Int32)), (0, .ref (xb X + a0)), (1, .ref (xb X + a1))] dX3_mapsFrom_3 rfl hl (by decide) rfl (fun ls hl => ?_)
  exact L_X3_mapsFrom_4 N N a0 a1 (1 : Int32) (0 : Int32) s ls (lv_sub hl [2, 3, 1, 0] rfl) h
theorem k_X3_mapsFrom {X : VX} {cc : ByteArray} {own : String} {nL fr lo : Nat} {ini : Bool} {E : VX → Prop} {sF s : vS} {ρ : Type} {res : ρ} {pc : Nat} {ls : Array Slot} {rest : List Value} {N index : Nat} {a0 : Nat} {a1 : Nat} {f : Int32 → vS → Option ρ} (h : bnd (F_X3_mapsFrom N a0 a1 s) f = some res) (hlink : Cond.methodLink own index yX3_mapsFrom ∈ TT) (hR : 3 + 1 ≤ fr ∧ 8 + (5 + 11) + 68 ≤ lo) (hls : ls.size = nL) (hr : (rest.map fun v => v.category).sum ≤ 8) (hdg : decode cc pc = .ok (.invokevirtual index, 3)) (kk : ∀ r s', f r s' = some res → V X (cc, own, nL, fr, lo, ini) E sF s' (G0 X (pc + 3) ls (.int r :: rest))) : V X (cc, own, nL, fr, lo, ini) E sF s (G0 X pc ls (.ref (xb X + a1) :: .ref (xb X + a0) :: rest)) := by
  obtain ⟨r, s', e, h⟩ := bnd_some h
  exact v_callV (b := a0) (ci := 3) (As := [.ref (xb X + a1)]) (rest := rest) (c_X3_mapsFrom X N a0 a1 s s' r e).2 (c_X3_mapsFrom (l := xl X) (D := xD X) (ka := xka X) X N a0 a1 s s' r e).1 rfl vl_X3_mapsFrom qi_X3_mapsFrom qe_X3_mapsFrom hlink hR rfl rfl hls hr hdg (kk r s' h)
set_option maxHeartbeats 4000000 in
set_option maxRecDepth 100000 in
theorem L_X4_init_36 {X : VX} {sF : vS} {r : Unit} (N : Nat) : ∀ (n : Nat) (a0 : Nat) (l2 : Int32) (s : vS) (ls : Array Slot), lv_has ls 3 [(0, .ref (xb X + a0)), (2, .int l2)] → H_X4_init_36 N n a0 l2 s = some (r, sF) → V X (cX4_init, RX4, 3, 2, 41, true) (vRet sF none none) sF s (G0 X 36 ls []) := by
  intro n
  induction n with
  | zero => intro a0 l2 s ls hl h; cases h
  | succ n ih =>
   intro a0 l2 s ls hl h
   unfold H_X4_init_36 at h
   refine v_iload_n dX4_init_36 rfl (lv_at hl 1 rfl) ?_
   refine v_bipush (12 : Int32) dX4_init_37 (by decide) ?_
   refine v_icmp_ge 61 dX4_init_39 (by decide) h (fun h => ?_) (fun h => ?_)
   · exact v_vret dX4_init_61 h
   · refine v_aload_n dX4_init_42 rfl (lv_at hl 0 rfl) ?_
     refine v_getR 4 1 h (by decide) rfl qfX4_11 dX4_init_43 (fun r4 h => ?_)
     refine v_iload_n dX4_init_46 rfl (lv_at hl 1 rfl) ?_
     refine v_new 6 h (by decide) qcX4_9 qnX6 qjX6 dX4_init_47 (fun q5 s h => ?_)
     refine v_dup dX4_init_50 rfl ?_
     refine k_X6_init h qmX4_32 (by decide) hl.1 (Nat.le_of_ble_eq_true rfl) dX4_init_51 (fun v6 s h => ?_)
     refine v_aast 5 6 dX4_init_54 h (fun s h => ?_)
     refine v_inc (fun z => [(2, .int z), (0, .ref (xb X + a0))]) dX4_init_55 h hl (k := 1) rfl (by rfl) (by decide) (fun _ => rfl) (fun l2_7 ls hl h => ?_)
     refine v_goto 36 dX4_init_58 (by decide) ?_
     exact ih a0 l2_7 s ls (lv_sub hl [1, 0] rfl) h
theorem vl_X4_init : vCl yX4_init cX4_init 3 none 1 := ⟨qy_X4_init, qjX4, by decide +kernel, by decide +kernel, by decide +kernel⟩
set_option maxHeartbeats 4000000 in
set_option maxRecDepth 100000 in
theorem c_X4_init {l : Launch} {D : va_G} {ka : Nat → ClassId} (X0 : VX) (N : Nat) (a0 : Nat) (a1 : Nat) (s sF : vS) (r : Unit) (h : F_X4_init N a0 a1 s = some (r, sF)) : isO s a0 4 = true ∧ vMet l D ka (xb X0) yX4_init cX4_init 3 none 2 41 [.ref (xb X0 + a0), .ref (xb X0 + a1)] s sF none := by
  unfold F_X4_init at h
  unfold rcv at h
  obtain ⟨hO, h⟩ := v_chk h
  refine ⟨hO, vMet.of (ini := true) X0 (plainFor_of_name (by decide +kernel)) (Nat.le_of_ble_eq_true rfl) (fun _ => rfl) (fun X ls hb hl => ?_) rfl⟩
  show V X (cX4_init, RX4, 3, 2, 41, true) (vRet sF none none) sF s (G0 X 0 ls [])
  rw [← hb] at hl
  have hl : lv_has ls 3 [(0, .ref (xb X + a0)), (1, .ref (xb X + a1))] := hl
  refine v_aload_n dX4_init_0 rfl (lv_at hl 0 rfl) ?_
  refine v_objI qmX4_3 qo_in qo_code hl.1 ⟨by decide, Nat.le_of_ble_eq_true rfl⟩ dX4_init_1 ?_
  refine v_aload_n dX4_init_4 rfl (lv_at hl 0 rfl) ?_
  refine v_bipush (12 : Int32) dX4_init_5 (by decide) ?_
  refine v_newq 5 h (by decide) qqX4_9 dX4_init_7 (fun q1 s h => ?_)
  refine v_putR 4 1 h (by decide) rfl (Or.inr ⟨rfl, rfl, rfl⟩) qfX4_11 dX4_init_10 (fun s h => ?_)
  refine v_aload_n dX4_init_13 rfl (lv_at hl 0 rfl) ?_
  refine v_iconst (0 : Int32) dX4_init_14 (by decide) ?_
  refine v_putI 4 2 h (by decide) rfl (Or.inl rfl) qfX4_17 dX4_init_15 (fun s h => ?_)
  refine v_aload_n dX4_init_18 rfl (lv_at hl 0 rfl) ?_
  refine v_new 2 h (by decide) qcX4_21 qnX2 qjX2 dX4_init_19 (fun q2 s h => ?_)
  refine v_dup dX4_init_22 rfl ?_
  refine kn_X2_init_X4 h nstX4_23 (by decide) hl.1 (Nat.le_of_ble_eq_true rfl) dX4_init_23 (fun v3 s h => ?_)
  refine v_putR 4 3 h (by decide) rfl (Or.inr ⟨rfl, rfl, rfl⟩) qfX4_24 dX4_init_26 (fun s h => ?_)
  refine v_aload_n dX4_init_29 rfl (lv_at hl 0 rfl) ?_
  refine v_aload_n dX4_init_30 rfl (lv_at hl 1 rfl) ?_
  refine v_putR 4 0 h (by decide) rfl (Or.inr ⟨rfl, rfl, rfl⟩) qfX4_28 dX4_init_31 (fun s h => ?_)
  refine v_iconst (0 : Int32) dX4_init_34 (by decide) ?_
  refine v_istore_n [(2, .int (0 : Int32)), (0, .ref (xb X + a0)), (1, .ref (xb X + a1))] dX4_init_35 rfl hl (by decide) rfl (fun ls hl => ?_)
  exact L_X4_init_36 N N a0 (0 : Int32) s ls (lv_sub hl [1, 0] rfl) h
