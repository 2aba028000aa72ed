theorem k_X4_init {X : VX} {cc : ByteArray} {own : String} {nL fr lo : Nat} {ini : Bool} {E : VX → Prop} {sF s : vS} {ρ : Type} {res : ρ} {pc : Nat} {ls : Array Slot} {rest : List Value} {N index : Nat} {a0 : Nat} {a1 : Nat} {f : Unit → vS → Option ρ} (h : bnd (F_X4_init N a0 a1 s) f = some res) (hlink : Cond.methodLink own index yX4_init ∈ TT) (hR : 2 + 1 ≤ fr ∧ 8 + (3 + 11) + 41 ≤ lo) (hls : ls.size = nL) (hr : (rest.map fun v => v.category).sum ≤ 8) (hdg : decode cc pc = .ok (.invokespecial index, 3)) (kk : ∀ r s', f r s' = some res → V X (cc, own, nL, fr, lo, ini) E sF s' (G0 X (pc + 3) ls (rest))) : V X (cc, own, nL, fr, lo, ini) E sF s (G0 X pc ls (.ref (xb X + a1) :: .ref (xb X + a0) :: rest)) := by
  obtain ⟨r, s', e, h⟩ := bnd_some h
  exact v_callI (b := a0) (As := [.ref (xb X + a1)]) (rest := rest) (c_X4_init X N a0 a1 s s' r e).2 rfl vl_X4_init qi_X4_init hlink hR rfl rfl hls hr hdg (kk r s' h)
set_option maxHeartbeats 4000000 in
set_option maxRecDepth 100000 in
theorem L_X4_outcome_22 {X : VX} {sF : vS} {r : Nat} (N : Nat) (a0 : Nat) (s : vS) (ls : Array Slot) (hl : lv_has ls 1 [(0, .ref (xb X + a0))]) (h : J_X4_outcome_22 N a0 s = some (r, sF)) : V X (cX4_outcome, RX4, 1, 2, 43, false) (vRet sF (some (.ref (xb X + r))) (some (.object "DensitiesOfNets$Sum"))) sF s (G0 X 22 ls []) := by
  unfold J_X4_outcome_22 at h
  refine v_aload_n dX4_outcome_22 rfl (lv_at hl 0 rfl) ?_
  refine v_getR 4 1 h (by decide) rfl qfX4_11 dX4_outcome_23 (fun r7 h => ?_)
  refine v_iconst (0 : Int32) dX4_outcome_26 (by decide) ?_
  refine v_aald 5 dX4_outcome_27 h (fun r8 h => ?_)
  exact v_aret rfl dX4_outcome_28 h
theorem vl_X4_outcome : vCl yX4_outcome cX4_outcome 1 (some (.object "DensitiesOfNets$Sum")) 0 := ⟨qy_X4_outcome, qjX4, by decide +kernel, by decide +kernel, by decide +kernel⟩
set_option maxHeartbeats 4000000 in
set_option maxRecDepth 100000 in
theorem c_X4_outcome {l : Launch} {D : va_G} {ka : Nat → ClassId} (X0 : VX) (N : Nat) (a0 : Nat) (s sF : vS) (r : Nat) (h : F_X4_outcome N a0 s = some (r, sF)) : isO s a0 4 = true ∧ vMet l D ka (xb X0) yX4_outcome cX4_outcome 1 (some (.object "DensitiesOfNets$Sum")) 2 43 [.ref (xb X0 + a0)] s sF (some (.ref (xb X0 + r))) := by
  unfold F_X4_outcome at h
  unfold rcv at h
  obtain ⟨hO, h⟩ := v_chk h
  refine ⟨hO, vMet.of (ini := false) X0 (plainFor_of_name (by decide +kernel)) (Nat.le_of_ble_eq_true rfl) (fun h => by cases h) (fun X ls hb hl => ?_) rfl⟩
  show V X (cX4_outcome, RX4, 1, 2, 43, false) (vRet sF (some (.ref (xb X0 + r))) (some (.object "DensitiesOfNets$Sum"))) sF s (G0 X 0 ls [])
  rw [← hb] at hl ⊢
  have hl : lv_has ls 1 [(0, .ref (xb X + a0))] := hl
  refine v_aload_n dX4_outcome_0 rfl (lv_at hl 0 rfl) ?_
  refine v_getR 4 1 h (by decide) rfl qfX4_11 dX4_outcome_1 (fun r1 h => ?_)
  refine v_iconst (0 : Int32) dX4_outcome_4 (by decide) ?_
  refine v_aald 5 dX4_outcome_5 h (fun r2 h => ?_)
  refine v_getI 6 0 h (by decide) (Or.inl rfl) qfX4_33 dX4_outcome_6 (fun v3 h => ?_)
  refine v_if_ne 22 dX4_outcome_9 (by decide) h (fun h => ?_) (fun h => ?_)
  · exact L_X4_outcome_22 N a0 s ls (lv_sub hl [0] rfl) h
  · refine v_aload_n dX4_outcome_12 rfl (lv_at hl 0 rfl) ?_
    refine v_getR 4 1 h (by decide) rfl qfX4_11 dX4_outcome_13 (fun r4 h => ?_)
    refine v_iconst (0 : Int32) dX4_outcome_16 (by decide) ?_
    refine v_aald 5 dX4_outcome_17 h (fun r5 h => ?_)
    refine v_iconst (1 : Int32) dX4_outcome_18 (by decide) ?_
    refine k_X6_settle h qmX4_36 (by decide) hl.1 (Nat.le_of_ble_eq_true rfl) dX4_outcome_19 (fun v6 s h => ?_)
    exact L_X4_outcome_22 N a0 s ls (lv_sub hl [0] rfl) h
theorem k_X4_outcome {X : VX} {cc : ByteArray} {own : String} {nL fr lo : Nat} {ini : Bool} {E : VX → Prop} {sF s : vS} {ρ : Type} {res : ρ} {pc : Nat} {ls : Array Slot} {rest : List Value} {N index : Nat} {a0 : Nat} {f : Nat → vS → Option ρ} (h : bnd (F_X4_outcome N a0 s) f = some res) (hlink : Cond.methodLink own index yX4_outcome ∈ TT) (hR : 2 + 1 ≤ fr ∧ 8 + (1 + 11) + 43 ≤ lo) (hls : ls.size = nL) (hr : (rest.map fun v => v.category).sum ≤ 8) (hdg : decode cc pc = .ok (.invokevirtual index, 3)) (kk : ∀ r s', f r s' = some res → V X (cc, own, nL, fr, lo, ini) E sF s' (G0 X (pc + 3) ls (.ref (xb X + r) :: rest))) : V X (cc, own, nL, fr, lo, ini) E sF s (G0 X pc ls (.ref (xb X + a0) :: rest)) := by
  obtain ⟨r, s', e, h⟩ := bnd_some h
  exact v_callV (b := a0) (ci := 4) (As := []) (rest := rest) (c_X4_outcome X N a0 s s' r e).2 (c_X4_outcome (l := xl X) (D := xD X) (ka := xka X) X N a0 s s' r e).1 rfl vl_X4_outcome qi_X4_outcome qe_X4_outcome hlink hR rfl rfl hls hr hdg (kk r s' h)
set_option maxHeartbeats 4000000 in
set_option maxRecDepth 100000 in
theorem L_X4_pileOne_109 {X : VX} {sF : vS} {r : Unit} (N : Nat) (a0 : Nat) (k0 : Nat) (k1 : Int32) (s : vS) (ls : Array Slot) (hl : lv_has ls 6 [(0, .ref (xb X + a0))]) (h : J_X4_pileOne_109 N a0 k0 k1 s = some (r, sF)) : V X (cX4_pileOne, RX4, 6, 2, 56, false) (vRet sF none none) sF s (G0 X 109 ls [.int k1, .ref (xb X + k0)]) := by
  unfold J_X4_pileOne_109 at h
  refine v_putI 6 0 h (by decide) rfl (Or.inl rfl) qfX4_33 dX4_pileOne_109 (fun s h => ?_)
  refine v_aload_n dX4_pileOne_112 rfl (lv_at hl 0 rfl) ?_
  refine v_dup dX4_pileOne_113 rfl ?_
  refine v_getI 4 2 h (by decide) (Or.inl rfl) qfX4_17 dX4_pileOne_114 (fun v10 h => ?_)
  refine v_iconst (1 : Int32) dX4_pileOne_117 (by decide) ?_
  refine v_iadd dX4_pileOne_118 ?_
  refine v_putI 4 2 h (by decide) rfl (Or.inl rfl) qfX4_17 dX4_pileOne_119 (fun s h => ?_)
  exact v_vret dX4_pileOne_122 h
set_option maxHeartbeats 4000000 in
set_option maxRecDepth 100000 in
theorem L_X4_pileOne_80 {X : VX} {sF : vS} {r : Unit} (N : Nat) (a0 : Nat) (l1 : Int32) (l4 : Int32) (a5 : Nat) (k0 : Nat) (k1 : Int32) (s : vS) (ls : Array Slot) (hl : lv_has ls 6 [(0, .ref (xb X + a0)), (1, .int l1), (4, .int l4), (5, .ref (xb X + a5))]) (h : J_X4_pileOne_80 N a0 l1 l4 a5 k0 k1 s = some (r, sF)) : V X (cX4_pileOne, RX4, 6, 2, 56, false) (vRet sF none none) sF s (G0 X 80 ls [.int k1, .ref (xb X + k0)]) := by
  unfold J_X4_pileOne_80 at h
  refine v_aload_n dX4_pileOne_80 rfl (lv_at hl 0 rfl) ?_
  refine v_getR 4 3 h (by decide) rfl qfX4_24 dX4_pileOne_81 (fun r8 h => ?_)
  refine k_X6_take h qmX4_83 (by decide) hl.1 (Nat.le_of_ble_eq_true rfl) dX4_pileOne_84 (fun v9 s h => ?_)
  refine v_aload dX4_pileOne_87 (lv_at hl 3 rfl) ?_
  refine v_iload dX4_pileOne_89 (lv_at hl 2 rfl) ?_
  refine v_if_eq 98 dX4_pileOne_91 (by decide) h (fun h => ?_) (fun h => ?_)
  · refine v_iload_n dX4_pileOne_98 rfl (lv_at hl 1 rfl) ?_
    refine v_bipush (60 : Int32) dX4_pileOne_99 (by decide) ?_
    refine v_icmp_ne 108 dX4_pileOne_101 (by decide) h (fun h => ?_) (fun h => ?_)
    · refine v_iconst (1 : Int32) dX4_pileOne_108 (by decide) ?_
      exact L_X4_pileOne_109 N a0 a5 (1 : Int32) s ls (lv_sub hl [0] rfl) h
    · refine v_iconst (2 : Int32) dX4_pileOne_104 (by decide) ?_
      refine v_goto 109 dX4_pileOne_105 (by decide) ?_
      exact L_X4_pileOne_109 N a0 a5 (2 : Int32) s ls (lv_sub hl [0] rfl) h
  · refine v_iconst (0 : Int32) dX4_pileOne_94 (by decide) ?_
    refine v_goto 109 dX4_pileOne_95 (by decide) ?_
    exact L_X4_pileOne_109 N a0 a5 (0 : Int32) s ls (lv_sub hl [0] rfl) h
set_option maxHeartbeats 4000000 in
set_option maxRecDepth 100000 in
theorem L_X4_pileOne_49 {X : VX} {sF : vS} {r : Unit} (N : Nat) (a0 : Nat) (l1 : Int32) (l2 : Int32) (l4 : Int32) (k0 : Nat) (k1 : Int64) (k2 : Int64) (s : vS) (ls : Array Slot) (hl : lv_has ls 6 [(0, .ref (xb X + a0)), (1, .int l1), (2, .int l2), (4, .int l4)]) (h : J_X4_pileOne_49 N a0 l1 l2 l4 k0 k1 k2 s = some (r, sF)) : V X (cX4_pileOne, RX4, 6, 2, 56, false) (vRet sF none none) sF s (G0 X 49 ls [.long k2, .long k1, .ref (xb X + k0)]) := by
  unfold J_X4_pileOne_49 at h
  refine k_X2_become h qmX4_76 (by decide) hl.1 (Nat.le_of_ble_eq_true rfl) dX4_pileOne_49 (fun v3 s h => ?_)
  refine v_aload_n dX4_pileOne_52 rfl (lv_at hl 0 rfl) ?_
  refine v_getR 4 1 h (by decide) rfl qfX4_11 dX4_pileOne_53 (fun r4 h => ?_)
  refine v_aload_n dX4_pileOne_56 rfl (lv_at hl 0 rfl) ?_
  refine v_getI 4 2 h (by decide) (Or.inl rfl) qfX4_17 dX4_pileOne_57 (fun v5 h => ?_)
  refine v_aald 5 dX4_pileOne_60 h (fun r6 h => ?_)
  refine v_astore [(5, .ref (xb X + r6)), (0, .ref (xb X + a0)), (1, .int l1), (2, .int l2), (4, .int l4)] dX4_pileOne_61 hl (by decide) rfl (fun ls hl => ?_)
  refine v_aload dX4_pileOne_63 (lv_at hl 0 rfl) ?_
  refine k_X6_empty h qmX4_80 (by decide) hl.1 (Nat.le_of_ble_eq_true rfl) dX4_pileOne_65 (fun v7 s h => ?_)
  refine v_aload dX4_pileOne_68 (lv_at hl 0 rfl) ?_
  refine v_iload dX4_pileOne_70 (lv_at hl 4 rfl) ?_
  refine v_if_eq 79 dX4_pileOne_72 (by decide) h (fun h => ?_) (fun h => ?_)
  · refine v_iload_n dX4_pileOne_79 rfl (lv_at hl 3 rfl) ?_
    exact L_X4_pileOne_80 N a0 l1 l4 r6 r6 l2 s ls (lv_sub hl [1, 2, 4, 0] rfl) h
  · refine v_iconst (0 : Int32) dX4_pileOne_75 (by decide) ?_
    refine v_goto 80 dX4_pileOne_76 (by decide) ?_
    exact L_X4_pileOne_80 N a0 l1 l4 r6 r6 (0 : Int32) s ls (lv_sub hl [1, 2, 4, 0] rfl) h
set_option maxHeartbeats 4000000 in
set_option maxRecDepth 100000 in
theorem L_X4_pileOne_38 {X : VX} {sF : vS} {r : Unit} (N : Nat) (a0 : Nat) (l1 : Int32) (l2 : Int32) (l3 : Int32) (l4 : Int32) (k0 : Nat) (k1 : Int64) (s : vS) (ls : Array Slot) (hl : lv_has ls 6 [(0, .ref (xb X + a0)), (1, .int l1), (2, .int l2), (3, .int l3), (4, .int l4)]) (h : J_X4_pileOne_38 N a0 l1 l2 l3 l4 k0 k1 s = some (r, sF)) : V X (cX4_pileOne, RX4, 6, 2, 56, false) (vRet sF none none) sF s (G0 X 38 ls [.long k1, .ref (xb X + k0)]) := by
  unfold J_X4_pileOne_38 at h
  refine v_iload dX4_pileOne_38 (lv_at hl 4 rfl) ?_
  refine v_if_eq 48 dX4_pileOne_40 (by decide) h (fun h => ?_) (fun h => ?_)
  · refine v_lconst (1 : Int64) dX4_pileOne_48 (by decide) ?_
    exact L_X4_pileOne_49 N a0 l1 l2 l4 k0 k1 (1 : Int64) s ls (lv_sub hl [0, 1, 2, 4] rfl) h
  · refine v_iload_n dX4_pileOne_43 rfl (lv_at hl 3 rfl) ?_
    refine v_i2l dX4_pileOne_44 ?_
    refine v_goto 49 dX4_pileOne_45 (by decide) ?_
    exact L_X4_pileOne_49 N a0 l1 l2 l4 k0 k1 (l3).toInt64 s ls (lv_sub hl [0, 1, 2, 4] rfl) h
set_option maxHeartbeats 4000000 in
set_option maxRecDepth 100000 in
theorem L_X4_pileOne_21 {X : VX} {sF : vS} {r : Unit} (N : Nat) (a0 : Nat) (l1 : Int32) (l2 : Int32) (l3 : Int32) (k0 : Int32) (s : vS) (ls : Array Slot) (hl : lv_has ls 6 [(0, .ref (xb X + a0)), (1, .int l1), (2, .int l2), (3, .int l3)]) (h : J_X4_pileOne_21 N a0 l1 l2 l3 k0 s = some (r, sF)) : V X (cX4_pileOne, RX4, 6, 2, 56, false) (vRet sF none none) sF s (G0 X 21 ls [.int k0]) := by
  unfold J_X4_pileOne_21 at h
  refine v_istore [(4, .int k0), (0, .ref (xb X + a0)), (1, .int l1), (2, .int l2), (3, .int l3)] dX4_pileOne_21 hl (by decide) rfl (fun ls hl => ?_)
  refine v_aload_n dX4_pileOne_23 rfl (lv_at hl 1 rfl) ?_
  refine v_getR 4 3 h (by decide) rfl qfX4_24 dX4_pileOne_24 (fun r2 h => ?_)
  refine v_iload dX4_pileOne_27 (lv_at hl 0 rfl) ?_
  refine v_if_eq 37 dX4_pileOne_29 (by decide) h (fun h => ?_) (fun h => ?_)
  · refine v_lconst (1 : Int64) dX4_pileOne_37 (by decide) ?_
    exact L_X4_pileOne_38 N a0 l1 l2 l3 k0 r2 (1 : Int64) s ls (lv_sub hl [1, 2, 3, 4, 0] rfl) h
  · refine v_iload_n dX4_pileOne_32 rfl (lv_at hl 3 rfl) ?_
    refine v_i2l dX4_pileOne_33 ?_
    refine v_goto 38 dX4_pileOne_34 (by decide) ?_
    exact L_X4_pileOne_38 N a0 l1 l2 l3 k0 r2 (l2).toInt64 s ls (lv_sub hl [1, 2, 3, 4, 0] rfl) h
theorem vl_X4_pileOne : vCl yX4_pileOne cX4_pileOne 6 none 3 := ⟨qy_X4_pileOne, qjX4, by decide +kernel, by decide +kernel, by decide +kernel⟩
set_option maxHeartbeats 4000000 in
set_option maxRecDepth 100000 in
theorem c_X4_pileOne {l : Launch} {D : va_G} {ka : Nat → ClassId} (X0 : VX) (N : Nat) (a0 : Nat) (l1 : Int32) (l2 : Int32) (l3 : Int32) (s sF : vS) (r : Unit) (h : F_X4_pileOne N a0 l1 l2 l3 s = some (r, sF)) : isO s a0 4 = true ∧ vMet l D ka (xb X0) yX4_pileOne cX4_pileOne 6 none 2 56 [.ref (xb X0 + a0), .int l1, .int l2, .int l3] s sF none := by
  unfold F_X4_pileOne at h
  unfold rcv at h
  obtain ⟨hO, h⟩ := v_chk h
  refine ⟨hO, vMet.of (ini := false) X0 (plainFor_of_name (by decide +kernel)) (Nat.le_of_ble_eq_true rfl) (fun h => by cases h) (fun X ls hb hl => ?_) rfl⟩
  show V X (cX4_pileOne, RX4, 6, 2, 56, false) (vRet sF none none) sF s (G0 X 0 ls [])
  rw [← hb] at hl
  have hl : lv_has ls 6 [(0, .ref (xb X + a0)), (1, .int l1), (2, .int l2), (3, .int l3)] := hl
  refine v_aload_n dX4_pileOne_0 rfl (lv_at hl 0 rfl) ?_
  refine v_getI 4 2 h (by decide) (Or.inl rfl) qfX4_17 dX4_pileOne_1 (fun v1 h => ?_)
  refine v_bipush (12 : Int32) dX4_pileOne_4 (by decide) ?_
  refine v_icmp_lt 10 dX4_pileOne_6 (by decide) h (fun h => ?_) (fun h => ?_)
  · refine v_iload_n dX4_pileOne_10 rfl (lv_at hl 1 rfl) ?_
    refine v_bipush (48 : Int32) dX4_pileOne_11 (by decide) ?_
    refine v_icmp_ne 20 dX4_pileOne_13 (by decide) h (fun h => ?_) (fun h => ?_)
    · refine v_iconst (0 : Int32) dX4_pileOne_20 (by decide) ?_
      exact L_X4_pileOne_21 N a0 l1 l2 l3 (0 : Int32) s ls (lv_sub hl [0, 1, 2, 3] rfl) h
    · refine v_iconst (1 : Int32) dX4_pileOne_16 (by decide) ?_
      refine v_goto 21 dX4_pileOne_17 (by decide) ?_
      exact L_X4_pileOne_21 N a0 l1 l2 l3 (1 : Int32) s ls (lv_sub hl [0, 1, 2, 3] rfl) h
  · exact v_vret dX4_pileOne_9 h
theorem k_X4_pileOne {X : VX} {cc : ByteArray} {own : String} {nL fr lo : Nat} {ini : Bool} {E : VX → Prop} {sF s : vS} {ρ : Type} {res : ρ} {pc : Nat} {ls : Array Slot} {rest : List Value} {N index : Nat} {a0 : Nat} {l1 : Int32} {l2 : Int32} {l3 : Int32} {f : Unit → vS → Option ρ} (h : bnd (F_X4_pileOne N a0 l1 l2 l3 s) f = some res) (hlink : Cond.methodLink own index yX4_pileOne ∈ TT) (hR : 2 + 1 ≤ fr ∧ 8 + (6 + 11) + 56 ≤ lo) (hls : ls.size = nL) (hr : (rest.map fun v => v.category).sum ≤ 8) (hdg : decode cc pc = .ok (.invokevirtual index, 3)) (kk : ∀ r s', f r s' = some res → V X (cc, own, nL, fr, lo, ini) E sF s' (G0 X (pc + 3) ls (rest))) : V X (cc, own, nL, fr, lo, ini) E sF s (G0 X pc ls (.int l3 :: .int l2 :: .int l1 :: .ref (xb X + a0) :: rest)) := by
  obtain ⟨r, s', e, h⟩ := bnd_some h
  exact v_callV (b := a0) (ci := 4) (As := [.int l1, .int l2, .int l3]) (rest := rest) (c_X4_pileOne X N a0 l1 l2 l3 s s' r e).2 (c_X4_pileOne (l := xl X) (D := xD X) (ka := xka X) X N a0 l1 l2 l3 s s' r e).1 rfl vl_X4_pileOne qi_X4_pileOne qe_X4_pileOne hlink hR rfl rfl hls hr hdg (kk r s' h)
theorem vl_X7_faultOf : vCl yX7_faultOf cX7_faultOf 2 (some .int) 2 := ⟨qy_X7_faultOf, qjX7, by decide +kernel, by decide +kernel, by decide +kernel⟩
set_option maxHeartbeats 4000000 in
set_option maxRecDepth 100000 in
theorem c_X7_faultOf {l : Launch} {D : va_G} {ka : Nat → ClassId} (X0 : VX) (N : Nat) (l0 : Int32) (l1 : Int32) (s sF : vS) (r : Int32) (h : F_X7_faultOf N l0 l1 s = some (r, sF)) : vMet l D ka (xb X0) yX7_faultOf cX7_faultOf 2 (some .int) 0 0 [.int l0, .int l1] s sF (some (.int r)) := by
  unfold F_X7_faultOf at h
  refine vMet.of (ini := false) X0 (plainFor_of_name (by decide +kernel)) (Nat.le_of_ble_eq_true rfl) (fun h => by cases h) (fun X ls hb hl => ?_) rfl
  show V X (cX7_faultOf, RX7, 2, 0, 0, false) (vRet sF (some (.int r)) (some .int)) sF s (G0 X 0 ls [])
  have hl : lv_has ls 2 [(0, .int l0), (1, .int l1)] := hl
  refine v_sipush (-1000 : Int32) dX7_faultOf_0 (by decide) ?_
  refine v_iload_n dX7_faultOf_3 rfl (lv_at hl 0 rfl) ?_
  refine v_imul dX7_faultOf_4 ?_
  refine v_iload_n dX7_faultOf_5 rfl (lv_at hl 1 rfl) ?_
  refine v_isub dX7_faultOf_6 ?_
  exact v_iret dX7_faultOf_7 h
theorem k_X7_faultOf {X : VX} {cc : ByteArray} {own : String} {nL fr lo : Nat} {ini : Bool} {E : VX → Prop} {sF s : vS} {ρ : Type} {res : ρ} {pc : Nat} {ls : Array Slot} {rest : List Value} {N index : Nat} {l0 : Int32} {l1 : Int32} {f : Int32 → vS → Option ρ} (h : bnd (F_X7_faultOf N l0 l1 s) f = some res) (hlink : Cond.methodLink own index yX7_faultOf ∈ TT) (hR : 0 + 1 ≤ fr ∧ 8 + (2 + 11) + 0 ≤ lo) (hls : ls.size = nL) (hr : (rest.map fun v => v.category).sum ≤ 8) (hdg : decode cc pc = .ok (.invokestatic index, 3)) (kk : ∀ r s', f r s' = some res → V X (cc, own, nL, fr, lo, ini) E sF s' (G0 X (pc + 3) ls (.int r :: rest))) : V X (cc, own, nL, fr, lo, ini) E sF s (G0 X pc ls (.int l1 :: .int l0 :: rest)) := by
  obtain ⟨r, s', e, h⟩ := bnd_some h
  exact v_callS (As := [.int l0, .int l1]) (rest := rest) (c_X7_faultOf X N l0 l1 s s' r e) vl_X7_faultOf qs_X7_faultOf hlink hR rfl rfl hls hr hdg (kk r s' h)
set_option maxHeartbeats 4000000 in
set_option maxRecDepth 100000 in
theorem L_X4_workOut_219 {X : VX} {sF : vS} {r : Int32} (N : Nat) (a1 : Nat) (l2 : Int32) (k0 : Int32) (s : vS) (ls : Array Slot) (hl : lv_has ls 6 [(1, .ref (xb X + a1)), (2, .int l2)]) (h : J_X4_workOut_219 N a1 l2 k0 s = some (r, sF)) : V X (cX4_workOut, RX4, 6, 5, 147, false) (vRet sF (some (.int r)) (some .int)) sF s (G0 X 219 ls [.int k0]) := by
  unfold J_X4_workOut_219 at h
  refine v_aload_n dX4_workOut_219 rfl (lv_at hl 0 rfl) ?_
  refine v_getR 7 6 h (by decide) rfl qfX4_69 dX4_workOut_220 (fun r32 h => ?_)
  refine v_iload_n dX4_workOut_223 rfl (lv_at hl 1 rfl) ?_
  refine v_iald dX4_workOut_224 h (fun v33 h => ?_)
  refine k_X7_faultOf h qmX4_72 (by decide) hl.1 (Nat.le_of_ble_eq_true rfl) dX4_workOut_225 (fun v34 s h => ?_)
  exact v_iret dX4_workOut_228 h
set_option maxHeartbeats 4000000 in
set_option maxRecDepth 100000 in
theorem L_X4_workOut_191 {X : VX} {sF : vS} {r : Int32} (N : Nat) (k7 : Nat → Nat → Int32 → vS → Option (Int32 × vS)) (hk7 : ∀ (a0 : Nat) (a1 : Nat) (l2 : Int32) (s : vS) (ls : Array Slot), lv_has ls 6 [(0, .ref (xb X + a0)), (1, .ref (xb X + a1)), (2, .int l2)] → k7 a0 a1 l2 s = some (r, sF) → V X (cX4_workOut, RX4, 6, 5, 147, false) (vRet sF (some (.int r)) (some .int)) sF s (G0 X 7 ls [])) (a0 : Nat) (a1 : Nat) (l2 : Int32) (l5 : Int32) (s : vS) (ls : Array Slot) (hl : lv_has ls 6 [(0, .ref (xb X + a0)), (1, .ref (xb X + a1)), (2, .int l2), (5, .int l5)]) (h : J_X4_workOut_191 N k7 a0 a1 l2 l5 s = some (r, sF)) : V X (cX4_workOut, RX4, 6, 5, 147, false) (vRet sF (some (.int r)) (some .int)) sF s (G0 X 191 ls []) := by
  unfold J_X4_workOut_191 at h
  refine v_iload dX4_workOut_191 (lv_at hl 3 rfl) ?_
  refine v_if_eq 229 dX4_workOut_193 (by decide) h (fun h => ?_) (fun h => ?_)
  · refine v_inc (fun z => [(2, .int z), (0, .ref (xb X + a0)), (1, .ref (xb X + a1)), (5, .int l5)]) dX4_workOut_229 h hl (k := 2) rfl (by rfl) (by decide) (fun _ => rfl) (fun l2_26 ls hl h => ?_)
    refine v_goto 7 dX4_workOut_232 (by decide) ?_
    exact hk7 a0 a1 l2_26 s ls (lv_sub hl [1, 2, 0] rfl) h
  · refine v_iload dX4_workOut_196 (lv_at hl 3 rfl) ?_
    refine v_bipush (-2 : Int32) dX4_workOut_198 (by decide) ?_
    refine v_icmp_ne 207 dX4_workOut_200 (by decide) h (fun h => ?_) (fun h => ?_)
    · refine v_iload dX4_workOut_207 (lv_at hl 3 rfl) ?_
      refine v_bipush (-4 : Int32) dX4_workOut_209 (by decide) ?_
      refine v_icmp_ne 218 dX4_workOut_211 (by decide) h (fun h => ?_) (fun h => ?_)
      · refine v_iconst (5 : Int32) dX4_workOut_218 (by decide) ?_
        exact L_X4_workOut_219 N a1 l2 (5 : Int32) s ls (lv_sub hl [1, 2] rfl) h
      · refine v_iconst (4 : Int32) dX4_workOut_214 (by decide) ?_
        refine v_goto 219 dX4_workOut_215 (by decide) ?_
        exact L_X4_workOut_219 N a1 l2 (4 : Int32) s ls (lv_sub hl [1, 2] rfl) h
    · refine v_iconst (3 : Int32) dX4_workOut_203 (by decide) ?_
      refine v_goto 219 dX4_workOut_204 (by decide) ?_
      exact L_X4_workOut_219 N a1 l2 (3 : Int32) s ls (lv_sub hl [1, 2] rfl) h
set_option maxHeartbeats 4000000 in
set_option maxRecDepth 100000 in
theorem L_X4_workOut_174 {X : VX} {sF : vS} {r : Int32} (N : Nat) (k7 : Nat → Nat → Int32 → vS → Option (Int32 × vS)) (hk7 : ∀ (a0 : Nat) (a1 : Nat) (l2 : Int32) (s : vS) (ls : Array Slot), lv_has ls 6 [(0, .ref (xb X + a0)), (1, .ref (xb X + a1)), (2, .int l2)] → k7 a0 a1 l2 s = some (r, sF) → V X (cX4_workOut, RX4, 6, 5, 147, false) (vRet sF (some (.int r)) (some .int)) sF s (G0 X 7 ls [])) (a0 : Nat) (a1 : Nat) (l2 : Int32) (l3 : Int32) (l5 : Int32) (s : vS) (ls : Array Slot) (hl : lv_has ls 6 [(0, .ref (xb X + a0)), (1, .ref (xb X + a1)), (2, .int l2), (3, .int l3), (5, .int l5)]) (h : J_X4_workOut_174 N k7 a0 a1 l2 l3 l5 s = some (r, sF)) : V X (cX4_workOut, RX4, 6, 5, 147, false) (vRet sF (some (.int r)) (some .int)) sF s (G0 X 174 ls []) := by
  unfold J_X4_workOut_174 at h
  refine v_aload_n dX4_workOut_174 rfl (lv_at hl 0 rfl) ?_
  refine v_iload_n dX4_workOut_175 rfl (lv_at hl 3 rfl) ?_
  refine v_aload_n dX4_workOut_176 rfl (lv_at hl 1 rfl) ?_
  refine v_getR 7 7 h (by decide) rfl qfX4_59 dX4_workOut_177 (fun r27 h => ?_)
  refine v_iload_n dX4_workOut_180 rfl (lv_at hl 2 rfl) ?_
  refine v_iald dX4_workOut_181 h (fun v28 h => ?_)
  refine v_aload_n dX4_workOut_182 rfl (lv_at hl 1 rfl) ?_
  refine v_getR 7 8 h (by decide) rfl qfX4_62 dX4_workOut_183 (fun r29 h => ?_)
  refine v_iload_n dX4_workOut_186 rfl (lv_at hl 2 rfl) ?_
  refine v_iald dX4_workOut_187 h (fun v30 h => ?_)
  refine k_X4_pileOne h qmX4_65 (by decide) hl.1 (Nat.le_of_ble_eq_true rfl) dX4_workOut_188 (fun v31 s h => ?_)
  exact L_X4_workOut_191 N k7 hk7 a0 a1 l2 l5 s ls (lv_sub hl [0, 1, 2, 4] rfl) h
set_option maxHeartbeats 4000000 in
set_option maxRecDepth 100000 in
theorem L_X4_workOut_127 {X : VX} {sF : vS} {r : Int32} (N : Nat) (k7 : Nat → Nat → Int32 → vS → Option (Int32 × vS)) (hk7 : ∀ (a0 : Nat) (a1 : Nat) (l2 : Int32) (s : vS) (ls : Array Slot), lv_has ls 6 [(0, .ref (xb X + a0)), (1, .ref (xb X + a1)), (2, .int l2)] → k7 a0 a1 l2 s = some (r, sF) → V X (cX4_workOut, RX4, 6, 5, 147, false) (vRet sF (some (.int r)) (some .int)) sF s (G0 X 7 ls [])) (a0 : Nat) (a1 : Nat) (l2 : Int32) (l3 : Int32) (l5 : Int32) (s : vS) (ls : Array Slot) (hl : lv_has ls 6 [(0, .ref (xb X + a0)), (1, .ref (xb X + a1)), (2, .int l2), (3, .int l3), (5, .int l5)]) (h : J_X4_workOut_127 N k7 a0 a1 l2 l3 l5 s = some (r, sF)) : V X (cX4_workOut, RX4, 6, 5, 147, false) (vRet sF (some (.int r)) (some .int)) sF s (G0 X 127 ls []) := by
  unfold J_X4_workOut_127 at h
  refine v_iload_n dX4_workOut_127 rfl (lv_at hl 3 rfl) ?_
  refine v_bipush (123 : Int32) dX4_workOut_128 (by decide) ?_
  refine v_icmp_ne 174 dX4_workOut_130 (by decide) h (fun h => ?_) (fun h => ?_)
  · exact L_X4_workOut_174 N k7 hk7 a0 a1 l2 l3 l5 s ls (lv_sub hl [0, 1, 2, 3, 4] rfl) h
  · refine v_aload_n dX4_workOut_133 rfl (lv_at hl 0 rfl) ?_
    refine v_getI 4 2 h (by decide) (Or.inl rfl) qfX4_17 dX4_workOut_134 (fun v17 h => ?_)
    refine v_if_le 174 dX4_workOut_137 (by decide) h (fun h => ?_) (fun h => ?_)
    · exact L_X4_workOut_174 N k7 hk7 a0 a1 l2 l3 l5 s ls (lv_sub hl [0, 1, 2, 3, 4] rfl) h
    · refine v_aload_n dX4_workOut_140 rfl (lv_at hl 0 rfl) ?_
      refine v_getR 4 0 h (by decide) rfl qfX4_28 dX4_workOut_141 (fun r18 h => ?_)
      refine v_aload_n dX4_workOut_144 rfl (lv_at hl 0 rfl) ?_
      refine v_getR 4 1 h (by decide) rfl qfX4_11 dX4_workOut_145 (fun r19 h => ?_)
      refine v_aload_n dX4_workOut_148 rfl (lv_at hl 0 rfl) ?_
      refine v_getI 4 2 h (by decide) (Or.inl rfl) qfX4_17 dX4_workOut_149 (fun v20 h => ?_)
      refine v_iconst (1 : Int32) dX4_workOut_152 (by decide) ?_
      refine v_isub dX4_workOut_153 ?_
      refine v_aald 5 dX4_workOut_154 h (fun r21 h => ?_)
      refine v_aload_n dX4_workOut_155 rfl (lv_at hl 0 rfl) ?_
      refine v_getR 4 1 h (by decide) rfl qfX4_11 dX4_workOut_156 (fun r22 h => ?_)
      refine v_aload_n dX4_workOut_159 rfl (lv_at hl 0 rfl) ?_
      refine v_getI 4 2 h (by decide) (Or.inl rfl) qfX4_17 dX4_workOut_160 (fun v23 h => ?_)
      refine v_iconst (1 : Int32) dX4_workOut_163 (by decide) ?_
      refine v_isub dX4_workOut_164 ?_
      refine v_aald 5 dX4_workOut_165 h (fun r24 h => ?_)
      refine k_X0_uproot h qmX4_55 (by decide) hl.1 (Nat.le_of_ble_eq_true rfl) dX4_workOut_166 (fun v25 s h => ?_)
      refine v_istore [(5, .int v25), (0, .ref (xb X + a0)), (1, .ref (xb X + a1)), (2, .int l2), (3, .int l3)] dX4_workOut_169 hl (by decide) rfl (fun ls hl => ?_)
      refine v_goto 191 dX4_workOut_171 (by decide) ?_
      exact L_X4_workOut_191 N k7 hk7 a0 a1 l2 v25 s ls (lv_sub hl [1, 2, 3, 0] rfl) h
set_option maxHeartbeats 4000000 in
set_option maxRecDepth 100000 in
theorem L_X4_workOut_53 {X : VX} {sF : vS} {r : Int32} (N : Nat) (k7 : Nat → Nat → Int32 → vS → Option (Int32 × vS)) (hk7 : ∀ (a0 : Nat) (a1 : Nat) (l2 : Int32) (s : vS) (ls : Array Slot), lv_has ls 6 [(0, .ref (xb X + a0)), (1, .ref (xb X + a1)), (2, .int l2)] → k7 a0 a1 l2 s = some (r, sF) → V X (cX4_workOut, RX4, 6, 5, 147, false) (vRet sF (some (.int r)) (some .int)) sF s (G0 X 7 ls [])) (a0 : Nat) (a1 : Nat) (l2 : Int32) (l3 : Int32) (k0 : Int32) (s : vS) (ls : Array Slot) (hl : lv_has ls 6 [(0, .ref (xb X + a0)), (1, .ref (xb X + a1)), (2, .int l2), (3, .int l3)]) (h : J_X4_workOut_53 N k7 a0 a1 l2 l3 k0 s = some (r, sF)) : V X (cX4_workOut, RX4, 6, 5, 147, false) (vRet sF (some (.int r)) (some .int)) sF s (G0 X 53 ls [.int k0]) := by
  unfold J_X4_workOut_53 at h
  refine v_istore [(4, .int k0), (0, .ref (xb X + a0)), (1, .ref (xb X + a1)), (2, .int l2), (3, .int l3)] dX4_workOut_53 hl (by decide) rfl (fun ls hl => ?_)
  refine v_iconst (0 : Int32) dX4_workOut_55 (by decide) ?_
  refine v_istore [(5, .int (0 : Int32)), (4, .int k0), (0, .ref (xb X + a0)), (1, .ref (xb X + a1)), (2, .int l2), (3, .int l3)] dX4_workOut_56 hl (by decide) rfl (fun ls hl => ?_)
  refine v_iload dX4_workOut_58 (lv_at hl 1 rfl) ?_
  refine v_iconst (-1 : Int32) dX4_workOut_60 (by decide) ?_
  refine v_icmp_eq 127 dX4_workOut_61 (by decide) h (fun h => ?_) (fun h => ?_)
  · exact L_X4_workOut_127 N k7 hk7 a0 a1 l2 l3 (0 : Int32) s ls (lv_sub hl [2, 3, 4, 5, 0] rfl) h
  · refine v_aload_n dX4_workOut_64 rfl (lv_at hl 2 rfl) ?_
    refine v_getI 4 2 h (by decide) (Or.inl rfl) qfX4_17 dX4_workOut_65 (fun v4 h => ?_)
    refine v_iconst (1 : Int32) dX4_workOut_68 (by decide) ?_
    refine v_icmp_le 127 dX4_workOut_69 (by decide) h (fun h => ?_) (fun h => ?_)
    · exact L_X4_workOut_127 N k7 hk7 a0 a1 l2 l3 (0 : Int32) s ls (lv_sub hl [2, 3, 4, 5, 0] rfl) h
    · refine v_aload_n dX4_workOut_72 rfl (lv_at hl 2 rfl) ?_
      refine v_dup dX4_workOut_73 rfl ?_
      refine v_getI 4 2 h (by decide) (Or.inl rfl) qfX4_17 dX4_workOut_74 (fun v5 h => ?_)
      refine v_iconst (1 : Int32) dX4_workOut_77 (by decide) ?_
      refine v_isub dX4_workOut_78 ?_
      refine v_putI 4 2 h (by decide) rfl (Or.inl rfl) qfX4_17 dX4_workOut_79 (fun s h => ?_)
      refine v_aload_n dX4_workOut_82 rfl (lv_at hl 2 rfl) ?_
      refine v_getR 4 0 h (by decide) rfl qfX4_28 dX4_workOut_83 (fun r6 h => ?_)
      refine v_aload_n dX4_workOut_86 rfl (lv_at hl 2 rfl) ?_
      refine v_getR 4 1 h (by decide) rfl qfX4_11 dX4_workOut_87 (fun r7 h => ?_)
      refine v_aload_n dX4_workOut_90 rfl (lv_at hl 2 rfl) ?_
      refine v_getI 4 2 h (by decide) (Or.inl rfl) qfX4_17 dX4_workOut_91 (fun v8 h => ?_)
      refine v_iconst (1 : Int32) dX4_workOut_94 (by decide) ?_
      refine v_isub dX4_workOut_95 ?_
      refine v_aald 5 dX4_workOut_96 h (fun r9 h => ?_)
      refine v_aload_n dX4_workOut_97 rfl (lv_at hl 2 rfl) ?_
      refine v_getR 4 1 h (by decide) rfl qfX4_11 dX4_workOut_98 (fun r10 h => ?_)
      refine v_aload_n dX4_workOut_101 rfl (lv_at hl 2 rfl) ?_
      refine v_getI 4 2 h (by decide) (Or.inl rfl) qfX4_17 dX4_workOut_102 (fun v11 h => ?_)
      refine v_aald 5 dX4_workOut_105 h (fun r12 h => ?_)
      refine v_iload dX4_workOut_106 (lv_at hl 1 rfl) ?_
      refine v_aload_n dX4_workOut_108 rfl (lv_at hl 2 rfl) ?_
      refine v_getR 4 1 h (by decide) rfl qfX4_11 dX4_workOut_109 (fun r13 h => ?_)
      refine v_aload_n dX4_workOut_112 rfl (lv_at hl 2 rfl) ?_
      refine v_getI 4 2 h (by decide) (Or.inl rfl) qfX4_17 dX4_workOut_113 (fun v14 h => ?_)
      refine v_iconst (1 : Int32) dX4_workOut_116 (by decide) ?_
      refine v_isub dX4_workOut_117 ?_
      refine v_aald 5 dX4_workOut_118 h (fun r15 h => ?_)
      refine k_X0_combine h qmX4_49 (by decide) hl.1 (Nat.le_of_ble_eq_true rfl) dX4_workOut_119 (fun v16 s h => ?_)
      refine v_istore [(5, .int v16), (4, .int k0), (0, .ref (xb X + a0)), (1, .ref (xb X + a1)), (2, .int l2), (3, .int l3)] dX4_workOut_122 hl (by decide) rfl (fun ls hl => ?_)
      refine v_goto 191 dX4_workOut_124 (by decide) ?_
      exact L_X4_workOut_191 N k7 hk7 a0 a1 l2 v16 s ls (lv_sub hl [2, 3, 4, 0] rfl) h
set_option maxHeartbeats 4000000 in
set_option maxRecDepth 100000 in
theorem L_X4_workOut_7 {X : VX} {sF : vS} {r : Int32} (N : Nat) : ∀ (n : Nat) (a0 : Nat) (a1 : Nat) (l2 : Int32) (s : vS) (ls : Array Slot), lv_has ls 6 [(0, .ref (xb X + a0)), (1, .ref (xb X + a1)), (2, .int l2)] → H_X4_workOut_7 N n a0 a1 l2 s = some (r, sF) → V X (cX4_workOut, RX4, 6, 5, 147, false) (vRet sF (some (.int r)) (some .int)) sF s (G0 X 7 ls []) := by
  intro n
  induction n with
  | zero => intro a0 a1 l2 s ls hl h; cases h
  | succ n ih =>
   intro a0 a1 l2 s ls hl h
   unfold H_X4_workOut_7 at h
   refine v_iload_n dX4_workOut_7 rfl (lv_at hl 2 rfl) ?_
   refine v_aload_n dX4_workOut_8 rfl (lv_at hl 1 rfl) ?_
   refine v_getI 7 4 h (by decide) (Or.inl rfl) qfX4_40 dX4_workOut_9 (fun v1 h => ?_)
   refine v_icmp_ge 235 dX4_workOut_12 (by decide) h (fun h => ?_) (fun h => ?_)
   · refine v_iconst (0 : Int32) dX4_workOut_235 (by decide) ?_
     exact v_iret dX4_workOut_236 h
   · refine v_aload_n dX4_workOut_15 rfl (lv_at hl 1 rfl) ?_
     refine v_getR 7 5 h (by decide) rfl qfX4_45 dX4_workOut_16 (fun r2 h => ?_)
     refine v_iload_n dX4_workOut_19 rfl (lv_at hl 2 rfl) ?_
     refine v_iald dX4_workOut_20 h (fun v3 h => ?_)
     refine v_istore_n [(3, .int v3), (0, .ref (xb X + a0)), (1, .ref (xb X + a1)), (2, .int l2)] dX4_workOut_21 rfl hl (by decide) rfl (fun ls hl => ?_)
     refine v_iload_n dX4_workOut_22 rfl (lv_at hl 0 rfl) ?_
     refine v_bipush (43 : Int32) dX4_workOut_23 (by decide) ?_
     refine v_icmp_ne 32 dX4_workOut_25 (by decide) h (fun h => ?_) (fun h => ?_)
     · refine v_iload_n dX4_workOut_32 rfl (lv_at hl 0 rfl) ?_
       refine v_bipush (45 : Int32) dX4_workOut_33 (by decide) ?_
       refine v_icmp_ne 42 dX4_workOut_35 (by decide) h (fun h => ?_) (fun h => ?_)
       · refine v_iload_n dX4_workOut_42 rfl (lv_at hl 0 rfl) ?_
         refine v_bipush (42 : Int32) dX4_workOut_43 (by decide) ?_
         refine v_icmp_ne 52 dX4_workOut_45 (by decide) h (fun h => ?_) (fun h => ?_)
         · refine v_iconst (-1 : Int32) dX4_workOut_52 (by decide) ?_
           exact L_X4_workOut_53 N (H_X4_workOut_7 N n) ih a0 a1 l2 v3 (-1 : Int32) s ls (lv_sub hl [1, 2, 3, 0] rfl) h
         · refine v_iconst (2 : Int32) dX4_workOut_48 (by decide) ?_
           refine v_goto 53 dX4_workOut_49 (by decide) ?_
           exact L_X4_workOut_53 N (H_X4_workOut_7 N n) ih a0 a1 l2 v3 (2 : Int32) s ls (lv_sub hl [1, 2, 3, 0] rfl) h
       · refine v_iconst (1 : Int32) dX4_workOut_38 (by decide) ?_
         refine v_goto 53 dX4_workOut_39 (by decide) ?_
         exact L_X4_workOut_53 N (H_X4_workOut_7 N n) ih a0 a1 l2 v3 (1 : Int32) s ls (lv_sub hl [1, 2, 3, 0] rfl) h
     · refine v_iconst (0 : Int32) dX4_workOut_28 (by decide) ?_
       refine v_goto 53 dX4_workOut_29 (by decide) ?_
       exact L_X4_workOut_53 N (H_X4_workOut_7 N n) ih a0 a1 l2 v3 (0 : Int32) s ls (lv_sub hl [1, 2, 3, 0] rfl) h
theorem vl_X4_workOut : vCl yX4_workOut cX4_workOut 6 (some .int) 1 := ⟨qy_X4_workOut, qjX4, by decide +kernel, by decide +kernel, by decide +kernel⟩
set_option maxHeartbeats 4000000 in
set_option maxRecDepth 100000 in
theorem c_X4_workOut {l : Launch} {D : va_G} {ka : Nat → ClassId} (X0 : VX) (N : Nat) (a0 : Nat) (a1 : Nat) (s sF : vS) (r : Int32) (h : F_X4_workOut N a0 a1 s = some (r, sF)) : isO s a0 4 = true ∧ vMet l D ka (xb X0) yX4_workOut cX4_workOut 6 (some .int) 5 147 [.ref (xb X0 + a0), .ref (xb X0 + a1)] s sF (some (.int r)) := by
  unfold F_X4_workOut at h
  unfold rcv at h
  obtain ⟨hO, h⟩ := v_chk h
  refine ⟨hO, vMet.of (ini := false) X0 (plainFor_of_name (by decide +kernel)) (Nat.le_of_ble_eq_true rfl) (fun h => by cases h) (fun X ls hb hl => ?_) rfl⟩
  show V X (cX4_workOut, RX4, 6, 5, 147, false) (vRet sF (some (.int r)) (some .int)) sF s (G0 X 0 ls [])
  rw [← hb] at hl
  have hl : lv_has ls 6 [(0, .ref (xb X + a0)), (1, .ref (xb X + a1))] := hl
  refine v_aload_n dX4_workOut_0 rfl (lv_at hl 0 rfl) ?_
  refine v_iconst (0 : Int32) dX4_workOut_1 (by decide) ?_
  refine v_putI 4 2 h (by decide) rfl (Or.inl rfl) qfX4_17 dX4_workOut_2 (fun s h => ?_)
  refine v_iconst (0 : Int32) dX4_workOut_5 (by decide) ?_
  refine v_istore_n [(2, .int (0 : Int32)), (0, .ref (xb X + a0)), (1, .ref (xb X + a1))] dX4_workOut_6 rfl hl (by decide) rfl (fun ls hl => ?_)
  exact L_X4_workOut_7 N N a0 a1 (0 : Int32) s ls (lv_sub hl [1, 2, 0] rfl) h
theorem k_X4_workOut {X : VX} {cc : ByteArray} {own : String} {nL fr lo : Nat} {ini : Bool} {E : VX → Prop} {sF s : vS} {ρ : Type} {res : ρ} {pc : Nat} {ls : Array Slot} {rest : List Value} {N index : Nat} {a0 : Nat} {a1 : Nat} {f : Int32 → vS → Option ρ} (h : bnd (F_X4_workOut N a0 a1 s) f = some res) (hlink : Cond.methodLink own index yX4_workOut ∈ TT) (hR : 5 + 1 ≤ fr ∧ 8 + (6 + 11) + 147 ≤ lo) (hls : ls.size = nL) (hr : (rest.map fun v => v.category).sum ≤ 8) (hdg : decode cc pc = .ok (.invokevirtual index, 3)) (kk : ∀ r s', f r s' = some res → V X (cc, own, nL, fr, lo, ini) E sF s' (G0 X (pc + 3) ls (.int r :: rest))) : V X (cc, own, nL, fr, lo, ini) E sF s (G0 X pc ls (.ref (xb X + a1) :: .ref (xb X + a0) :: rest)) := by
  obtain ⟨r, s', e, h⟩ := bnd_some h
  exact v_callV (b := a0) (ci := 4) (As := [.ref (xb X + a1)]) (rest := rest) (c_X4_workOut X N a0 a1 s s' r e).2 (c_X4_workOut (l := xl X) (D := xD X) (ka := xka X) X N a0 a1 s s' r e).1 rfl vl_X4_workOut qi_X4_workOut qe_X4_workOut hlink hR rfl rfl hls hr hdg (kk r s' h)
set_option maxHeartbeats 4000000 in
set_option maxRecDepth 100000 in
theorem L_X5_init_21 {X : VX} {sF : vS} {r : Unit} (N : Nat) : ∀ (n : Nat) (a0 : Nat) (l1 : Int32) (s : vS) (ls : Array Slot), lv_has ls 2 [(0, .ref (xb X + a0)), (1, .int l1)] → H_X5_init_21 N n a0 l1 s = some (r, sF) → V X (cX5_init, RX5, 2, 2, 41, true) (vRet sF none none) sF s (G0 X 21 ls []) := by
  intro n
  induction n with
  | zero => intro a0 l1 s ls hl h; cases h
  | succ n ih =>
   intro a0 l1 s ls hl h
   unfold H_X5_init_21 at h
   refine v_iload_n dX5_init_21 rfl (lv_at hl 1 rfl) ?_
   refine v_iconst (4 : Int32) dX5_init_22 (by decide) ?_
   refine v_icmp_ge 45 dX5_init_23 (by decide) h (fun h => ?_) (fun h => ?_)
   · exact v_vret dX5_init_45 h
   · refine v_aload_n dX5_init_26 rfl (lv_at hl 0 rfl) ?_
     refine v_getR 5 1 h (by decide) rfl qfX5_17 dX5_init_27 (fun r3 h => ?_)
     refine v_iload_n dX5_init_30 rfl (lv_at hl 1 rfl) ?_
     refine v_new 6 h (by decide) qcX5_15 qnX6 qjX6 dX5_init_31 (fun q4 s h => ?_)
     refine v_dup dX5_init_34 rfl ?_
     refine k_X6_init h qmX5_21 (by decide) hl.1 (Nat.le_of_ble_eq_true rfl) dX5_init_35 (fun v5 s h => ?_)
     refine v_aast 5 6 dX5_init_38 h (fun s h => ?_)
     refine v_inc (fun z => [(1, .int z), (0, .ref (xb X + a0))]) dX5_init_39 h hl (k := 1) rfl (by rfl) (by decide) (fun _ => rfl) (fun l1_6 ls hl h => ?_)
     refine v_goto 21 dX5_init_42 (by decide) ?_
     exact ih a0 l1_6 s ls (lv_sub hl [1, 0] rfl) h
theorem vl_X5_init : vCl yX5_init cX5_init 2 none 0 := ⟨qy_X5_init, qjX5, by decide +kernel, by decide +kernel, by decide +kernel⟩
set_option maxHeartbeats 4000000 in
set_option maxRecDepth 100000 in
theorem c_X5_init {l : Launch} {D : va_G} {ka : Nat → ClassId} (X0 : VX) (N : Nat) (a0 : Nat) (s sF : vS) (r : Unit) (h : F_X5_init N a0 s = some (r, sF)) : isO s a0 5 = true ∧ vMet l D ka (xb X0) yX5_init cX5_init 2 none 2 41 [.ref (xb X0 + a0)] s sF none := by
  unfold F_X5_init at h
  unfold rcv at h
  obtain ⟨hO, h⟩ := v_chk h
  refine ⟨hO, vMet.of (ini := true) X0 (plainFor_of_name (by decide +kernel)) (Nat.le_of_ble_eq_true rfl) (fun _ => rfl) (fun X ls hb hl => ?_) rfl⟩
  show V X (cX5_init, RX5, 2, 2, 41, true) (vRet sF none none) sF s (G0 X 0 ls [])
  rw [← hb] at hl
  have hl : lv_has ls 2 [(0, .ref (xb X + a0))] := hl
  refine v_aload_n dX5_init_0 rfl (lv_at hl 0 rfl) ?_
  refine v_objI qmX5_3 qo_in qo_code hl.1 ⟨by decide, Nat.le_of_ble_eq_true rfl⟩ dX5_init_1 ?_
  refine v_aload_n dX5_init_4 rfl (lv_at hl 0 rfl) ?_
  refine v_iconst (4 : Int32) dX5_init_5 (by decide) ?_
  refine v_newa 3 h (by decide) qa_boolean dX5_init_6 (fun q1 s h => ?_)
  refine v_putR 5 0 h (by decide) rfl (Or.inr ⟨rfl, rfl, rfl⟩) qfX5_9 dX5_init_8 (fun s h => ?_)
  refine v_aload_n dX5_init_11 rfl (lv_at hl 0 rfl) ?_
  refine v_iconst (4 : Int32) dX5_init_12 (by decide) ?_
  refine v_newq 5 h (by decide) qqX5_15 dX5_init_13 (fun q2 s h => ?_)
  refine v_putR 5 1 h (by decide) rfl (Or.inr ⟨rfl, rfl, rfl⟩) qfX5_17 dX5_init_16 (fun s h => ?_)
  refine v_iconst (0 : Int32) dX5_init_19 (by decide) ?_
  refine v_istore_n [(1, .int (0 : Int32)), (0, .ref (xb X + a0))] dX5_init_20 rfl hl (by decide) rfl (fun ls hl => ?_)
  exact L_X5_init_21 N N a0 (0 : Int32) s ls (lv_sub hl [1, 0] rfl) h
theorem k_X5_init {X : VX} {cc : ByteArray} {own : String} {nL fr lo : Nat} {ini : Bool} {E : VX → Prop} {sF s : vS} {ρ : Type} {res : ρ} {pc : Nat} {ls : Array Slot} {rest : List Value} {N index : Nat} {a0 : Nat} {f : Unit → vS → Option ρ} (h : bnd (F_X5_init N a0 s) f = some res) (hlink : Cond.methodLink own index yX5_init ∈ TT) (hR : 2 + 1 ≤ fr ∧ 8 + (2 + 11) + 41 ≤ lo) (hls : ls.size = nL) (hr : (rest.map fun v => v.category).sum ≤ 8) (hdg : decode cc pc = .ok (.invokespecial index, 3)) (kk : ∀ r s', f r s' = some res → V X (cc, own, nL, fr, lo, ini) E sF s' (G0 X (pc + 3) ls (rest))) : V X (cc, own, nL, fr, lo, ini) E sF s (G0 X pc ls (.ref (xb X + a0) :: rest)) := by
  obtain ⟨r, s', e, h⟩ := bnd_some h
  exact v_callI (b := a0) (As := []) (rest := rest) (c_X5_init X N a0 s s' r e).2 rfl vl_X5_init qi_X5_init hlink hR rfl rfl hls hr hdg (kk r s' h)
set_option maxHeartbeats 4000000 in
set_option maxRecDepth 100000 in
theorem L_X5_become_2 {X : VX} {sF : vS} {r : Unit} (N : Nat) : ∀ (n : Nat) (a0 : Nat) (a1 : Nat) (l2 : Int32) (s : vS) (ls : Array Slot), lv_has ls 3 [(0, .ref (xb X + a0)), (1, .ref (xb X + a1)), (2, .int l2)] → H_X5_become_2 N n a0 a1 l2 s = some (r, sF) → V X (cX5_become, RX5, 3, 1, 22, false) (vRet sF none none) sF s (G0 X 2 ls []) := by
  intro n
  induction n with
  | zero => intro a0 a1 l2 s ls hl h; cases h
  | succ n ih =>
   intro a0 a1 l2 s ls hl h
   unfold H_X5_become_2 at h
   refine v_iload_n dX5_become_2 rfl (lv_at hl 2 rfl) ?_
   refine v_iconst (4 : Int32) dX5_become_3 (by decide) ?_
   refine v_icmp_ge 40 dX5_become_4 (by decide) h (fun h => ?_) (fun h => ?_)
   · exact v_vret dX5_become_40 h
   · refine v_aload_n dX5_become_7 rfl (lv_at hl 0 rfl) ?_
     refine v_getR 5 0 h (by decide) rfl qfX5_9 dX5_become_8 (fun r1 h => ?_)
     refine v_iload_n dX5_become_11 rfl (lv_at hl 2 rfl) ?_
     refine v_aload_n dX5_become_12 rfl (lv_at hl 1 rfl) ?_
     refine v_getR 5 0 h (by decide) rfl qfX5_9 dX5_become_13 (fun r2 h => ?_)
     refine v_iload_n dX5_become_16 rfl (lv_at hl 2 rfl) ?_
     refine v_zald dX5_become_17 h (fun v3 h => ?_)
     refine v_zast dX5_become_18 h (fun s h => ?_)
     refine v_aload_n dX5_become_19 rfl (lv_at hl 0 rfl) ?_
     refine v_getR 5 1 h (by decide) rfl qfX5_17 dX5_become_20 (fun r4 h => ?_)
     refine v_iload_n dX5_become_23 rfl (lv_at hl 2 rfl) ?_
     refine v_aald 5 dX5_become_24 h (fun r5 h => ?_)
     refine v_aload_n dX5_become_25 rfl (lv_at hl 1 rfl) ?_
     refine v_getR 5 1 h (by decide) rfl qfX5_17 dX5_become_26 (fun r6 h => ?_)
     refine v_iload_n dX5_become_29 rfl (lv_at hl 2 rfl) ?_
     refine v_aald 5 dX5_become_30 h (fun r7 h => ?_)
     refine k_X6_become h qmX5_22 (by decide) hl.1 (Nat.le_of_ble_eq_true rfl) dX5_become_31 (fun v8 s h => ?_)
     refine v_inc (fun z => [(2, .int z), (0, .ref (xb X + a0)), (1, .ref (xb X + a1))]) dX5_become_34 h hl (k := 2) rfl (by rfl) (by decide) (fun _ => rfl) (fun l2_9 ls hl h => ?_)
     refine v_goto 2 dX5_become_37 (by decide) ?_
     exact ih a0 a1 l2_9 s ls (lv_sub hl [1, 2, 0] rfl) h
theorem vl_X5_become : vCl yX5_become cX5_become 3 none 1 := ⟨qy_X5_become, qjX5, by decide +kernel, by decide +kernel, by decide +kernel⟩
set_option maxHeartbeats 4000000 in
set_option maxRecDepth 100000 in
theorem c_X5_become {l : Launch} {D : va_G} {ka : Nat → ClassId} (X0 : VX) (N : Nat) (a0 : Nat) (a1 : Nat) (s sF : vS) (r : Unit) (h : F_X5_become N a0 a1 s = some (r, sF)) : isO s a0 5 = true ∧ vMet l D ka (xb X0) yX5_become cX5_become 3 none 1 22 [.ref (xb X0 + a0), .ref (xb X0 + a1)] s sF none := by
  unfold F_X5_become at h
  unfold rcv at h
  obtain ⟨hO, h⟩ := v_chk h
  refine ⟨hO, vMet.of (ini := false) X0 (plainFor_of_name (by decide +kernel)) (Nat.le_of_ble_eq_true rfl) (fun h => by cases h) (fun X ls hb hl => ?_) rfl⟩
  show V X (cX5_become, RX5, 3, 1, 22, false) (vRet sF none none) sF s (G0 X 0 ls [])
  rw [← hb] at hl
  have hl : lv_has ls 3 [(0, .ref (xb X + a0)), (1, .ref (xb X + a1))] := hl
  refine v_iconst (0 : Int32) dX5_become_0 (by decide) ?_
  refine v_istore_n [(2, .int (0 : Int32)), (0, .ref (xb X + a0)), (1, .ref (xb X + a1))] dX5_become_1 rfl hl (by decide) rfl (fun ls hl => ?_)
  exact L_X5_become_2 N N a0 a1 (0 : Int32) s ls (lv_sub hl [1, 2, 0] rfl) h
theorem k_X5_become {X : VX} {cc : ByteArray} {own : String} {nL fr lo : Nat} {ini : Bool} {E : VX → Prop} {sF s : vS} {ρ : Type} {res : ρ} {pc : Nat} {ls : Array Slot} {rest : List Value} {N index : Nat} {a0 : Nat} {a1 : Nat} {f : Unit → vS → Option ρ} (h : bnd (F_X5_become N a0 a1 s) f = some res) (hlink : Cond.methodLink own index yX5_become ∈ TT) (hR : 1 + 1 ≤ fr ∧ 8 + (3 + 11) + 22 ≤ lo) (hls : ls.size = nL) (hr : (rest.map fun v => v.category).sum ≤ 8) (hdg : decode cc pc = .ok (.invokevirtual index, 3)) (kk : ∀ r s', f r s' = some res → V X (cc, own, nL, fr, lo, ini) E sF s' (G0 X (pc + 3) ls (rest))) : V X (cc, own, nL, fr, lo, ini) E sF s (G0 X pc ls (.ref (xb X + a1) :: .ref (xb X + a0) :: rest)) := by
  obtain ⟨r, s', e, h⟩ := bnd_some h
  exact v_callV (b := a0) (ci := 5) (As := [.ref (xb X + a1)]) (rest := rest) (c_X5_become X N a0 a1 s s' r e).2 (c_X5_become (l := xl X) (D := xD X) (ka := xka X) X N a0 a1 s s' r e).1 rfl vl_X5_become qi_X5_become qe_X5_become hlink hR rfl rfl hls hr hdg (kk r s' h)
theorem vl_X5_put : vCl yX5_put cX5_put 3 (some .int) 2 := ⟨qy_X5_put, qjX5, by decide +kernel, by decide +kernel, by decide +kernel⟩
set_option maxHeartbeats 4000000 in
set_option maxRecDepth 100000 in
theorem c_X5_put {l : Launch} {D : va_G} {ka : Nat → ClassId} (X0 : VX) (N : Nat) (a0 : Nat) (l1 : Int32) (a2 : Nat) (s sF : vS) (r : Int32) (h : F_X5_put N a0 l1 a2 s = some (r, sF)) : isO s a0 5 = true ∧ vMet l D ka (xb X0) yX5_put cX5_put 3 (some .int) 1 22 [.ref (xb X0 + a0), .int l1, .ref (xb X0 + a2)] s sF (some (.int r)) := by
  unfold F_X5_put at h
  unfold rcv at h
  obtain ⟨hO, h⟩ := v_chk h
  refine ⟨hO, vMet.of (ini := false) X0 (plainFor_of_name (by decide +kernel)) (Nat.le_of_ble_eq_true rfl) (fun h => by cases h) (fun X ls hb hl => ?_) rfl⟩
  show V X (cX5_put, RX5, 3, 1, 22, false) (vRet sF (some (.int r)) (some .int)) sF s (G0 X 0 ls [])
  rw [← hb] at hl
  have hl : lv_has ls 3 [(0, .ref (xb X + a0)), (1, .int l1), (2, .ref (xb X + a2))] := hl
  refine v_aload_n dX5_put_0 rfl (lv_at hl 0 rfl) ?_
  refine v_getR 5 0 h (by decide) rfl qfX5_9 dX5_put_1 (fun r1 h => ?_)
  refine v_iload_n dX5_put_4 rfl (lv_at hl 1 rfl) ?_
  refine v_iconst (1 : Int32) dX5_put_5 (by decide) ?_
  refine v_zast dX5_put_6 h (fun s h => ?_)
  refine v_aload_n dX5_put_7 rfl (lv_at hl 0 rfl) ?_
  refine v_getR 5 1 h (by decide) rfl qfX5_17 dX5_put_8 (fun r2 h => ?_)
  refine v_iload_n dX5_put_11 rfl (lv_at hl 1 rfl) ?_
  refine v_aald 5 dX5_put_12 h (fun r3 h => ?_)
  refine v_aload_n dX5_put_13 rfl (lv_at hl 2 rfl) ?_
  refine k_X6_become h qmX5_22 (by decide) hl.1 (Nat.le_of_ble_eq_true rfl) dX5_put_14 (fun v4 s h => ?_)
  refine v_aload_n dX5_put_17 rfl (lv_at hl 2 rfl) ?_
  refine k_X6_terms h qmX5_26 (by decide) hl.1 (Nat.le_of_ble_eq_true rfl) dX5_put_18 (fun v5 s h => ?_)
  exact v_iret dX5_put_21 h
theorem k_X5_put {X : VX} {cc : ByteArray} {own : String} {nL fr lo : Nat} {ini : Bool} {E : VX → Prop} {sF s : vS} {ρ : Type} {res : ρ} {pc : Nat} {ls : Array Slot} {rest : List Value} {N index : Nat} {a0 : Nat} {l1 : Int32} {a2 : Nat} {f : Int32 → vS → Option ρ} (h : bnd (F_X5_put N a0 l1 a2 s) f = some res) (hlink : Cond.methodLink own index yX5_put ∈ TT) (hR : 1 + 1 ≤ fr ∧ 8 + (3 + 11) + 22 ≤ lo) (hls : ls.size = nL) (hr : (rest.map fun v => v.category).sum ≤ 8) (hdg : decode cc pc = .ok (.invokevirtual index, 3)) (kk : ∀ r s', f r s' = some res → V X (cc, own, nL, fr, lo, ini) E sF s' (G0 X (pc + 3) ls (.int r :: rest))) : V X (cc, own, nL, fr, lo, ini) E sF s (G0 X pc ls (.ref (xb X + a2) :: .int l1 :: .ref (xb X + a0) :: rest)) := by
  obtain ⟨r, s', e, h⟩ := bnd_some h
  exact v_callV (b := a0) (ci := 5) (As := [.int l1, .ref (xb X + a2)]) (rest := rest) (c_X5_put X N a0 l1 a2 s s' r e).2 (c_X5_put (l := xl X) (D := xD X) (ka := xka X) X N a0 l1 a2 s s' r e).1 rfl vl_X5_put qi_X5_put qe_X5_put hlink hR rfl rfl hls hr hdg (kk r s' h)
theorem vl_X5_drop : vCl yX5_drop cX5_drop 2 none 1 := ⟨qy_X5_drop, qjX5, by decide +kernel, by decide +kernel, by decide +kernel⟩
set_option maxHeartbeats 4000000 in
set_option maxRecDepth 100000 in
theorem c_X5_drop {l : Launch} {D : va_G} {ka : Nat → ClassId} (X0 : VX) (N : Nat) (a0 : Nat) (l1 : Int32) (s sF : vS) (r : Unit) (h : F_X5_drop N a0 l1 s = some (r, sF)) : isO s a0 5 = true ∧ vMet l D ka (xb X0) yX5_drop cX5_drop 2 none 1 21 [.ref (xb X0 + a0), .int l1] s sF none := by
  unfold F_X5_drop at h
  unfold rcv at h
  obtain ⟨hO, h⟩ := v_chk h
  refine ⟨hO, vMet.of (ini := false) X0 (plainFor_of_name (by decide +kernel)) (Nat.le_of_ble_eq_true rfl) (fun h => by cases h) (fun X ls hb hl => ?_) rfl⟩
  show V X (cX5_drop, RX5, 2, 1, 21, false) (vRet sF none none) sF s (G0 X 0 ls [])
  rw [← hb] at hl
  have hl : lv_has ls 2 [(0, .ref (xb X + a0)), (1, .int l1)] := hl
  refine v_aload_n dX5_drop_0 rfl (lv_at hl 0 rfl) ?_
  refine v_getR 5 0 h (by decide) rfl qfX5_9 dX5_drop_1 (fun r1 h => ?_)
  refine v_iload_n dX5_drop_4 rfl (lv_at hl 1 rfl) ?_
  refine v_iconst (0 : Int32) dX5_drop_5 (by decide) ?_
  refine v_zast dX5_drop_6 h (fun s h => ?_)
  refine v_aload_n dX5_drop_7 rfl (lv_at hl 0 rfl) ?_
  refine v_getR 5 1 h (by decide) rfl qfX5_17 dX5_drop_8 (fun r2 h => ?_)
  refine v_iload_n dX5_drop_11 rfl (lv_at hl 1 rfl) ?_
  refine v_aald 5 dX5_drop_12 h (fun r3 h => ?_)
  refine k_X6_empty h qmX5_30 (by decide) hl.1 (Nat.le_of_ble_eq_true rfl) dX5_drop_13 (fun v4 s h => ?_)
  exact v_vret dX5_drop_16 h
theorem k_X5_drop {X : VX} {cc : ByteArray} {own : String} {nL fr lo : Nat} {ini : Bool} {E : VX → Prop} {sF s : vS} {ρ : Type} {res : ρ} {pc : Nat} {ls : Array Slot} {rest : List Value} {N index : Nat} {a0 : Nat} {l1 : Int32} {f : Unit → vS → Option ρ} (h : bnd (F_X5_drop N a0 l1 s) f = some res) (hlink : Cond.methodLink own index yX5_drop ∈ TT) (hR : 1 + 1 ≤ fr ∧ 8 + (2 + 11) + 21 ≤ lo) (hls : ls.size = nL) (hr : (rest.map fun v => v.category).sum ≤ 8) (hdg : decode cc pc = .ok (.invokevirtual index, 3)) (kk : ∀ r s', f r s' = some res → V X (cc, own, nL, fr, lo, ini) E sF s' (G0 X (pc + 3) ls (rest))) : V X (cc, own, nL, fr, lo, ini) E sF s (G0 X pc ls (.int l1 :: .ref (xb X + a0) :: rest)) := by
  obtain ⟨r, s', e, h⟩ := bnd_some h
  exact v_callV (b := a0) (ci := 5) (As := [.int l1]) (rest := rest) (c_X5_drop X N a0 l1 s s' r e).2 (c_X5_drop (l := xl X) (D := xD X) (ka := xka X) X N a0 l1 s s' r e).1 rfl vl_X5_drop qi_X5_drop qe_X5_drop hlink hR rfl rfl hls hr hdg (kk r s' h)
set_option maxHeartbeats 4000000 in
set_option maxRecDepth 100000 in
theorem L_X5_held_21 {X : VX} {sF : vS} {r : Int32} (N : Nat) (k4 : Nat → Int32 → Int32 → vS → Option (Int32 × vS)) (hk4 : ∀ (a0 : Nat) (l1 : Int32) (l2 : Int32) (s : vS) (ls : Array Slot), lv_has ls 3 [(0, .ref (xb X + a0)), (1, .int l1), (2, .int l2)] → k4 a0 l1 l2 s = some (r, sF) → V X (cX5_held, RX5, 3, 0, 0, false) (vRet sF (some (.int r)) (some .int)) sF s (G0 X 4 ls [])) (a0 : Nat) (l1 : Int32) (l2 : Int32) (s : vS) (ls : Array Slot) (hl : lv_has ls 3 [(0, .ref (xb X + a0)), (1, .int l1), (2, .int l2)]) (h : J_X5_held_21 N k4 a0 l1 l2 s = some (r, sF)) : V X (cX5_held, RX5, 3, 0, 0, false) (vRet sF (some (.int r)) (some .int)) sF s (G0 X 21 ls []) := by
  unfold J_X5_held_21 at h
  refine v_inc (fun z => [(2, .int z), (0, .ref (xb X + a0)), (1, .int l1)]) dX5_held_21 h hl (k := 2) rfl (by rfl) (by decide) (fun _ => rfl) (fun l2_4 ls hl h => ?_)
  refine v_goto 4 dX5_held_24 (by decide) ?_
  exact hk4 a0 l1 l2_4 s ls (lv_sub hl [1, 2, 0] rfl) h
set_option maxHeartbeats 4000000 in
set_option maxRecDepth 100000 in
theorem L_X5_held_4 {X : VX} {sF : vS} {r : Int32} (N : Nat) : ∀ (n : Nat) (a0 : Nat) (l1 : Int32) (l2 : Int32) (s : vS) (ls : Array Slot), lv_has ls 3 [(0, .ref (xb X + a0)), (1, .int l1), (2, .int l2)] → H_X5_held_4 N n a0 l1 l2 s = some (r, sF) → V X (cX5_held, RX5, 3, 0, 0, false) (vRet sF (some (.int r)) (some .int)) sF s (G0 X 4 ls []) := by
  intro n
  induction n with
  | zero => intro a0 l1 l2 s ls hl h; cases h
  | succ n ih =>
   intro a0 l1 l2 s ls hl h
   unfold H_X5_held_4 at h
   refine v_iload_n dX5_held_4 rfl (lv_at hl 2 rfl) ?_
   refine v_iconst (4 : Int32) dX5_held_5 (by decide) ?_
   refine v_icmp_ge 27 dX5_held_6 (by decide) h (fun h => ?_) (fun h => ?_)
   · refine v_iload_n dX5_held_27 rfl (lv_at hl 1 rfl) ?_
     exact v_iret dX5_held_28 h
   · refine v_aload_n dX5_held_9 rfl (lv_at hl 0 rfl) ?_
     refine v_getR 5 0 h (by decide) rfl qfX5_9 dX5_held_10 (fun r1 h => ?_)
     refine v_iload_n dX5_held_13 rfl (lv_at hl 2 rfl) ?_
     refine v_zald dX5_held_14 h (fun v2 h => ?_)
     refine v_if_eq 21 dX5_held_15 (by decide) h (fun h => ?_) (fun h => ?_)
     · exact L_X5_held_21 N (H_X5_held_4 N n) ih a0 l1 l2 s ls (lv_sub hl [0, 1, 2] rfl) h
     · refine v_inc (fun z => [(1, .int z), (0, .ref (xb X + a0)), (2, .int l2)]) dX5_held_18 h hl (k := 1) rfl (by rfl) (by decide) (fun _ => rfl) (fun l1_3 ls hl h => ?_)
       exact L_X5_held_21 N (H_X5_held_4 N n) ih a0 l1_3 l2 s ls (lv_sub hl [1, 0, 2] rfl) h
theorem vl_X5_held : vCl yX5_held cX5_held 3 (some .int) 0 := ⟨qy_X5_held, qjX5, by decide +kernel, by decide +kernel, by decide +kernel⟩
set_option maxHeartbeats 4000000 in
set_option maxRecDepth 100000 in
theorem c_X5_held {l : Launch} {D : va_G} {ka : Nat → ClassId} (X0 : VX) (N : Nat) (a0 : Nat) (s sF : vS) (r : Int32) (h : F_X5_held N a0 s = some (r, sF)) : isO s a0 5 = true ∧ vMet l D ka (xb X0) yX5_held cX5_held 3 (some .int) 0 0 [.ref (xb X0 + a0)] s sF (some (.int r)) := by
  unfold F_X5_held at h
  unfold rcv at h
  obtain ⟨hO, h⟩ := v_chk h
  refine ⟨hO, vMet.of (ini := false) X0 (plainFor_of_name (by decide +kernel)) (Nat.le_of_ble_eq_true rfl) (fun h => by cases h) (fun X ls hb hl => ?_) rfl⟩
  show V X (cX5_held, RX5, 3, 0, 0, false) (vRet sF (some (.int r)) (some .int)) sF s (G0 X 0 ls [])
  rw [← hb] at hl
  have hl : lv_has ls 3 [(0, .ref (xb X + a0))] := hl
  refine v_iconst (0 : Int32) dX5_held_0 (by decide) ?_
  refine v_istore_n [(1, .int (0 : Int32)), (0, .ref (xb X + a0))] dX5_held_1 rfl hl (by decide) rfl (fun ls hl => ?_)
  refine v_iconst (0 : Int32) dX5_held_2 (by decide) ?_
  refine v_istore_n [(2, .int (0 : Int32)), (1, .int (0 : Int32)), (0, .ref (xb X + a0))] dX5_held_3 rfl hl (by decide) rfl (fun ls hl => ?_)
  exact L_X5_held_4 N N a0 (0 : Int32) (0 : Int32) s ls (lv_sub hl [2, 1, 0] rfl) h
theorem k_X5_held {X : VX} {cc : ByteArray} {own : String} {nL fr lo : Nat} {ini : Bool} {E : VX → Prop} {sF s : vS} {ρ : Type} {res : ρ} {pc : Nat} {ls : Array Slot} {rest : List Value} {N index : Nat} {a0 : Nat} {f : Int32 → vS → Option ρ} (h : bnd (F_X5_held N a0 s) f = some res) (hlink : Cond.methodLink own index yX5_held ∈ TT) (hR : 0 + 1 ≤ fr ∧ 8 + (3 + 11) + 0 ≤ lo) (hls : ls.size = nL) (hr : (rest.map fun v => v.category).sum ≤ 8) (hdg : decode cc pc = .ok (.invokevirtual index, 3)) (kk : ∀ r s', f r s' = some res → V X (cc, own, nL, fr, lo, ini) E sF s' (G0 X (pc + 3) ls (.int r :: rest))) : V X (cc, own, nL, fr, lo, ini) E sF s (G0 X pc ls (.ref (xb X + a0) :: rest)) := by
  obtain ⟨r, s', e, h⟩ := bnd_some h
  exact v_callV (b := a0) (ci := 5) (As := []) (rest := rest) (c_X5_held X N a0 s s' r e).2 (c_X5_held (l := xl X) (D := xD X) (ka := xka X) X N a0 s s' r e).1 rfl vl_X5_held qi_X5_held qe_X5_held hlink hR rfl rfl hls hr hdg (kk r s' h)
set_option maxHeartbeats 4000000 in
set_option maxRecDepth 100000 in
theorem L_X5_terms_4 {X : VX} {sF : vS} {r : Int32} (N : Nat) : ∀ (n : Nat) (a0 : Nat) (l1 : Int32) (l2 : Int32) (s : vS) (ls : Array Slot), lv_has ls 3 [(0, .ref (xb X + a0)), (1, .int l1), (2, .int l2)] → H_X5_terms_4 N n a0 l1 l2 s = some (r, sF) → V X (cX5_terms, RX5, 3, 1, 22, false) (vRet sF (some (.int r)) (some .int)) sF s (G0 X 4 ls []) := by
  intro n
  induction n with
  | zero => intro a0 l1 l2 s ls hl h; cases h
  | succ n ih =>
   intro a0 l1 l2 s ls hl h
   unfold H_X5_terms_4 at h
   refine v_iload_n dX5_terms_4 rfl (lv_at hl 2 rfl) ?_
   refine v_iconst (4 : Int32) dX5_terms_5 (by decide) ?_
   refine v_icmp_ge 27 dX5_terms_6 (by decide) h (fun h => ?_) (fun h => ?_)
   · refine v_iload_n dX5_terms_27 rfl (lv_at hl 1 rfl) ?_
     exact v_iret dX5_terms_28 h
   · refine v_iload_n dX5_terms_9 rfl (lv_at hl 1 rfl) ?_
     refine v_aload_n dX5_terms_10 rfl (lv_at hl 0 rfl) ?_
     refine v_getR 5 1 h (by decide) rfl qfX5_17 dX5_terms_11 (fun r1 h => ?_)
     refine v_iload_n dX5_terms_14 rfl (lv_at hl 2 rfl) ?_
     refine v_aald 5 dX5_terms_15 h (fun r2 h => ?_)
     refine k_X6_terms h qmX5_26 (by decide) hl.1 (Nat.le_of_ble_eq_true rfl) dX5_terms_16 (fun v3 s h => ?_)
     refine v_iadd dX5_terms_19 ?_
     refine v_nmI h (fun l1_4 h => ?_)
     refine v_istore_n [(1, .int l1_4), (0, .ref (xb X + a0)), (2, .int l2)] dX5_terms_20 rfl hl (by decide) rfl (fun ls hl => ?_)
     refine v_inc (fun z => [(2, .int z), (1, .int l1_4), (0, .ref (xb X + a0))]) dX5_terms_21 h hl (k := 2) rfl (by rfl) (by decide) (fun _ => rfl) (fun l2_5 ls hl h => ?_)
     refine v_goto 4 dX5_terms_24 (by decide) ?_
     exact ih a0 l1_4 l2_5 s ls (lv_sub hl [2, 1, 0] rfl) h
theorem vl_X5_terms : vCl yX5_terms cX5_terms 3 (some .int) 0 := ⟨qy_X5_terms, qjX5, by decide +kernel, by decide +kernel, by decide +kernel⟩
set_option maxHeartbeats 4000000 in
set_option maxRecDepth 100000 in
theorem c_X5_terms {l : Launch} {D : va_G} {ka : Nat → ClassId} (X0 : VX) (N : Nat) (a0 : Nat) (s sF : vS) (r : Int32) (h : F_X5_terms N a0 s = some (r, sF)) : isO s a0 5 = true ∧ vMet l D ka (xb X0) yX5_terms cX5_terms 3 (some .int) 1 22 [.ref (xb X0 + a0)] s sF (some (.int r)) := by
  unfold F_X5_terms at h
  unfold rcv at h
  obtain ⟨hO, h⟩ := v_chk h
  refine ⟨hO, vMet.of (ini := false) X0 (plainFor_of_name (by decide +kernel)) (Nat.le_of_ble_eq_true rfl) (fun h => by cases h) (fun X ls hb hl => ?_) rfl⟩
  show V X (cX5_terms, RX5, 3, 1, 22, false) (vRet sF (some (.int r)) (some .int)) sF s (G0 X 0 ls [])
  rw [← hb] at hl
  have hl : lv_has ls 3 [(0, .ref (xb X + a0))] := hl
  refine v_iconst (0 : Int32) dX5_terms_0 (by decide) ?_
  refine v_istore_n [(1, .int (0 : Int32)), (0, .ref (xb X + a0))] dX5_terms_1 rfl hl (by decide) rfl (fun ls hl => ?_)
  refine v_iconst (0 : Int32) dX5_terms_2 (by decide) ?_
  refine v_istore_n [(2, .int (0 : Int32)), (1, .int (0 : Int32)), (0, .ref (xb X + a0))] dX5_terms_3 rfl hl (by decide) rfl (fun ls hl => ?_)
  exact L_X5_terms_4 N N a0 (0 : Int32) (0 : Int32) s ls (lv_sub hl [2, 1, 0] rfl) h
theorem k_X5_terms {X : VX} {cc : ByteArray} {own : String} {nL fr lo : Nat} {ini : Bool} {E : VX → Prop} {sF s : vS} {ρ : Type} {res : ρ} {pc : Nat} {ls : Array Slot} {rest : List Value} {N index : Nat} {a0 : Nat} {f : Int32 → vS → Option ρ} (h : bnd (F_X5_terms N a0 s) f = some res) (hlink : Cond.methodLink own index yX5_terms ∈ TT) (hR : 1 + 1 ≤ fr ∧ 8 + (3 + 11) + 22 ≤ lo) (hls : ls.size = nL) (hr : (rest.map fun v => v.category).sum ≤ 8) (hdg : decode cc pc = .ok (.invokevirtual index, 3)) (kk : ∀ r s', f r s' = some res → V X (cc, own, nL, fr, lo, ini) E sF s' (G0 X (pc + 3) ls (.int r :: rest))) : V X (cc, own, nL, fr, lo, ini) E sF s (G0 X pc ls (.ref (xb X + a0) :: rest)) := by
  obtain ⟨r, s', e, h⟩ := bnd_some h
  exact v_callV (b := a0) (ci := 5) (As := []) (rest := rest) (c_X5_terms X N a0 s s' r e).2 (c_X5_terms (l := xl X) (D := xD X) (ka := xka X) X N a0 s s' r e).1 rfl vl_X5_terms qi_X5_terms qe_X5_terms hlink hR rfl rfl hls hr hdg (kk r s' h)
set_option maxHeartbeats 4000000 in
set_option maxRecDepth 100000 in
theorem L_X6_numberOfTerm_31 {X : VX} {sF : vS} {r : Int32} (N : Nat) (k4 : Nat → Int32 → Int32 → Int32 → vS → Option (Int32 × vS)) (hk4 : ∀ (a0 : Nat) (l1 : Int32) (l2 : Int32) (l3 : Int32) (s : vS) (ls : Array Slot), lv_has ls 4 [(0, .ref (xb X + a0)), (1, .int l1), (2, .int l2), (3, .int l3)] → k4 a0 l1 l2 l3 s = some (r, sF) → V X (cX6_numberOfTerm, RX6, 4, 0, 0, false) (vRet sF (some (.int r)) (some .int)) sF s (G0 X 4 ls [])) (a0 : Nat) (l1 : Int32) (l2 : Int32) (l3 : Int32) (s : vS) (ls : Array Slot) (hl : lv_has ls 4 [(0, .ref (xb X + a0)), (1, .int l1), (2, .int l2), (3, .int l3)]) (h : J_X6_numberOfTerm_31 N k4 a0 l1 l2 l3 s = some (r, sF)) : V X (cX6_numberOfTerm, RX6, 4, 0, 0, false) (vRet sF (some (.int r)) (some .int)) sF s (G0 X 31 ls []) := by
  unfold J_X6_numberOfTerm_31 at h
  refine v_inc (fun z => [(3, .int z), (0, .ref (xb X + a0)), (1, .int l1), (2, .int l2)]) dX6_numberOfTerm_31 h hl (k := 3) rfl (by rfl) (by decide) (fun _ => rfl) (fun l3_4 ls hl h => ?_)
  refine v_goto 4 dX6_numberOfTerm_34 (by decide) ?_
  exact hk4 a0 l1 l2 l3_4 s ls (lv_sub hl [1, 2, 3, 0] rfl) h
set_option maxHeartbeats 4000000 in
set_option maxRecDepth 100000 in
theorem L_X6_numberOfTerm_4 {X : VX} {sF : vS} {r : Int32} (N : Nat) : ∀ (n : Nat) (a0 : Nat) (l1 : Int32) (l2 : Int32) (l3 : Int32) (s : vS) (ls : Array Slot), lv_has ls 4 [(0, .ref (xb X + a0)), (1, .int l1), (2, .int l2), (3, .int l3)] → H_X6_numberOfTerm_4 N n a0 l1 l2 l3 s = some (r, sF) → V X (cX6_numberOfTerm, RX6, 4, 0, 0, false) (vRet sF (some (.int r)) (some .int)) sF s (G0 X 4 ls []) := by
  intro n
  induction n with
  | zero => intro a0 l1 l2 l3 s ls hl h; cases h
  | succ n ih =>
   intro a0 l1 l2 l3 s ls hl h
   unfold H_X6_numberOfTerm_4 at h
   refine v_iload_n dX6_numberOfTerm_4 rfl (lv_at hl 3 rfl) ?_
   refine v_bipush (29 : Int32) dX6_numberOfTerm_5 (by decide) ?_
   refine v_icmp_ge 37 dX6_numberOfTerm_7 (by decide) h (fun h => ?_) (fun h => ?_)
   · refine v_iconst (-1 : Int32) dX6_numberOfTerm_37 (by decide) ?_
     exact v_iret dX6_numberOfTerm_38 h
   · refine v_aload_n dX6_numberOfTerm_10 rfl (lv_at hl 0 rfl) ?_
     refine v_getR 6 1 h (by decide) rfl qfX6_15 dX6_numberOfTerm_11 (fun r1 h => ?_)
     refine v_iload_n dX6_numberOfTerm_14 rfl (lv_at hl 3 rfl) ?_
     refine v_lald dX6_numberOfTerm_15 h (fun v2 h => ?_)
     refine v_lconst (0 : Int64) dX6_numberOfTerm_16 (by decide) ?_
     refine v_lcmp dX6_numberOfTerm_17 ?_
     refine v_if_eq 31 dX6_numberOfTerm_18 (by decide) h (fun h => ?_) (fun h => ?_)
     · exact L_X6_numberOfTerm_31 N (H_X6_numberOfTerm_4 N n) ih a0 l1 l2 l3 s ls (lv_sub hl [0, 1, 2, 3] rfl) h
     · refine v_iload_n dX6_numberOfTerm_21 rfl (lv_at hl 2 rfl) ?_
       refine v_iload_n dX6_numberOfTerm_22 rfl (lv_at hl 1 rfl) ?_
       refine v_icmp_ne 28 dX6_numberOfTerm_23 (by decide) h (fun h => ?_) (fun h => ?_)
       · refine v_inc (fun z => [(2, .int z), (0, .ref (xb X + a0)), (1, .int l1), (3, .int l3)]) dX6_numberOfTerm_28 h hl (k := 2) rfl (by rfl) (by decide) (fun _ => rfl) (fun l2_3 ls hl h => ?_)
         exact L_X6_numberOfTerm_31 N (H_X6_numberOfTerm_4 N n) ih a0 l1 l2_3 l3 s ls (lv_sub hl [1, 2, 0, 3] rfl) h
       · refine v_iload_n dX6_numberOfTerm_26 rfl (lv_at hl 3 rfl) ?_
         exact v_iret dX6_numberOfTerm_27 h
theorem vl_X6_numberOfTerm : vCl yX6_numberOfTerm cX6_numberOfTerm 4 (some .int) 1 := ⟨qy_X6_numberOfTerm, qjX6, by decide +kernel, by decide +kernel, by decide +kernel⟩
set_option maxHeartbeats 4000000 in
set_option maxRecDepth 100000 in
theorem c_X6_numberOfTerm {l : Launch} {D : va_G} {ka : Nat → ClassId} (X0 : VX) (N : Nat) (a0 : Nat) (l1 : Int32) (s sF : vS) (r : Int32) (h : F_X6_numberOfTerm N a0 l1 s = some (r, sF)) : isO s a0 6 = true ∧ vMet l D ka (xb X0) yX6_numberOfTerm cX6_numberOfTerm 4 (some .int) 0 0 [.ref (xb X0 + a0), .int l1] s sF (some (.int r)) := by
  unfold F_X6_numberOfTerm at h
  unfold rcv at h
  obtain ⟨hO, h⟩ := v_chk h
  refine ⟨hO, vMet.of (ini := false) X0 (plainFor_of_name (by decide +kernel)) (Nat.le_of_ble_eq_true rfl) (fun h => by cases h) (fun X ls hb hl => ?_) rfl⟩
  show V X (cX6_numberOfTerm, RX6, 4, 0, 0, false) (vRet sF (some (.int r)) (some .int)) sF s (G0 X 0 ls [])
  rw [← hb] at hl
  have hl : lv_has ls 4 [(0, .ref (xb X + a0)), (1, .int l1)] := hl
  refine v_iconst (0 : Int32) dX6_numberOfTerm_0 (by decide) ?_
  refine v_istore_n [(2, .int (0 : Int32)), (0, .ref (xb X + a0)), (1, .int l1)] dX6_numberOfTerm_1 rfl hl (by decide) rfl (fun ls hl => ?_)
  refine v_iconst (0 : Int32) dX6_numberOfTerm_2 (by decide) ?_
  refine v_istore_n [(3, .int (0 : Int32)), (2, .int (0 : Int32)), (0, .ref (xb X + a0)), (1, .int l1)] dX6_numberOfTerm_3 rfl hl (by decide) rfl (fun ls hl => ?_)
  exact L_X6_numberOfTerm_4 N N a0 l1 (0 : Int32) (0 : Int32) s ls (lv_sub hl [2, 3, 1, 0] rfl) h
theorem k_X6_numberOfTerm {X : VX} {cc : ByteArray} {own : String} {nL fr lo : Nat} {ini : Bool} {E : VX → Prop} {sF s : vS} {ρ : Type} {res : ρ} {pc : Nat} {ls : Array Slot} {rest : List Value} {N index : Nat} {a0 : Nat} {l1 : Int32} {f : Int32 → vS → Option ρ} (h : bnd (F_X6_numberOfTerm N a0 l1 s) f = some res) (hlink : Cond.methodLink own index yX6_numberOfTerm ∈ TT) (hR : 0 + 1 ≤ fr ∧ 8 + (4 + 11) + 0 ≤ lo) (hls : ls.size = nL) (hr : (rest.map fun v => v.category).sum ≤ 8) (hdg : decode cc pc = .ok (.invokevirtual index, 3)) (kk : ∀ r s', f r s' = some res → V X (cc, own, nL, fr, lo, ini) E sF s' (G0 X (pc + 3) ls (.int r :: rest))) : V X (cc, own, nL, fr, lo, ini) E sF s (G0 X pc ls (.int l1 :: .ref (xb X + a0) :: rest)) := by
  obtain ⟨r, s', e, h⟩ := bnd_some h
  exact v_callV (b := a0) (ci := 6) (As := [.int l1]) (rest := rest) (c_X6_numberOfTerm X N a0 l1 s s' r e).2 (c_X6_numberOfTerm (l := xl X) (D := xD X) (ka := xka X) X N a0 l1 s s' r e).1 rfl vl_X6_numberOfTerm qi_X6_numberOfTerm qe_X6_numberOfTerm hlink hR rfl rfl hls hr hdg (kk r s' h)
set_option maxHeartbeats 4000000 in
set_option maxRecDepth 100000 in
theorem L_X6_extremeOf_101 {X : VX} {sF : vS} {r : Int32} (N : Nat) (k8 : Nat → Int32 → Int32 → Int32 → Int32 → vS → Option (Int32 × vS)) (hk8 : ∀ (a0 : Nat) (l2 : Int32) (l3 : Int32) (l4 : Int32) (l5 : Int32) (s : vS) (ls : Array Slot), lv_has ls 8 [(0, .ref (xb X + a0)), (2, .int l2), (3, .int l3), (4, .int l4), (5, .int l5)] → k8 a0 l2 l3 l4 l5 s = some (r, sF) → V X (cX6_extremeOf, RX6, 8, 2, 70, false) (vRet sF (some (.int r)) (some .int)) sF s (G0 X 8 ls [])) (a0 : Nat) (l2 : Int32) (l3 : Int32) (l4 : Int32) (l5 : Int32) (s : vS) (ls : Array Slot) (hl : lv_has ls 8 [(0, .ref (xb X + a0)), (2, .int l2), (3, .int l3), (4, .int l4), (5, .int l5)]) (h : J_X6_extremeOf_101 N k8 a0 l2 l3 l4 l5 s = some (r, sF)) : V X (cX6_extremeOf, RX6, 8, 2, 70, false) (vRet sF (some (.int r)) (some .int)) sF s (G0 X 101 ls []) := by
  unfold J_X6_extremeOf_101 at h
  refine v_inc (fun z => [(5, .int z), (0, .ref (xb X + a0)), (2, .int l2), (3, .int l3), (4, .int l4)]) dX6_extremeOf_101 h hl (k := 4) rfl (by rfl) (by decide) (fun _ => rfl) (fun l5_20 ls hl h => ?_)
  refine v_goto 8 dX6_extremeOf_104 (by decide) ?_
  exact hk8 a0 l2 l3 l4 l5_20 s ls (lv_sub hl [1, 2, 3, 4, 0] rfl) h
set_option maxHeartbeats 4000000 in
set_option maxRecDepth 100000 in
theorem L_X6_extremeOf_97 {X : VX} {sF : vS} {r : Int32} (N : Nat) (k8 : Nat → Int32 → Int32 → Int32 → Int32 → vS → Option (Int32 × vS)) (hk8 : ∀ (a0 : Nat) (l2 : Int32) (l3 : Int32) (l4 : Int32) (l5 : Int32) (s : vS) (ls : Array Slot), lv_has ls 8 [(0, .ref (xb X + a0)), (2, .int l2), (3, .int l3), (4, .int l4), (5, .int l5)] → k8 a0 l2 l3 l4 l5 s = some (r, sF) → V X (cX6_extremeOf, RX6, 8, 2, 70, false) (vRet sF (some (.int r)) (some .int)) sF s (G0 X 8 ls [])) (a0 : Nat) (l2 : Int32) (l3 : Int32) (l5 : Int32) (s : vS) (ls : Array Slot) (hl : lv_has ls 8 [(0, .ref (xb X + a0)), (2, .int l2), (3, .int l3), (5, .int l5)]) (h : J_X6_extremeOf_97 N k8 a0 l2 l3 l5 s = some (r, sF)) : V X (cX6_extremeOf, RX6, 8, 2, 70, false) (vRet sF (some (.int r)) (some .int)) sF s (G0 X 97 ls []) := by
  unfold J_X6_extremeOf_97 at h
  refine v_iload dX6_extremeOf_97 (lv_at hl 3 rfl) ?_
  refine v_istore [(4, .int l5), (0, .ref (xb X + a0)), (2, .int l2), (3, .int l3), (5, .int l5)] dX6_extremeOf_99 hl (by decide) rfl (fun ls hl => ?_)
  exact L_X6_extremeOf_101 N k8 hk8 a0 l2 l3 l5 l5 s ls (lv_sub hl [1, 2, 3, 0, 4] rfl) h
set_option maxHeartbeats 4000000 in
set_option maxRecDepth 100000 in
theorem L_X6_extremeOf_8 {X : VX} {sF : vS} {r : Int32} (N : Nat) : ∀ (n : Nat) (a0 : Nat) (l2 : Int32) (l3 : Int32) (l4 : Int32) (l5 : Int32) (s : vS) (ls : Array Slot), lv_has ls 8 [(0, .ref (xb X + a0)), (2, .int l2), (3, .int l3), (4, .int l4), (5, .int l5)] → H_X6_extremeOf_8 N n a0 l2 l3 l4 l5 s = some (r, sF) → V X (cX6_extremeOf, RX6, 8, 2, 70, false) (vRet sF (some (.int r)) (some .int)) sF s (G0 X 8 ls []) := by
  intro n
  induction n with
  | zero => intro a0 l2 l3 l4 l5 s ls hl h; cases h
  | succ n ih =>
   intro a0 l2 l3 l4 l5 s ls hl h
   unfold H_X6_extremeOf_8 at h
   refine v_iload dX6_extremeOf_8 (lv_at hl 4 rfl) ?_
   refine v_iload_n dX6_extremeOf_10 rfl (lv_at hl 1 rfl) ?_
   refine v_icmp_ge 107 dX6_extremeOf_11 (by decide) h (fun h => ?_) (fun h => ?_)
   · refine v_iload dX6_extremeOf_107 (lv_at hl 3 rfl) ?_
     exact v_iret dX6_extremeOf_109 h
   · refine v_aload_n dX6_extremeOf_14 rfl (lv_at hl 0 rfl) ?_
     refine v_getR 6 1 h (by decide) rfl qfX6_15 dX6_extremeOf_15 (fun r2 h => ?_)
     refine v_iload dX6_extremeOf_18 (lv_at hl 4 rfl) ?_
     refine v_lald dX6_extremeOf_20 h (fun v3 h => ?_)
     refine v_aload_n dX6_extremeOf_21 rfl (lv_at hl 0 rfl) ?_
     refine v_getR 6 2 h (by decide) rfl qfX6_19 dX6_extremeOf_22 (fun r4 h => ?_)
     refine v_iload dX6_extremeOf_25 (lv_at hl 4 rfl) ?_
     refine v_lald dX6_extremeOf_27 h (fun v5 h => ?_)
     refine v_aload_n dX6_extremeOf_28 rfl (lv_at hl 0 rfl) ?_
     refine v_getR 6 1 h (by decide) rfl qfX6_15 dX6_extremeOf_29 (fun r6 h => ?_)
     refine v_iload dX6_extremeOf_32 (lv_at hl 3 rfl) ?_
     refine v_lald dX6_extremeOf_34 h (fun v7 h => ?_)
     refine v_aload_n dX6_extremeOf_35 rfl (lv_at hl 0 rfl) ?_
     refine v_getR 6 2 h (by decide) rfl qfX6_19 dX6_extremeOf_36 (fun r8 h => ?_)
     refine v_iload dX6_extremeOf_39 (lv_at hl 3 rfl) ?_
     refine v_lald dX6_extremeOf_41 h (fun v9 h => ?_)
     refine k_X2_isLess h qmX6_44 (by decide) hl.1 (Nat.le_of_ble_eq_true rfl) dX6_extremeOf_42 (fun v10 s h => ?_)
     refine v_istore [(6, .int v10), (0, .ref (xb X + a0)), (2, .int l2), (3, .int l3), (4, .int l4), (5, .int l5)] dX6_extremeOf_45 hl (by decide) rfl (fun ls hl => ?_)
     refine v_aload_n dX6_extremeOf_47 rfl (lv_at hl 1 rfl) ?_
     refine v_getR 6 1 h (by decide) rfl qfX6_15 dX6_extremeOf_48 (fun r11 h => ?_)
     refine v_iload dX6_extremeOf_51 (lv_at hl 4 rfl) ?_
     refine v_lald dX6_extremeOf_53 h (fun v12 h => ?_)
     refine v_aload_n dX6_extremeOf_54 rfl (lv_at hl 1 rfl) ?_
     refine v_getR 6 2 h (by decide) rfl qfX6_19 dX6_extremeOf_55 (fun r13 h => ?_)
     refine v_iload dX6_extremeOf_58 (lv_at hl 4 rfl) ?_
     refine v_lald dX6_extremeOf_60 h (fun v14 h => ?_)
     refine v_aload_n dX6_extremeOf_61 rfl (lv_at hl 1 rfl) ?_
     refine v_getR 6 1 h (by decide) rfl qfX6_15 dX6_extremeOf_62 (fun r15 h => ?_)
     refine v_iload dX6_extremeOf_65 (lv_at hl 5 rfl) ?_
     refine v_lald dX6_extremeOf_67 h (fun v16 h => ?_)
     refine v_aload_n dX6_extremeOf_68 rfl (lv_at hl 1 rfl) ?_
     refine v_getR 6 2 h (by decide) rfl qfX6_19 dX6_extremeOf_69 (fun r17 h => ?_)
     refine v_iload dX6_extremeOf_72 (lv_at hl 5 rfl) ?_
     refine v_lald dX6_extremeOf_74 h (fun v18 h => ?_)
     refine k_X2_isLess h qmX6_44 (by decide) hl.1 (Nat.le_of_ble_eq_true rfl) dX6_extremeOf_75 (fun v19 s h => ?_)
     refine v_istore [(7, .int v19), (6, .int v10), (0, .ref (xb X + a0)), (2, .int l2), (3, .int l3), (4, .int l4), (5, .int l5)] dX6_extremeOf_78 hl (by decide) rfl (fun ls hl => ?_)
     refine v_iload_n dX6_extremeOf_80 rfl (lv_at hl 4 rfl) ?_
     refine v_if_eq 92 dX6_extremeOf_81 (by decide) h (fun h => ?_) (fun h => ?_)
     · refine v_iload dX6_extremeOf_92 (lv_at hl 1 rfl) ?_
       refine v_if_eq 101 dX6_extremeOf_94 (by decide) h (fun h => ?_) (fun h => ?_)
       · exact L_X6_extremeOf_101 N (H_X6_extremeOf_8 N n) ih a0 l2 l3 l4 l5 s ls (lv_sub hl [2, 3, 4, 5, 6] rfl) h
       · exact L_X6_extremeOf_97 N (H_X6_extremeOf_8 N n) ih a0 l2 l3 l5 s ls (lv_sub hl [2, 3, 4, 6] rfl) h
     · refine v_iload dX6_extremeOf_84 (lv_at hl 0 rfl) ?_
       refine v_if_eq 101 dX6_extremeOf_86 (by decide) h (fun h => ?_) (fun h => ?_)
       · exact L_X6_extremeOf_101 N (H_X6_extremeOf_8 N n) ih a0 l2 l3 l4 l5 s ls (lv_sub hl [2, 3, 4, 5, 6] rfl) h
       · refine v_goto 97 dX6_extremeOf_89 (by decide) ?_
         exact L_X6_extremeOf_97 N (H_X6_extremeOf_8 N n) ih a0 l2 l3 l5 s ls (lv_sub hl [2, 3, 4, 6] rfl) h
theorem vl_X6_extremeOf : vCl yX6_extremeOf cX6_extremeOf 8 (some .int) 3 := ⟨qy_X6_extremeOf, qjX6, by decide +kernel, by decide +kernel, by decide +kernel⟩
set_option maxHeartbeats 4000000 in
set_option maxRecDepth 100000 in
theorem c_X6_extremeOf {l : Launch} {D : va_G} {ka : Nat → ClassId} (X0 : VX) (N : Nat) (a0 : Nat) (l1 : Int32) (l2 : Int32) (l3 : Int32) (s sF : vS) (r : Int32) (h : F_X6_extremeOf N a0 l1 l2 l3 s = some (r, sF)) : isO s a0 6 = true ∧ vMet l D ka (xb X0) yX6_extremeOf cX6_extremeOf 8 (some .int) 2 70 [.ref (xb X0 + a0), .int l1, .int l2, .int l3] s sF (some (.int r)) := by
  unfold F_X6_extremeOf at h
  unfold rcv at h
  obtain ⟨hO, h⟩ := v_chk h
  refine ⟨hO, vMet.of (ini := false) X0 (plainFor_of_name (by decide +kernel)) (Nat.le_of_ble_eq_true rfl) (fun h => by cases h) (fun X ls hb hl => ?_) rfl⟩
  show V X (cX6_extremeOf, RX6, 8, 2, 70, false) (vRet sF (some (.int r)) (some .int)) sF s (G0 X 0 ls [])
  rw [← hb] at hl
  have hl : lv_has ls 8 [(0, .ref (xb X + a0)), (1, .int l1), (2, .int l2), (3, .int l3)] := hl
  refine v_iload_n dX6_extremeOf_0 rfl (lv_at hl 1 rfl) ?_
  refine v_istore [(4, .int l1), (0, .ref (xb X + a0)), (1, .int l1), (2, .int l2), (3, .int l3)] dX6_extremeOf_1 hl (by decide) rfl (fun ls hl => ?_)
  refine v_iload_n dX6_extremeOf_3 rfl (lv_at hl 2 rfl) ?_
  refine v_iconst (1 : Int32) dX6_extremeOf_4 (by decide) ?_
  refine v_iadd dX6_extremeOf_5 ?_
  refine v_nmI h (fun l5_1 h => ?_)
  refine v_istore [(5, .int l5_1), (4, .int l1), (0, .ref (xb X + a0)), (1, .int l1), (2, .int l2), (3, .int l3)] dX6_extremeOf_6 hl (by decide) rfl (fun ls hl => ?_)
  exact L_X6_extremeOf_8 N N a0 l2 l3 l1 l5_1 s ls (lv_sub hl [2, 4, 5, 1, 0] rfl) h
theorem k_X6_extremeOf {X : VX} {cc : ByteArray} {own : String} {nL fr lo : Nat} {ini : Bool} {E : VX → Prop} {sF s : vS} {ρ : Type} {res : ρ} {pc : Nat} {ls : Array Slot} {rest : List Value} {N index : Nat} {a0 : Nat} {l1 : Int32} {l2 : Int32} {l3 : Int32} {f : Int32 → vS → Option ρ} (h : bnd (F_X6_extremeOf N a0 l1 l2 l3 s) f = some res) (hlink : Cond.methodLink own index yX6_extremeOf ∈ TT) (hR : 2 + 1 ≤ fr ∧ 8 + (8 + 11) + 70 ≤ lo) (hls : ls.size = nL) (hr : (rest.map fun v => v.category).sum ≤ 8) (hdg : decode cc pc = .ok (.invokevirtual index, 3)) (kk : ∀ r s', f r s' = some res → V X (cc, own, nL, fr, lo, ini) E sF s' (G0 X (pc + 3) ls (.int r :: rest))) : V X (cc, own, nL, fr, lo, ini) E sF s (G0 X pc ls (.int l3 :: .int l2 :: .int l1 :: .ref (xb X + a0) :: rest)) := by
  obtain ⟨r, s', e, h⟩ := bnd_some h
  exact v_callV (b := a0) (ci := 6) (As := [.int l1, .int l2, .int l3]) (rest := rest) (c_X6_extremeOf X N a0 l1 l2 l3 s s' r e).2 (c_X6_extremeOf (l := xl X) (D := xD X) (ka := xka X) X N a0 l1 l2 l3 s s' r e).1 rfl vl_X6_extremeOf qi_X6_extremeOf qe_X6_extremeOf hlink hR rfl rfl hls hr hdg (kk r s' h)
theorem vl_X7_init : vCl yX7_init cX7_init 3 none 2 := ⟨qy_X7_init, qjX7, by decide +kernel, by decide +kernel, by decide +kernel⟩
set_option maxHeartbeats 4000000 in
set_option maxRecDepth 100000 in
theorem c_X7_init {l : Launch} {D : va_G} {ka : Nat → ClassId} (X0 : VX) (N : Nat) (a0 : Nat) (a1 : Nat) (a2 : Nat) (s sF : vS) (r : Unit) (h : F_X7_init N a0 a1 a2 s = some (r, sF)) : isO s a0 7 = true ∧ vMet l D ka (xb X0) yX7_init cX7_init 3 none 1 20 [.ref (xb X0 + a0), .ref (xb X0 + a1), .ref (xb X0 + a2)] s sF none := by
  unfold F_X7_init at h
  unfold rcv at h
  obtain ⟨hO, h⟩ := v_chk h
  refine ⟨hO, vMet.of (ini := true) X0 (plainFor_of_name (by decide +kernel)) (Nat.le_of_ble_eq_true rfl) (fun _ => rfl) (fun X ls hb hl => ?_) rfl⟩
  show V X (cX7_init, RX7, 3, 1, 20, true) (vRet sF none none) sF s (G0 X 0 ls [])
  rw [← hb] at hl
  have hl : lv_has ls 3 [(0, .ref (xb X + a0)), (1, .ref (xb X + a1)), (2, .ref (xb X + a2))] := hl
  refine v_aload_n dX7_init_0 rfl (lv_at hl 0 rfl) ?_
  refine v_objI qmX7_3 qo_in qo_code hl.1 ⟨by decide, Nat.le_of_ble_eq_true rfl⟩ dX7_init_1 ?_
  refine v_aload_n dX7_init_4 rfl (lv_at hl 0 rfl) ?_
  refine v_bipush (60 : Int32) dX7_init_5 (by decide) ?_
  refine v_newa 1 h (by decide) qa_int dX7_init_7 (fun q1 s h => ?_)
  refine v_putR 7 2 h (by decide) rfl (Or.inr ⟨rfl, rfl, rfl⟩) qfX7_9 dX7_init_9 (fun s h => ?_)
  refine v_aload_n dX7_init_12 rfl (lv_at hl 0 rfl) ?_
  refine v_iconst (0 : Int32) dX7_init_13 (by decide) ?_
  refine v_putI 7 3 h (by decide) rfl (Or.inl rfl) qfX7_15 dX7_init_14 (fun s h => ?_)
  refine v_aload_n dX7_init_17 rfl (lv_at hl 0 rfl) ?_
  refine v_iconst (0 : Int32) dX7_init_18 (by decide) ?_
  refine v_putI 7 4 h (by decide) rfl (Or.inl rfl) qfX7_19 dX7_init_19 (fun s h => ?_)
  refine v_aload_n dX7_init_22 rfl (lv_at hl 0 rfl) ?_
  refine v_bipush (60 : Int32) dX7_init_23 (by decide) ?_
  refine v_newa 1 h (by decide) qa_int dX7_init_25 (fun q2 s h => ?_)
  refine v_putR 7 5 h (by decide) rfl (Or.inr ⟨rfl, rfl, rfl⟩) qfX7_22 dX7_init_27 (fun s h => ?_)
  refine v_aload_n dX7_init_30 rfl (lv_at hl 0 rfl) ?_
  refine v_bipush (60 : Int32) dX7_init_31 (by decide) ?_
  refine v_newa 1 h (by decide) qa_int dX7_init_33 (fun q3 s h => ?_)
  refine v_putR 7 6 h (by decide) rfl (Or.inr ⟨rfl, rfl, rfl⟩) qfX7_25 dX7_init_35 (fun s h => ?_)
  refine v_aload_n dX7_init_38 rfl (lv_at hl 0 rfl) ?_
  refine v_bipush (60 : Int32) dX7_init_39 (by decide) ?_
  refine v_newa 1 h (by decide) qa_int dX7_init_41 (fun q4 s h => ?_)
  refine v_putR 7 7 h (by decide) rfl (Or.inr ⟨rfl, rfl, rfl⟩) qfX7_28 dX7_init_43 (fun s h => ?_)
  refine v_aload_n dX7_init_46 rfl (lv_at hl 0 rfl) ?_
  refine v_bipush (60 : Int32) dX7_init_47 (by decide) ?_
  refine v_newa 1 h (by decide) qa_int dX7_init_49 (fun q5 s h => ?_)
  refine v_putR 7 8 h (by decide) rfl (Or.inr ⟨rfl, rfl, rfl⟩) qfX7_31 dX7_init_51 (fun s h => ?_)
  refine v_aload_n dX7_init_54 rfl (lv_at hl 0 rfl) ?_
  refine v_iconst (0 : Int32) dX7_init_55 (by decide) ?_
  refine v_putI 7 9 h (by decide) rfl (Or.inl rfl) qfX7_34 dX7_init_56 (fun s h => ?_)
  refine v_aload_n dX7_init_59 rfl (lv_at hl 0 rfl) ?_
  refine v_iconst (0 : Int32) dX7_init_60 (by decide) ?_
  refine v_putI 7 10 h (by decide) rfl (Or.inl rfl) qfX7_37 dX7_init_61 (fun s h => ?_)
  refine v_aload_n dX7_init_64 rfl (lv_at hl 0 rfl) ?_
  refine v_iconst (4 : Int32) dX7_init_65 (by decide) ?_
  refine v_newa 1 h (by decide) qa_int dX7_init_66 (fun q6 s h => ?_)
  refine v_putR 7 11 h (by decide) rfl (Or.inr ⟨rfl, rfl, rfl⟩) qfX7_40 dX7_init_68 (fun s h => ?_)
  refine v_aload_n dX7_init_71 rfl (lv_at hl 0 rfl) ?_
  refine v_iconst (4 : Int32) dX7_init_72 (by decide) ?_
  refine v_newa 1 h (by decide) qa_int dX7_init_73 (fun q7 s h => ?_)
  refine v_putR 7 12 h (by decide) rfl (Or.inr ⟨rfl, rfl, rfl⟩) qfX7_43 dX7_init_75 (fun s h => ?_)
  refine v_aload_n dX7_init_78 rfl (lv_at hl 0 rfl) ?_
  refine v_iconst (4 : Int32) dX7_init_79 (by decide) ?_
  refine v_newa 1 h (by decide) qa_int dX7_init_80 (fun q8 s h => ?_)
  refine v_putR 7 13 h (by decide) rfl (Or.inr ⟨rfl, rfl, rfl⟩) qfX7_46 dX7_init_82 (fun s h => ?_)
  refine v_aload_n dX7_init_85 rfl (lv_at hl 0 rfl) ?_
  refine v_aload_n dX7_init_86 rfl (lv_at hl 1 rfl) ?_
  refine v_putR 7 0 h (by decide) rfl (Or.inr ⟨rfl, rfl, rfl⟩) qfX7_49 dX7_init_87 (fun s h => ?_)
  refine v_aload_n dX7_init_90 rfl (lv_at hl 0 rfl) ?_
  refine v_aload_n dX7_init_91 rfl (lv_at hl 2 rfl) ?_
  refine v_putR 7 1 h (by decide) rfl (Or.inr ⟨rfl, rfl, rfl⟩) qfX7_53 dX7_init_92 (fun s h => ?_)
  exact v_vret dX7_init_95 h
theorem k_X7_init {X : VX} {cc : ByteArray} {own : String} {nL fr lo : Nat} {ini : Bool} {E : VX → Prop} {sF s : vS} {ρ : Type} {res : ρ} {pc : Nat} {ls : Array Slot} {rest : List Value} {N index : Nat} {a0 : Nat} {a1 : Nat} {a2 : Nat} {f : Unit → vS → Option ρ} (h : bnd (F_X7_init N a0 a1 a2 s) f = some res) (hlink : Cond.methodLink own index yX7_init ∈ TT) (hR : 1 + 1 ≤ fr ∧ 8 + (3 + 11) + 20 ≤ lo) (hls : ls.size = nL) (hr : (rest.map fun v => v.category).sum ≤ 8) (hdg : decode cc pc = .ok (.invokespecial index, 3)) (kk : ∀ r s', f r s' = some res → V X (cc, own, nL, fr, lo, ini) E sF s' (G0 X (pc + 3) ls (rest))) : V X (cc, own, nL, fr, lo, ini) E sF s (G0 X pc ls (.ref (xb X + a2) :: .ref (xb X + a1) :: .ref (xb X + a0) :: rest)) := by
  obtain ⟨r, s', e, h⟩ := bnd_some h
  exact v_callI (b := a0) (As := [.ref (xb X + a1), .ref (xb X + a2)]) (rest := rest) (c_X7_init X N a0 a1 a2 s s' r e).2 rfl vl_X7_init qi_X7_init hlink hR rfl rfl hls hr hdg (kk r s' h)
theorem vl_X7_startLevel : vCl yX7_startLevel cX7_startLevel 3 none 2 := ⟨qy_X7_startLevel, qjX7, by decide +kernel, by decide +kernel, by decide +kernel⟩
set_option maxHeartbeats 4000000 in
set_option maxRecDepth 100000 in
theorem c_X7_startLevel {l : Launch} {D : va_G} {ka : Nat → ClassId} (X0 : VX) (N : Nat) (a0 : Nat) (l1 : Int32) (l2 : Int32) (s sF : vS) (r : Unit) (h : F_X7_startLevel N a0 l1 l2 s = some (r, sF)) : isO s a0 7 = true ∧ vMet l D ka (xb X0) yX7_startLevel cX7_startLevel 3 none 0 0 [.ref (xb X0 + a0), .int l1, .int l2] s sF none := by
  unfold F_X7_startLevel at h
  unfold rcv at h
  obtain ⟨hO, h⟩ := v_chk h
  refine ⟨hO, vMet.of (ini := false) X0 (plainFor_of_name (by decide +kernel)) (Nat.le_of_ble_eq_true rfl) (fun h => by cases h) (fun X ls hb hl => ?_) rfl⟩
  show V X (cX7_startLevel, RX7, 3, 0, 0, false) (vRet sF none none) sF s (G0 X 0 ls [])
  rw [← hb] at hl
  have hl : lv_has ls 3 [(0, .ref (xb X + a0)), (1, .int l1), (2, .int l2)] := hl
  refine v_aload_n dX7_startLevel_0 rfl (lv_at hl 0 rfl) ?_
  refine v_iload_n dX7_startLevel_1 rfl (lv_at hl 1 rfl) ?_
  refine v_putI 7 10 h (by decide) rfl (Or.inl rfl) qfX7_37 dX7_startLevel_2 (fun s h => ?_)
  refine v_aload_n dX7_startLevel_5 rfl (lv_at hl 0 rfl) ?_
  refine v_getR 7 11 h (by decide) rfl qfX7_40 dX7_startLevel_6 (fun r1 h => ?_)
  refine v_iload_n dX7_startLevel_9 rfl (lv_at hl 1 rfl) ?_
  refine v_iload_n dX7_startLevel_10 rfl (lv_at hl 2 rfl) ?_
  refine v_iast dX7_startLevel_11 h (fun s h => ?_)
  refine v_aload_n dX7_startLevel_12 rfl (lv_at hl 0 rfl) ?_
  refine v_getR 7 12 h (by decide) rfl qfX7_43 dX7_startLevel_13 (fun r2 h => ?_)
  refine v_iload_n dX7_startLevel_16 rfl (lv_at hl 1 rfl) ?_
  refine v_iconst (-1 : Int32) dX7_startLevel_17 (by decide) ?_
  refine v_iast dX7_startLevel_18 h (fun s h => ?_)
  refine v_aload_n dX7_startLevel_19 rfl (lv_at hl 0 rfl) ?_
  refine v_getR 7 13 h (by decide) rfl qfX7_46 dX7_startLevel_20 (fun r3 h => ?_)
  refine v_iload_n dX7_startLevel_23 rfl (lv_at hl 1 rfl) ?_
  refine v_iconst (-1 : Int32) dX7_startLevel_24 (by decide) ?_
  refine v_iast dX7_startLevel_25 h (fun s h => ?_)
  exact v_vret dX7_startLevel_26 h
theorem k_X7_startLevel {X : VX} {cc : ByteArray} {own : String} {nL fr lo : Nat} {ini : Bool} {E : VX → Prop} {sF s : vS} {ρ : Type} {res : ρ} {pc : Nat} {ls : Array Slot} {rest : List Value} {N index : Nat} {a0 : Nat} {l1 : Int32} {l2 : Int32} {f : Unit → vS → Option ρ} (h : bnd (F_X7_startLevel N a0 l1 l2 s) f = some res) (hlink : Cond.methodLink own index yX7_startLevel ∈ TT) (hR : 0 + 1 ≤ fr ∧ 8 + (3 + 11) + 0 ≤ lo) (hls : ls.size = nL) (hr : (rest.map fun v => v.category).sum ≤ 8) (hdg : decode cc pc = .ok (.invokevirtual index, 3)) (kk : ∀ r s', f r s' = some res → V X (cc, own, nL, fr, lo, ini) E sF s' (G0 X (pc + 3) ls (rest))) : V X (cc, own, nL, fr, lo, ini) E sF s (G0 X pc ls (.int l2 :: .int l1 :: .ref (xb X + a0) :: rest)) := by
  obtain ⟨r, s', e, h⟩ := bnd_some h
  exact v_callV (b := a0) (ci := 7) (As := [.int l1, .int l2]) (rest := rest) (c_X7_startLevel X N a0 l1 l2 s s' r e).2 (c_X7_startLevel (l := xl X) (D := xD X) (ka := xka X) X N a0 l1 l2 s s' r e).1 rfl vl_X7_startLevel qi_X7_startLevel qe_X7_startLevel hlink hR rfl rfl hls hr hdg (kk r s' h)
set_option maxHeartbeats 4000000 in
set_option maxRecDepth 100000 in
theorem L_X7_order_60 {X : VX} {sF : vS} {r : Unit} (N : Nat) (s : vS) (ls : Array Slot) (hl : lv_has ls 5 []) (h : J_X7_order_60 N  s = some (r, sF)) : V X (cX7_order, RX7, 5, 0, 0, false) (vRet sF none none) sF s (G0 X 60 ls []) := by
  unfold J_X7_order_60 at h
  exact v_vret dX7_order_60 h
theorem vl_X7_order : vCl yX7_order cX7_order 5 none 4 := ⟨qy_X7_order, qjX7, by decide +kernel, by decide +kernel, by decide +kernel⟩
set_option maxHeartbeats 4000000 in
set_option maxRecDepth 100000 in
theorem c_X7_order {l : Launch} {D : va_G} {ka : Nat → ClassId} (X0 : VX) (N : Nat) (a0 : Nat) (l1 : Int32) (l2 : Int32) (l3 : Int32) (l4 : Int32) (s sF : vS) (r : Unit) (h : F_X7_order N a0 l1 l2 l3 l4 s = some (r, sF)) : isO s a0 7 = true ∧ vMet l D ka (xb X0) yX7_order cX7_order 5 none 0 0 [.ref (xb X0 + a0), .int l1, .int l2, .int l3, .int l4] s sF none := by
  unfold F_X7_order at h
  unfold rcv at h
  obtain ⟨hO, h⟩ := v_chk h
  refine ⟨hO, vMet.of (ini := false) X0 (plainFor_of_name (by decide +kernel)) (Nat.le_of_ble_eq_true rfl) (fun h => by cases h) (fun X ls hb hl => ?_) rfl⟩
  show V X (cX7_order, RX7, 5, 0, 0, false) (vRet sF none none) sF s (G0 X 0 ls [])
  rw [← hb] at hl
  have hl : lv_has ls 5 [(0, .ref (xb X + a0)), (1, .int l1), (2, .int l2), (3, .int l3), (4, .int l4)] := hl
  refine v_aload_n dX7_order_0 rfl (lv_at hl 0 rfl) ?_
  refine v_getI 7 4 h (by decide) (Or.inl rfl) qfX7_19 dX7_order_1 (fun v1 h => ?_)
  refine v_bipush (60 : Int32) dX7_order_4 (by decide) ?_
  refine v_icmp_ge 60 dX7_order_6 (by decide) h (fun h => ?_) (fun h => ?_)
  · exact L_X7_order_60 N  s ls (lv_sub hl [] rfl) h
  · refine v_aload_n dX7_order_9 rfl (lv_at hl 0 rfl) ?_
    refine v_getR 7 5 h (by decide) rfl qfX7_22 dX7_order_10 (fun r2 h => ?_)
    refine v_aload_n dX7_order_13 rfl (lv_at hl 0 rfl) ?_
    refine v_getI 7 4 h (by decide) (Or.inl rfl) qfX7_19 dX7_order_14 (fun v3 h => ?_)
    refine v_iload_n dX7_order_17 rfl (lv_at hl 1 rfl) ?_
    refine v_iast dX7_order_18 h (fun s h => ?_)
    refine v_aload_n dX7_order_19 rfl (lv_at hl 0 rfl) ?_
    refine v_getR 7 6 h (by decide) rfl qfX7_25 dX7_order_20 (fun r4 h => ?_)
    refine v_aload_n dX7_order_23 rfl (lv_at hl 0 rfl) ?_
    refine v_getI 7 4 h (by decide) (Or.inl rfl) qfX7_19 dX7_order_24 (fun v5 h => ?_)
    refine v_iload_n dX7_order_27 rfl (lv_at hl 2 rfl) ?_
    refine v_iast dX7_order_28 h (fun s h => ?_)
    refine v_aload_n dX7_order_29 rfl (lv_at hl 0 rfl) ?_
    refine v_getR 7 7 h (by decide) rfl qfX7_28 dX7_order_30 (fun r6 h => ?_)
    refine v_aload_n dX7_order_33 rfl (lv_at hl 0 rfl) ?_
    refine v_getI 7 4 h (by decide) (Or.inl rfl) qfX7_19 dX7_order_34 (fun v7 h => ?_)
    refine v_iload_n dX7_order_37 rfl (lv_at hl 3 rfl) ?_
    refine v_iast dX7_order_38 h (fun s h => ?_)
    refine v_aload_n dX7_order_39 rfl (lv_at hl 0 rfl) ?_
    refine v_getR 7 8 h (by decide) rfl qfX7_31 dX7_order_40 (fun r8 h => ?_)
    refine v_aload_n dX7_order_43 rfl (lv_at hl 0 rfl) ?_
    refine v_getI 7 4 h (by decide) (Or.inl rfl) qfX7_19 dX7_order_44 (fun v9 h => ?_)
    refine v_iload dX7_order_47 (lv_at hl 4 rfl) ?_
    refine v_iast dX7_order_49 h (fun s h => ?_)
    refine v_aload_n dX7_order_50 rfl (lv_at hl 0 rfl) ?_
    refine v_dup dX7_order_51 rfl ?_
    refine v_getI 7 4 h (by decide) (Or.inl rfl) qfX7_19 dX7_order_52 (fun v10 h => ?_)
    refine v_iconst (1 : Int32) dX7_order_55 (by decide) ?_
    refine v_iadd dX7_order_56 ?_
    refine v_putI 7 4 h (by decide) rfl (Or.inl rfl) qfX7_19 dX7_order_57 (fun s h => ?_)
    exact L_X7_order_60 N  s ls (lv_sub hl [] rfl) h
theorem k_X7_order {X : VX} {cc : ByteArray} {own : String} {nL fr lo : Nat} {ini : Bool} {E : VX → Prop} {sF s : vS} {ρ : Type} {res : ρ} {pc : Nat} {ls : Array Slot} {rest : List Value} {N index : Nat} {a0 : Nat} {l1 : Int32} {l2 : Int32} {l3 : Int32} {l4 : Int32} {f : Unit → vS → Option ρ} (h : bnd (F_X7_order N a0 l1 l2 l3 l4 s) f = some res) (hlink : Cond.methodLink own index yX7_order ∈ TT) (hR : 0 + 1 ≤ fr ∧ 8 + (5 + 11) + 0 ≤ lo) (hls : ls.size = nL) (hr : (rest.map fun v => v.category).sum ≤ 8) (hdg : decode cc pc = .ok (.invokevirtual index, 3)) (kk : ∀ r s', f r s' = some res → V X (cc, own, nL, fr, lo, ini) E sF s' (G0 X (pc + 3) ls (rest))) : V X (cc, own, nL, fr, lo, ini) E sF s (G0 X pc ls (.int l4 :: .int l3 :: .int l2 :: .int l1 :: .ref (xb X + a0) :: rest)) := by
  obtain ⟨r, s', e, h⟩ := bnd_some h
  exact v_callV (b := a0) (ci := 7) (As := [.int l1, .int l2, .int l3, .int l4]) (rest := rest) (c_X7_order X N a0 l1 l2 l3 l4 s s' r e).2 (c_X7_order (l := xl X) (D := xD X) (ka := xka X) X N a0 l1 l2 l3 l4 s s' r e).1 rfl vl_X7_order qi_X7_order qe_X7_order hlink hR rfl rfl hls hr hdg (kk r s' h)
set_option maxHeartbeats 4000000 in
set_option maxRecDepth 100000 in
theorem L_X7_endProduct_52 {X : VX} {sF : vS} {r : Unit} (N : Nat) (s : vS) (ls : Array Slot) (hl : lv_has ls 1 []) (h : J_X7_endProduct_52 N  s = some (r, sF)) : V X (cX7_endProduct, RX7, 1, 1, 24, false) (vRet sF none none) sF s (G0 X 52 ls []) := by
  unfold J_X7_endProduct_52 at h
  exact v_vret dX7_endProduct_52 h
theorem vl_X7_endProduct : vCl yX7_endProduct cX7_endProduct 1 none 0 := ⟨qy_X7_endProduct, qjX7, by decide +kernel, by decide +kernel, by decide +kernel⟩
set_option maxHeartbeats 4000000 in
set_option maxRecDepth 100000 in
theorem c_X7_endProduct {l : Launch} {D : va_G} {ka : Nat → ClassId} (X0 : VX) (N : Nat) (a0 : Nat) (s sF : vS) (r : Unit) (h : F_X7_endProduct N a0 s = some (r, sF)) : isO s a0 7 = true ∧ vMet l D ka (xb X0) yX7_endProduct cX7_endProduct 1 none 1 24 [.ref (xb X0 + a0)] s sF none := by
  unfold F_X7_endProduct at h
  unfold rcv at h
  obtain ⟨hO, h⟩ := v_chk h
  refine ⟨hO, vMet.of (ini := false) X0 (plainFor_of_name (by decide +kernel)) (Nat.le_of_ble_eq_true rfl) (fun h => by cases h) (fun X ls hb hl => ?_) rfl⟩
  show V X (cX7_endProduct, RX7, 1, 1, 24, false) (vRet sF none none) sF s (G0 X 0 ls [])
  rw [← hb] at hl
  have hl : lv_has ls 1 [(0, .ref (xb X + a0))] := hl
  refine v_aload_n dX7_endProduct_0 rfl (lv_at hl 0 rfl) ?_
  refine v_getR 7 12 h (by decide) rfl qfX7_43 dX7_endProduct_1 (fun r1 h => ?_)
  refine v_aload_n dX7_endProduct_4 rfl (lv_at hl 0 rfl) ?_
  refine v_getI 7 10 h (by decide) (Or.inl rfl) qfX7_37 dX7_endProduct_5 (fun v2 h => ?_)
  refine v_iald dX7_endProduct_8 h (fun v3 h => ?_)
  refine v_iconst (-1 : Int32) dX7_endProduct_9 (by decide) ?_
  refine v_icmp_eq 52 dX7_endProduct_10 (by decide) h (fun h => ?_) (fun h => ?_)
  · exact L_X7_endProduct_52 N  s ls (lv_sub hl [] rfl) h
  · refine v_aload_n dX7_endProduct_13 rfl (lv_at hl 0 rfl) ?_
    refine v_aload_n dX7_endProduct_14 rfl (lv_at hl 0 rfl) ?_
    refine v_getR 7 2 h (by decide) rfl qfX7_9 dX7_endProduct_15 (fun r4 h => ?_)
    refine v_aload_n dX7_endProduct_18 rfl (lv_at hl 0 rfl) ?_
    refine v_getR 7 12 h (by decide) rfl qfX7_43 dX7_endProduct_19 (fun r5 h => ?_)
    refine v_aload_n dX7_endProduct_22 rfl (lv_at hl 0 rfl) ?_
    refine v_getI 7 10 h (by decide) (Or.inl rfl) qfX7_37 dX7_endProduct_23 (fun v6 h => ?_)
    refine v_iald dX7_endProduct_26 h (fun v7 h => ?_)
    refine v_iald dX7_endProduct_27 h (fun v8 h => ?_)
    refine v_aload_n dX7_endProduct_28 rfl (lv_at hl 0 rfl) ?_
    refine v_getR 7 12 h (by decide) rfl qfX7_43 dX7_endProduct_29 (fun r9 h => ?_)
    refine v_aload_n dX7_endProduct_32 rfl (lv_at hl 0 rfl) ?_
    refine v_getI 7 10 h (by decide) (Or.inl rfl) qfX7_37 dX7_endProduct_33 (fun v10 h => ?_)
    refine v_iald dX7_endProduct_36 h (fun v11 h => ?_)
    refine v_iconst (0 : Int32) dX7_endProduct_37 (by decide) ?_
    refine v_iconst (0 : Int32) dX7_endProduct_38 (by decide) ?_
    refine k_X7_order h qmX7_85 (by decide) hl.1 (Nat.le_of_ble_eq_true rfl) dX7_endProduct_39 (fun v12 s h => ?_)
    refine v_aload_n dX7_endProduct_42 rfl (lv_at hl 0 rfl) ?_
    refine v_getR 7 12 h (by decide) rfl qfX7_43 dX7_endProduct_43 (fun r13 h => ?_)
    refine v_aload_n dX7_endProduct_46 rfl (lv_at hl 0 rfl) ?_
    refine v_getI 7 10 h (by decide) (Or.inl rfl) qfX7_37 dX7_endProduct_47 (fun v14 h => ?_)
    refine v_iconst (-1 : Int32) dX7_endProduct_50 (by decide) ?_
    refine v_iast dX7_endProduct_51 h (fun s h => ?_)
    exact L_X7_endProduct_52 N  s ls (lv_sub hl [] rfl) h
theorem k_X7_endProduct {X : VX} {cc : ByteArray} {own : String} {nL fr lo : Nat} {ini : Bool} {E : VX → Prop} {sF s : vS} {ρ : Type} {res : ρ} {pc : Nat} {ls : Array Slot} {rest : List Value} {N index : Nat} {a0 : Nat} {f : Unit → vS → Option ρ} (h : bnd (F_X7_endProduct N a0 s) f = some res) (hlink : Cond.methodLink own index yX7_endProduct ∈ TT) (hR : 1 + 1 ≤ fr ∧ 8 + (1 + 11) + 24 ≤ lo) (hls : ls.size = nL) (hr : (rest.map fun v => v.category).sum ≤ 8) (hdg : decode cc pc = .ok (.invokevirtual index, 3)) (kk : ∀ r s', f r s' = some res → V X (cc, own, nL, fr, lo, ini) E sF s' (G0 X (pc + 3) ls (rest))) : V X (cc, own, nL, fr, lo, ini) E sF s (G0 X pc ls (.ref (xb X + a0) :: rest)) := by
  obtain ⟨r, s', e, h⟩ := bnd_some h
  exact v_callV (b := a0) (ci := 7) (As := []) (rest := rest) (c_X7_endProduct X N a0 s s' r e).2 (c_X7_endProduct (l := xl X) (D := xD X) (ka := xka X) X N a0 s s' r e).1 rfl vl_X7_endProduct qi_X7_endProduct qe_X7_endProduct hlink hR rfl rfl hls hr hdg (kk r s' h)
set_option maxHeartbeats 4000000 in
set_option maxRecDepth 100000 in
theorem L_X7_endOne_40 {X : VX} {sF : vS} {r : Unit} (N : Nat) (s : vS) (ls : Array Slot) (hl : lv_has ls 1 []) (h : J_X7_endOne_40 N  s = some (r, sF)) : V X (cX7_endOne, RX7, 1, 1, 24, false) (vRet sF none none) sF s (G0 X 40 ls []) := by
  unfold J_X7_endOne_40 at h
  exact v_vret dX7_endOne_40 h
theorem vl_X7_endOne : vCl yX7_endOne cX7_endOne 1 none 0 := ⟨qy_X7_endOne, qjX7, by decide +kernel, by decide +kernel, by decide +kernel⟩
set_option maxHeartbeats 4000000 in
set_option maxRecDepth 100000 in
theorem c_X7_endOne {l : Launch} {D : va_G} {ka : Nat → ClassId} (X0 : VX) (N : Nat) (a0 : Nat) (s sF : vS) (r : Unit) (h : F_X7_endOne N a0 s = some (r, sF)) : isO s a0 7 = true ∧ vMet l D ka (xb X0) yX7_endOne cX7_endOne 1 none 1 24 [.ref (xb X0 + a0)] s sF none := by
  unfold F_X7_endOne at h
  unfold rcv at h
  obtain ⟨hO, h⟩ := v_chk h
  refine ⟨hO, vMet.of (ini := false) X0 (plainFor_of_name (by decide +kernel)) (Nat.le_of_ble_eq_true rfl) (fun h => by cases h) (fun X ls hb hl => ?_) rfl⟩
  show V X (cX7_endOne, RX7, 1, 1, 24, false) (vRet sF none none) sF s (G0 X 0 ls [])
  rw [← hb] at hl
  have hl : lv_has ls 1 [(0, .ref (xb X + a0))] := hl
  refine v_aload_n dX7_endOne_0 rfl (lv_at hl 0 rfl) ?_
  refine v_getR 7 13 h (by decide) rfl qfX7_46 dX7_endOne_1 (fun r1 h => ?_)
  refine v_aload_n dX7_endOne_4 rfl (lv_at hl 0 rfl) ?_
  refine v_getI 7 10 h (by decide) (Or.inl rfl) qfX7_37 dX7_endOne_5 (fun v2 h => ?_)
  refine v_iald dX7_endOne_8 h (fun v3 h => ?_)
  refine v_iconst (-1 : Int32) dX7_endOne_9 (by decide) ?_
  refine v_icmp_eq 40 dX7_endOne_10 (by decide) h (fun h => ?_) (fun h => ?_)
  · exact L_X7_endOne_40 N  s ls (lv_sub hl [] rfl) h
  · refine v_aload_n dX7_endOne_13 rfl (lv_at hl 0 rfl) ?_
    refine v_bipush (42 : Int32) dX7_endOne_14 (by decide) ?_
    refine v_aload_n dX7_endOne_16 rfl (lv_at hl 0 rfl) ?_
    refine v_getR 7 13 h (by decide) rfl qfX7_46 dX7_endOne_17 (fun r4 h => ?_)
    refine v_aload_n dX7_endOne_20 rfl (lv_at hl 0 rfl) ?_
    refine v_getI 7 10 h (by decide) (Or.inl rfl) qfX7_37 dX7_endOne_21 (fun v5 h => ?_)
    refine v_iald dX7_endOne_24 h (fun v6 h => ?_)
    refine v_iconst (0 : Int32) dX7_endOne_25 (by decide) ?_
    refine v_iconst (0 : Int32) dX7_endOne_26 (by decide) ?_
    refine k_X7_order h qmX7_85 (by decide) hl.1 (Nat.le_of_ble_eq_true rfl) dX7_endOne_27 (fun v7 s h => ?_)
    refine v_aload_n dX7_endOne_30 rfl (lv_at hl 0 rfl) ?_
    refine v_getR 7 13 h (by decide) rfl qfX7_46 dX7_endOne_31 (fun r8 h => ?_)
    refine v_aload_n dX7_endOne_34 rfl (lv_at hl 0 rfl) ?_
    refine v_getI 7 10 h (by decide) (Or.inl rfl) qfX7_37 dX7_endOne_35 (fun v9 h => ?_)
    refine v_iconst (-1 : Int32) dX7_endOne_38 (by decide) ?_
    refine v_iast dX7_endOne_39 h (fun s h => ?_)
    exact L_X7_endOne_40 N  s ls (lv_sub hl [] rfl) h
theorem k_X7_endOne {X : VX} {cc : ByteArray} {own : String} {nL fr lo : Nat} {ini : Bool} {E : VX → Prop} {sF s : vS} {ρ : Type} {res : ρ} {pc : Nat} {ls : Array Slot} {rest : List Value} {N index : Nat} {a0 : Nat} {f : Unit → vS → Option ρ} (h : bnd (F_X7_endOne N a0 s) f = some res) (hlink : Cond.methodLink own index yX7_endOne ∈ TT) (hR : 1 + 1 ≤ fr ∧ 8 + (1 + 11) + 24 ≤ lo) (hls : ls.size = nL) (hr : (rest.map fun v => v.category).sum ≤ 8) (hdg : decode cc pc = .ok (.invokevirtual index, 3)) (kk : ∀ r s', f r s' = some res → V X (cc, own, nL, fr, lo, ini) E sF s' (G0 X (pc + 3) ls (rest))) : V X (cc, own, nL, fr, lo, ini) E sF s (G0 X pc ls (.ref (xb X + a0) :: rest)) := by
  obtain ⟨r, s', e, h⟩ := bnd_some h
  exact v_callV (b := a0) (ci := 7) (As := []) (rest := rest) (c_X7_endOne X N a0 s s' r e).2 (c_X7_endOne (l := xl X) (D := xD X) (ka := xka X) X N a0 s s' r e).1 rfl vl_X7_endOne qi_X7_endOne qe_X7_endOne hlink hR rfl rfl hls hr hdg (kk r s' h)
set_option maxHeartbeats 4000000 in
set_option maxRecDepth 100000 in
theorem L_X7_endLevel_22 {X : VX} {sF : vS} {r : Unit} (N : Nat) (a0 : Nat) (s : vS) (ls : Array Slot) (hl : lv_has ls 2 [(0, .ref (xb X + a0))]) (h : J_X7_endLevel_22 N a0 s = some (r, sF)) : V X (cX7_endLevel, RX7, 2, 2, 44, false) (vRet sF none none) sF s (G0 X 22 ls []) := by
  unfold J_X7_endLevel_22 at h
  refine v_aload_n dX7_endLevel_22 rfl (lv_at hl 0 rfl) ?_
  refine v_aload_n dX7_endLevel_23 rfl (lv_at hl 0 rfl) ?_
  refine v_getI 7 10 h (by decide) (Or.inl rfl) qfX7_37 dX7_endLevel_24 (fun v5 h => ?_)
  refine v_iconst (1 : Int32) dX7_endLevel_27 (by decide) ?_
  refine v_isub dX7_endLevel_28 ?_
  refine v_iconst (0 : Int32) dX7_endLevel_29 (by decide) ?_
  refine k_J9_max_7cf53 h qmX7_89 (by decide) hl.1 (Nat.le_of_ble_eq_true rfl) dX7_endLevel_30 (fun v6 s h => ?_)
  refine v_putI 7 10 h (by decide) rfl (Or.inl rfl) qfX7_37 dX7_endLevel_33 (fun s h => ?_)
  refine v_aload_n dX7_endLevel_36 rfl (lv_at hl 0 rfl) ?_
  refine k_X7_endOne h qmX7_94 (by decide) hl.1 (Nat.le_of_ble_eq_true rfl) dX7_endLevel_37 (fun v7 s h => ?_)
  exact v_vret dX7_endLevel_40 h
theorem vl_X7_endLevel : vCl yX7_endLevel cX7_endLevel 2 none 1 := ⟨qy_X7_endLevel, qjX7, by decide +kernel, by decide +kernel, by decide +kernel⟩
set_option maxHeartbeats 4000000 in
set_option maxRecDepth 100000 in
theorem c_X7_endLevel {l : Launch} {D : va_G} {ka : Nat → ClassId} (X0 : VX) (N : Nat) (a0 : Nat) (l1 : Int32) (s sF : vS) (r : Unit) (h : F_X7_endLevel N a0 l1 s = some (r, sF)) : isO s a0 7 = true ∧ vMet l D ka (xb X0) yX7_endLevel cX7_endLevel 2 none 2 44 [.ref (xb X0 + a0), .int l1] s sF none := by
  unfold F_X7_endLevel at h
  unfold rcv at h
  obtain ⟨hO, h⟩ := v_chk h
  refine ⟨hO, vMet.of (ini := false) X0 (plainFor_of_name (by decide +kernel)) (Nat.le_of_ble_eq_true rfl) (fun h => by cases h) (fun X ls hb hl => ?_) rfl⟩
  show V X (cX7_endLevel, RX7, 2, 2, 44, false) (vRet sF none none) sF s (G0 X 0 ls [])
  rw [← hb] at hl
  have hl : lv_has ls 2 [(0, .ref (xb X + a0)), (1, .int l1)] := hl
  refine v_iload_n dX7_endLevel_0 rfl (lv_at hl 1 rfl) ?_
  refine v_bipush (123 : Int32) dX7_endLevel_1 (by decide) ?_
  refine v_icmp_ne 22 dX7_endLevel_3 (by decide) h (fun h => ?_) (fun h => ?_)
  · exact L_X7_endLevel_22 N a0 s ls (lv_sub hl [0] rfl) h
  · refine v_aload_n dX7_endLevel_6 rfl (lv_at hl 0 rfl) ?_
    refine v_iload_n dX7_endLevel_7 rfl (lv_at hl 1 rfl) ?_
    refine v_aload_n dX7_endLevel_8 rfl (lv_at hl 0 rfl) ?_
    refine v_getR 7 11 h (by decide) rfl qfX7_40 dX7_endLevel_9 (fun r1 h => ?_)
    refine v_aload_n dX7_endLevel_12 rfl (lv_at hl 0 rfl) ?_
    refine v_getI 7 10 h (by decide) (Or.inl rfl) qfX7_37 dX7_endLevel_13 (fun v2 h => ?_)
    refine v_iald dX7_endLevel_16 h (fun v3 h => ?_)
    refine v_iconst (0 : Int32) dX7_endLevel_17 (by decide) ?_
    refine v_iconst (0 : Int32) dX7_endLevel_18 (by decide) ?_
    refine k_X7_order h qmX7_85 (by decide) hl.1 (Nat.le_of_ble_eq_true rfl) dX7_endLevel_19 (fun v4 s h => ?_)
    exact L_X7_endLevel_22 N a0 s ls (lv_sub hl [0] rfl) h
theorem k_X7_endLevel {X : VX} {cc : ByteArray} {own : String} {nL fr lo : Nat} {ini : Bool} {E : VX → Prop} {sF s : vS} {ρ : Type} {res : ρ} {pc : Nat} {ls : Array Slot} {rest : List Value} {N index : Nat} {a0 : Nat} {l1 : Int32} {f : Unit → vS → Option ρ} (h : bnd (F_X7_endLevel N a0 l1 s) f = some res) (hlink : Cond.methodLink own index yX7_endLevel ∈ TT) (hR : 2 + 1 ≤ fr ∧ 8 + (2 + 11) + 44 ≤ lo) (hls : ls.size = nL) (hr : (rest.map fun v => v.category).sum ≤ 8) (hdg : decode cc pc = .ok (.invokevirtual index, 3)) (kk : ∀ r s', f r s' = some res → V X (cc, own, nL, fr, lo, ini) E sF s' (G0 X (pc + 3) ls (rest))) : V X (cc, own, nL, fr, lo, ini) E sF s (G0 X pc ls (.int l1 :: .ref (xb X + a0) :: rest)) := by
  obtain ⟨r, s', e, h⟩ := bnd_some h
  exact v_callV (b := a0) (ci := 7) (As := [.int l1]) (rest := rest) (c_X7_endLevel X N a0 l1 s s' r e).2 (c_X7_endLevel (l := xl X) (D := xD X) (ka := xka X) X N a0 l1 s s' r e).1 rfl vl_X7_endLevel qi_X7_endLevel qe_X7_endLevel hlink hR rfl rfl hls hr hdg (kk r s' h)
set_option maxHeartbeats 4000000 in
set_option maxRecDepth 100000 in
theorem L_X7_takeBehindOne_143 {X : VX} {sF : vS} {r : Int32} (N : Nat) (a0 : Nat) (s : vS) (ls : Array Slot) (hl : lv_has ls 4 [(0, .ref (xb X + a0))]) (h : J_X7_takeBehindOne_143 N a0 s = some (r, sF)) : V X (cX7_takeBehindOne, RX7, 4, 3, 65, false) (vRet sF (some (.int r)) (some .int)) sF s (G0 X 143 ls []) := by
  unfold J_X7_takeBehindOne_143 at h
  refine v_aload_n dX7_takeBehindOne_143 rfl (lv_at hl 0 rfl) ?_
  refine v_dup dX7_takeBehindOne_144 rfl ?_
  refine v_getI 7 9 h (by decide) (Or.inl rfl) qfX7_34 dX7_takeBehindOne_145 (fun v16 h => ?_)
  refine v_iconst (1 : Int32) dX7_takeBehindOne_148 (by decide) ?_
  refine v_iadd dX7_takeBehindOne_149 ?_
  refine v_putI 7 9 h (by decide) rfl (Or.inl rfl) qfX7_34 dX7_takeBehindOne_150 (fun s h => ?_)
  refine v_iconst (-1 : Int32) dX7_takeBehindOne_153 (by decide) ?_
  exact v_iret dX7_takeBehindOne_154 h
set_option maxHeartbeats 4000000 in
set_option maxRecDepth 100000 in
theorem L_X7_takeBehindOne_134 {X : VX} {sF : vS} {r : Int32} (N : Nat) (a0 : Nat) (l2 : Int32) (l3 : Int32) (s : vS) (ls : Array Slot) (hl : lv_has ls 4 [(0, .ref (xb X + a0)), (2, .int l2), (3, .int l3)]) (h : J_X7_takeBehindOne_134 N a0 l2 l3 s = some (r, sF)) : V X (cX7_takeBehindOne, RX7, 4, 3, 65, false) (vRet sF (some (.int r)) (some .int)) sF s (G0 X 134 ls []) := by
  unfold J_X7_takeBehindOne_134 at h
  refine v_iload_n dX7_takeBehindOne_134 rfl (lv_at hl 2 rfl) ?_
  refine v_if_eq 143 dX7_takeBehindOne_135 (by decide) h (fun h => ?_) (fun h => ?_)
  · exact L_X7_takeBehindOne_143 N a0 s ls (lv_sub hl [0] rfl) h
  · refine v_aload_n dX7_takeBehindOne_138 rfl (lv_at hl 0 rfl) ?_
    refine v_iload_n dX7_takeBehindOne_139 rfl (lv_at hl 1 rfl) ?_
    refine k_X7_endLevel h qmX7_81 (by decide) hl.1 (Nat.le_of_ble_eq_true rfl) dX7_takeBehindOne_140 (fun v15 s h => ?_)
    exact L_X7_takeBehindOne_143 N a0 s ls (lv_sub hl [0] rfl) h
set_option maxHeartbeats 4000000 in
set_option maxRecDepth 100000 in
theorem L_X7_takeBehindOne_121 {X : VX} {sF : vS} {r : Int32} (N : Nat) (a0 : Nat) (l2 : Int32) (l3 : Int32) (s : vS) (ls : Array Slot) (hl : lv_has ls 4 [(0, .ref (xb X + a0)), (2, .int l2), (3, .int l3)]) (h : J_X7_takeBehindOne_121 N a0 l2 l3 s = some (r, sF)) : V X (cX7_takeBehindOne, RX7, 4, 3, 65, false) (vRet sF (some (.int r)) (some .int)) sF s (G0 X 121 ls []) := by
  unfold J_X7_takeBehindOne_121 at h
  refine v_aload_n dX7_takeBehindOne_121 rfl (lv_at hl 0 rfl) ?_
  refine v_getR 7 12 h (by decide) rfl qfX7_43 dX7_takeBehindOne_122 (fun r12 h => ?_)
  refine v_aload_n dX7_takeBehindOne_125 rfl (lv_at hl 0 rfl) ?_
  refine v_getI 7 10 h (by decide) (Or.inl rfl) qfX7_37 dX7_takeBehindOne_126 (fun v13 h => ?_)
  refine v_aload_n dX7_takeBehindOne_129 rfl (lv_at hl 0 rfl) ?_
  refine v_getI 7 9 h (by decide) (Or.inl rfl) qfX7_34 dX7_takeBehindOne_130 (fun v14 h => ?_)
  refine v_iast dX7_takeBehindOne_133 h (fun s h => ?_)
  exact L_X7_takeBehindOne_134 N a0 l2 l3 s ls (lv_sub hl [0, 1, 2] rfl) h
set_option maxHeartbeats 4000000 in
set_option maxRecDepth 100000 in
theorem L_X7_takeBehindOne_109 {X : VX} {sF : vS} {r : Int32} (N : Nat) (a0 : Nat) (l1 : Int32) (l2 : Int32) (l3 : Int32) (s : vS) (ls : Array Slot) (hl : lv_has ls 4 [(0, .ref (xb X + a0)), (1, .int l1), (2, .int l2), (3, .int l3)]) (h : J_X7_takeBehindOne_109 N a0 l1 l2 l3 s = some (r, sF)) : V X (cX7_takeBehindOne, RX7, 4, 3, 65, false) (vRet sF (some (.int r)) (some .int)) sF s (G0 X 109 ls []) := by
  unfold J_X7_takeBehindOne_109 at h
  refine v_iload_n dX7_takeBehindOne_109 rfl (lv_at hl 1 rfl) ?_
  refine v_bipush (43 : Int32) dX7_takeBehindOne_110 (by decide) ?_
  refine v_icmp_eq 121 dX7_takeBehindOne_112 (by decide) h (fun h => ?_) (fun h => ?_)
  · exact L_X7_takeBehindOne_121 N a0 l2 l3 s ls (lv_sub hl [0, 2, 3] rfl) h
  · refine v_iload_n dX7_takeBehindOne_115 rfl (lv_at hl 1 rfl) ?_
    refine v_bipush (45 : Int32) dX7_takeBehindOne_116 (by decide) ?_
    refine v_icmp_ne 134 dX7_takeBehindOne_118 (by decide) h (fun h => ?_) (fun h => ?_)
    · exact L_X7_takeBehindOne_134 N a0 l2 l3 s ls (lv_sub hl [0, 2, 3] rfl) h
    · exact L_X7_takeBehindOne_121 N a0 l2 l3 s ls (lv_sub hl [0, 2, 3] rfl) h
set_option maxHeartbeats 4000000 in
set_option maxRecDepth 100000 in
theorem L_X7_takeBehindOne_83 {X : VX} {sF : vS} {r : Int32} (N : Nat) (a0 : Nat) (l1 : Int32) (l2 : Int32) (l3 : Int32) (s : vS) (ls : Array Slot) (hl : lv_has ls 4 [(0, .ref (xb X + a0)), (1, .int l1), (2, .int l2), (3, .int l3)]) (h : J_X7_takeBehindOne_83 N a0 l1 l2 l3 s = some (r, sF)) : V X (cX7_takeBehindOne, RX7, 4, 3, 65, false) (vRet sF (some (.int r)) (some .int)) sF s (G0 X 83 ls []) := by
  unfold J_X7_takeBehindOne_83 at h
  refine v_iload_n dX7_takeBehindOne_83 rfl (lv_at hl 1 rfl) ?_
  refine v_bipush (42 : Int32) dX7_takeBehindOne_84 (by decide) ?_
  refine v_icmp_ne 105 dX7_takeBehindOne_86 (by decide) h (fun h => ?_) (fun h => ?_)
  · refine v_aload_n dX7_takeBehindOne_105 rfl (lv_at hl 0 rfl) ?_
    refine k_X7_endProduct h qmX7_78 (by decide) hl.1 (Nat.le_of_ble_eq_true rfl) dX7_takeBehindOne_106 (fun v8 s h => ?_)
    exact L_X7_takeBehindOne_109 N a0 l1 l2 l3 s ls (lv_sub hl [0, 1, 2, 3] rfl) h
  · refine v_aload_n dX7_takeBehindOne_89 rfl (lv_at hl 0 rfl) ?_
    refine v_getR 7 13 h (by decide) rfl qfX7_46 dX7_takeBehindOne_90 (fun r9 h => ?_)
    refine v_aload_n dX7_takeBehindOne_93 rfl (lv_at hl 0 rfl) ?_
    refine v_getI 7 10 h (by decide) (Or.inl rfl) qfX7_37 dX7_takeBehindOne_94 (fun v10 h => ?_)
    refine v_aload_n dX7_takeBehindOne_97 rfl (lv_at hl 0 rfl) ?_
    refine v_getI 7 9 h (by decide) (Or.inl rfl) qfX7_34 dX7_takeBehindOne_98 (fun v11 h => ?_)
    refine v_iast dX7_takeBehindOne_101 h (fun s h => ?_)
    refine v_goto 109 dX7_takeBehindOne_102 (by decide) ?_
    exact L_X7_takeBehindOne_109 N a0 l1 l2 l3 s ls (lv_sub hl [0, 1, 2, 3] rfl) h
set_option maxHeartbeats 4000000 in
set_option maxRecDepth 100000 in
theorem L_X7_takeBehindOne_55 {X : VX} {sF : vS} {r : Int32} (N : Nat) (a0 : Nat) (l1 : Int32) (l2 : Int32) (k0 : Int32) (s : vS) (ls : Array Slot) (hl : lv_has ls 4 [(0, .ref (xb X + a0)), (1, .int l1), (2, .int l2)]) (h : J_X7_takeBehindOne_55 N a0 l1 l2 k0 s = some (r, sF)) : V X (cX7_takeBehindOne, RX7, 4, 3, 65, false) (vRet sF (some (.int r)) (some .int)) sF s (G0 X 55 ls [.int k0]) := by
  unfold J_X7_takeBehindOne_55 at h
  refine v_istore_n [(3, .int k0), (0, .ref (xb X + a0)), (1, .int l1), (2, .int l2)] dX7_takeBehindOne_55 rfl hl (by decide) rfl (fun ls hl => ?_)
  refine v_iload_n dX7_takeBehindOne_56 rfl (lv_at hl 0 rfl) ?_
  refine v_if_ne 83 dX7_takeBehindOne_57 (by decide) h (fun h => ?_) (fun h => ?_)
  · exact L_X7_takeBehindOne_83 N a0 l1 l2 k0 s ls (lv_sub hl [1, 2, 3, 0] rfl) h
  · refine v_iload_n dX7_takeBehindOne_60 rfl (lv_at hl 2 rfl) ?_
    refine v_bipush (43 : Int32) dX7_takeBehindOne_61 (by decide) ?_
    refine v_icmp_eq 83 dX7_takeBehindOne_63 (by decide) h (fun h => ?_) (fun h => ?_)
    · exact L_X7_takeBehindOne_83 N a0 l1 l2 k0 s ls (lv_sub hl [1, 2, 3, 0] rfl) h
    · refine v_iload_n dX7_takeBehindOne_66 rfl (lv_at hl 2 rfl) ?_
      refine v_bipush (45 : Int32) dX7_takeBehindOne_67 (by decide) ?_
      refine v_icmp_eq 83 dX7_takeBehindOne_69 (by decide) h (fun h => ?_) (fun h => ?_)
      · exact L_X7_takeBehindOne_83 N a0 l1 l2 k0 s ls (lv_sub hl [1, 2, 3, 0] rfl) h
      · refine v_iload_n dX7_takeBehindOne_72 rfl (lv_at hl 2 rfl) ?_
        refine v_bipush (42 : Int32) dX7_takeBehindOne_73 (by decide) ?_
        refine v_icmp_eq 83 dX7_takeBehindOne_75 (by decide) h (fun h => ?_) (fun h => ?_)
        · exact L_X7_takeBehindOne_83 N a0 l1 l2 k0 s ls (lv_sub hl [1, 2, 3, 0] rfl) h
        · refine v_aload_n dX7_takeBehindOne_78 rfl (lv_at hl 1 rfl) ?_
          refine v_getI 7 9 h (by decide) (Or.inl rfl) qfX7_34 dX7_takeBehindOne_79 (fun v7 h => ?_)
          exact v_iret dX7_takeBehindOne_82 h
set_option maxHeartbeats 4000000 in
set_option maxRecDepth 100000 in
theorem L_X7_takeBehindOne_54 {X : VX} {sF : vS} {r : Int32} (N : Nat) (a0 : Nat) (l1 : Int32) (l2 : Int32) (s : vS) (ls : Array Slot) (hl : lv_has ls 4 [(0, .ref (xb X + a0)), (1, .int l1), (2, .int l2)]) (h : J_X7_takeBehindOne_54 N a0 l1 l2 s = some (r, sF)) : V X (cX7_takeBehindOne, RX7, 4, 3, 65, false) (vRet sF (some (.int r)) (some .int)) sF s (G0 X 54 ls []) := by
  unfold J_X7_takeBehindOne_54 at h
  refine v_iconst (0 : Int32) dX7_takeBehindOne_54 (by decide) ?_
  exact L_X7_takeBehindOne_55 N a0 l1 l2 (0 : Int32) s ls (lv_sub hl [0, 1, 2] rfl) h
set_option maxHeartbeats 4000000 in
set_option maxRecDepth 100000 in
theorem L_X7_takeBehindOne_50 {X : VX} {sF : vS} {r : Int32} (N : Nat) (a0 : Nat) (l1 : Int32) (l2 : Int32) (s : vS) (ls : Array Slot) (hl : lv_has ls 4 [(0, .ref (xb X + a0)), (1, .int l1), (2, .int l2)]) (h : J_X7_takeBehindOne_50 N a0 l1 l2 s = some (r, sF)) : V X (cX7_takeBehindOne, RX7, 4, 3, 65, false) (vRet sF (some (.int r)) (some .int)) sF s (G0 X 50 ls []) := by
  unfold J_X7_takeBehindOne_50 at h
  refine v_iconst (1 : Int32) dX7_takeBehindOne_50 (by decide) ?_
  refine v_goto 55 dX7_takeBehindOne_51 (by decide) ?_
  exact L_X7_takeBehindOne_55 N a0 l1 l2 (1 : Int32) s ls (lv_sub hl [0, 1, 2] rfl) h
set_option maxHeartbeats 4000000 in
set_option maxRecDepth 100000 in
theorem L_X7_takeBehindOne_38 {X : VX} {sF : vS} {r : Int32} (N : Nat) (a0 : Nat) (l1 : Int32) (l2 : Int32) (s : vS) (ls : Array Slot) (hl : lv_has ls 4 [(0, .ref (xb X + a0)), (1, .int l1), (2, .int l2)]) (h : J_X7_takeBehindOne_38 N a0 l1 l2 s = some (r, sF)) : V X (cX7_takeBehindOne, RX7, 4, 3, 65, false) (vRet sF (some (.int r)) (some .int)) sF s (G0 X 38 ls []) := by
  unfold J_X7_takeBehindOne_38 at h
  refine v_iload_n dX7_takeBehindOne_38 rfl (lv_at hl 2 rfl) ?_
  refine v_bipush (123 : Int32) dX7_takeBehindOne_39 (by decide) ?_
  refine v_icmp_ne 54 dX7_takeBehindOne_41 (by decide) h (fun h => ?_) (fun h => ?_)
  · exact L_X7_takeBehindOne_54 N a0 l1 l2 s ls (lv_sub hl [0, 1, 2] rfl) h
  · refine v_iload_n dX7_takeBehindOne_44 rfl (lv_at hl 1 rfl) ?_
    refine v_bipush (125 : Int32) dX7_takeBehindOne_45 (by decide) ?_
    refine v_icmp_ne 54 dX7_takeBehindOne_47 (by decide) h (fun h => ?_) (fun h => ?_)
    · exact L_X7_takeBehindOne_54 N a0 l1 l2 s ls (lv_sub hl [0, 1, 2] rfl) h
    · exact L_X7_takeBehindOne_50 N a0 l1 l2 s ls (lv_sub hl [0, 1, 2] rfl) h
set_option maxHeartbeats 4000000 in
set_option maxRecDepth 100000 in
theorem L_X7_takeBehindOne_25 {X : VX} {sF : vS} {r : Int32} (N : Nat) (a0 : Nat) (l1 : Int32) (k0 : Int32) (s : vS) (ls : Array Slot) (hl : lv_has ls 4 [(0, .ref (xb X + a0)), (1, .int l1)]) (h : J_X7_takeBehindOne_25 N a0 l1 k0 s = some (r, sF)) : V X (cX7_takeBehindOne, RX7, 4, 3, 65, false) (vRet sF (some (.int r)) (some .int)) sF s (G0 X 25 ls [.int k0]) := by
  unfold J_X7_takeBehindOne_25 at h
  refine v_istore_n [(2, .int k0), (0, .ref (xb X + a0)), (1, .int l1)] dX7_takeBehindOne_25 rfl hl (by decide) rfl (fun ls hl => ?_)
  refine v_iload_n dX7_takeBehindOne_26 rfl (lv_at hl 0 rfl) ?_
  refine v_bipush (40 : Int32) dX7_takeBehindOne_27 (by decide) ?_
  refine v_icmp_ne 38 dX7_takeBehindOne_29 (by decide) h (fun h => ?_) (fun h => ?_)
  · exact L_X7_takeBehindOne_38 N a0 l1 k0 s ls (lv_sub hl [1, 2, 0] rfl) h
  · refine v_iload_n dX7_takeBehindOne_32 rfl (lv_at hl 2 rfl) ?_
    refine v_bipush (41 : Int32) dX7_takeBehindOne_33 (by decide) ?_
    refine v_icmp_eq 50 dX7_takeBehindOne_35 (by decide) h (fun h => ?_) (fun h => ?_)
    · exact L_X7_takeBehindOne_50 N a0 l1 k0 s ls (lv_sub hl [1, 2, 0] rfl) h
    · exact L_X7_takeBehindOne_38 N a0 l1 k0 s ls (lv_sub hl [1, 2, 0] rfl) h
