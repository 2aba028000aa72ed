theorem k_X8_inside {X : VX} {cc : ByteArray} {own : String} {nL fr lo : Nat} {ini : Bool} {E : VX → Prop} {sF s : vS} {ρ : Type} {res : ρ} {pc : Nat} {ls : Array Slot} {rest : List Value} {N index : Nat} {a0 : Nat} {l1 : Int32} {l2 : Int32} {l3 : Int32} {f : Int64 → vS → Option ρ} (h : bnd (F_X8_inside N a0 l1 l2 l3 s) f = some res) (hlink : Cond.methodLink own index yX8_inside ∈ TT) (hR : 3 + 1 ≤ fr ∧ 8 + (4 + 11) + 81 ≤ lo) (hls : ls.size = nL) (hr : (rest.map fun v => v.category).sum ≤ 8) (hdg : decode cc pc = .ok (.invokevirtual index, 3)) (kk : ∀ r s', f r s' = some res → V X (cc, own, nL, fr, lo, ini) E sF s' (G0 X (pc + 3) ls (.long r :: rest))) : V X (cc, own, nL, fr, lo, ini) E sF s (G0 X pc ls (.int l3 :: .int l2 :: .int l1 :: .ref (xb X + a0) :: rest)) := by
  obtain ⟨r, s', e, h⟩ := bnd_some h
  exact v_callV (b := a0) (ci := 8) (As := [.int l1, .int l2, .int l3]) (rest := rest) (c_X8_inside X N a0 l1 l2 l3 s s' r e).2 (c_X8_inside (l := xl X) (D := xD X) (ka := xka X) X N a0 l1 l2 l3 s s' r e).1 rfl vl_X8_inside qi_X8_inside qe_X8_inside hlink hR rfl rfl hls hr hdg (kk r s' h)
theorem vl_X8_joint : vCl yX8_joint cX8_joint 5 (some .long) 4 := ⟨qy_X8_joint, qjX8, by decide +kernel, by decide +kernel, by decide +kernel⟩
set_option maxHeartbeats 4000000 in
set_option maxRecDepth 100000 in
theorem c_X8_joint {l : Launch} {D : va_G} {ka : Nat → ClassId} (X0 : VX) (N : Nat) (a0 : Nat) (l1 : Int32) (l2 : Int32) (l3 : Int32) (l4 : Int32) (s sF : vS) (r : Int64) (h : F_X8_joint N a0 l1 l2 l3 l4 s = some (r, sF)) : isO s a0 8 = true ∧ vMet l D ka (xb X0) yX8_joint cX8_joint 5 (some .long) 3 81 [.ref (xb X0 + a0), .int l1, .int l2, .int l3, .int l4] s sF (some (.long r)) := by
  unfold F_X8_joint at h
  unfold rcv at h
  obtain ⟨hO, h⟩ := v_chk h
  refine ⟨hO, vMet.of (ini := false) X0 (plainFor_of_name (by decide +kernel)) (Nat.le_of_ble_eq_true rfl) (fun h => by cases h) (fun X ls hb hl => ?_) rfl⟩
  show V X (cX8_joint, RX8, 5, 3, 81, false) (vRet sF (some (.long r)) (some .long)) sF s (G0 X 0 ls [])
  rw [← hb] at hl
  have hl : lv_has ls 5 [(0, .ref (xb X + a0)), (1, .int l1), (2, .int l2), (3, .int l3), (4, .int l4)] := hl
  refine v_aload_n dX8_joint_0 rfl (lv_at hl 0 rfl) ?_
  refine v_aload_n dX8_joint_1 rfl (lv_at hl 0 rfl) ?_
  refine v_getR 8 0 h (by decide) rfl qfX8_16 dX8_joint_2 (fun r1 h => ?_)
  refine v_iload_n dX8_joint_5 rfl (lv_at hl 1 rfl) ?_
  refine v_iload_n dX8_joint_6 rfl (lv_at hl 2 rfl) ?_
  refine v_iload_n dX8_joint_7 rfl (lv_at hl 3 rfl) ?_
  refine v_iload dX8_joint_8 (lv_at hl 4 rfl) ?_
  refine k_X8_jointPart h qmX8_132 (by decide) hl.1 (Nat.le_of_ble_eq_true rfl) dX8_joint_10 (fun v2 s h => ?_)
  exact v_lret dX8_joint_13 h
theorem k_X8_joint {X : VX} {cc : ByteArray} {own : String} {nL fr lo : Nat} {ini : Bool} {E : VX → Prop} {sF s : vS} {ρ : Type} {res : ρ} {pc : Nat} {ls : Array Slot} {rest : List Value} {N index : Nat} {a0 : Nat} {l1 : Int32} {l2 : Int32} {l3 : Int32} {l4 : Int32} {f : Int64 → vS → Option ρ} (h : bnd (F_X8_joint N a0 l1 l2 l3 l4 s) f = some res) (hlink : Cond.methodLink own index yX8_joint ∈ TT) (hR : 3 + 1 ≤ fr ∧ 8 + (5 + 11) + 81 ≤ lo) (hls : ls.size = nL) (hr : (rest.map fun v => v.category).sum ≤ 8) (hdg : decode cc pc = .ok (.invokevirtual index, 3)) (kk : ∀ r s', f r s' = some res → V X (cc, own, nL, fr, lo, ini) E sF s' (G0 X (pc + 3) ls (.long r :: rest))) : V X (cc, own, nL, fr, lo, ini) E sF s (G0 X pc ls (.int l4 :: .int l3 :: .int l2 :: .int l1 :: .ref (xb X + a0) :: rest)) := by
  obtain ⟨r, s', e, h⟩ := bnd_some h
  exact v_callV (b := a0) (ci := 8) (As := [.int l1, .int l2, .int l3, .int l4]) (rest := rest) (c_X8_joint X N a0 l1 l2 l3 l4 s s' r e).2 (c_X8_joint (l := xl X) (D := xD X) (ka := xka X) X N a0 l1 l2 l3 l4 s s' r e).1 rfl vl_X8_joint qi_X8_joint qe_X8_joint hlink hR rfl rfl hls hr hdg (kk r s' h)
theorem vl_X8_jointRooted : vCl yX8_jointRooted cX8_jointRooted 5 (some .long) 4 := ⟨qy_X8_jointRooted, qjX8, by decide +kernel, by decide +kernel, by decide +kernel⟩
set_option maxHeartbeats 4000000 in
set_option maxRecDepth 100000 in
theorem c_X8_jointRooted {l : Launch} {D : va_G} {ka : Nat → ClassId} (X0 : VX) (N : Nat) (a0 : Nat) (l1 : Int32) (l2 : Int32) (l3 : Int32) (l4 : Int32) (s sF : vS) (r : Int64) (h : F_X8_jointRooted N a0 l1 l2 l3 l4 s = some (r, sF)) : isO s a0 8 = true ∧ vMet l D ka (xb X0) yX8_jointRooted cX8_jointRooted 5 (some .long) 3 81 [.ref (xb X0 + a0), .int l1, .int l2, .int l3, .int l4] s sF (some (.long r)) := by
  unfold F_X8_jointRooted at h
  unfold rcv at h
  obtain ⟨hO, h⟩ := v_chk h
  refine ⟨hO, vMet.of (ini := false) X0 (plainFor_of_name (by decide +kernel)) (Nat.le_of_ble_eq_true rfl) (fun h => by cases h) (fun X ls hb hl => ?_) rfl⟩
  show V X (cX8_jointRooted, RX8, 5, 3, 81, false) (vRet sF (some (.long r)) (some .long)) sF s (G0 X 0 ls [])
  rw [← hb] at hl
  have hl : lv_has ls 5 [(0, .ref (xb X + a0)), (1, .int l1), (2, .int l2), (3, .int l3), (4, .int l4)] := hl
  refine v_aload_n dX8_jointRooted_0 rfl (lv_at hl 0 rfl) ?_
  refine v_aload_n dX8_jointRooted_1 rfl (lv_at hl 0 rfl) ?_
  refine v_getR 8 1 h (by decide) rfl qfX8_20 dX8_jointRooted_2 (fun r1 h => ?_)
  refine v_iload_n dX8_jointRooted_5 rfl (lv_at hl 1 rfl) ?_
  refine v_iload_n dX8_jointRooted_6 rfl (lv_at hl 2 rfl) ?_
  refine v_iload_n dX8_jointRooted_7 rfl (lv_at hl 3 rfl) ?_
  refine v_iload dX8_jointRooted_8 (lv_at hl 4 rfl) ?_
  refine k_X8_jointPart h qmX8_132 (by decide) hl.1 (Nat.le_of_ble_eq_true rfl) dX8_jointRooted_10 (fun v2 s h => ?_)
  exact v_lret dX8_jointRooted_13 h
theorem k_X8_jointRooted {X : VX} {cc : ByteArray} {own : String} {nL fr lo : Nat} {ini : Bool} {E : VX → Prop} {sF s : vS} {ρ : Type} {res : ρ} {pc : Nat} {ls : Array Slot} {rest : List Value} {N index : Nat} {a0 : Nat} {l1 : Int32} {l2 : Int32} {l3 : Int32} {l4 : Int32} {f : Int64 → vS → Option ρ} (h : bnd (F_X8_jointRooted N a0 l1 l2 l3 l4 s) f = some res) (hlink : Cond.methodLink own index yX8_jointRooted ∈ TT) (hR : 3 + 1 ≤ fr ∧ 8 + (5 + 11) + 81 ≤ lo) (hls : ls.size = nL) (hr : (rest.map fun v => v.category).sum ≤ 8) (hdg : decode cc pc = .ok (.invokevirtual index, 3)) (kk : ∀ r s', f r s' = some res → V X (cc, own, nL, fr, lo, ini) E sF s' (G0 X (pc + 3) ls (.long r :: rest))) : V X (cc, own, nL, fr, lo, ini) E sF s (G0 X pc ls (.int l4 :: .int l3 :: .int l2 :: .int l1 :: .ref (xb X + a0) :: rest)) := by
  obtain ⟨r, s', e, h⟩ := bnd_some h
  exact v_callV (b := a0) (ci := 8) (As := [.int l1, .int l2, .int l3, .int l4]) (rest := rest) (c_X8_jointRooted X N a0 l1 l2 l3 l4 s s' r e).2 (c_X8_jointRooted (l := xl X) (D := xD X) (ka := xka X) X N a0 l1 l2 l3 l4 s s' r e).1 rfl vl_X8_jointRooted qi_X8_jointRooted qe_X8_jointRooted hlink hR rfl rfl hls hr hdg (kk r s' h)
set_option maxHeartbeats 4000000 in
set_option maxRecDepth 100000 in
theorem L_X8_points_10 {X : VX} {sF : vS} {r : Int32} (N : Nat) (s : vS) (ls : Array Slot) (hl : lv_has ls 3 []) (h : J_X8_points_10 N  s = some (r, sF)) : V X (cX8_points, RX8, 3, 2, 43, false) (vRet sF (some (.int r)) (some .int)) sF s (G0 X 10 ls []) := by
  unfold J_X8_points_10 at h
  refine v_bipush (-2 : Int32) dX8_points_10 (by decide) ?_
  exact v_iret dX8_points_12 h
theorem vl_X8_points : vCl yX8_points cX8_points 3 (some .int) 1 := ⟨qy_X8_points, qjX8, by decide +kernel, by decide +kernel, by decide +kernel⟩
set_option maxHeartbeats 4000000 in
set_option maxRecDepth 100000 in
theorem c_X8_points {l : Launch} {D : va_G} {ka : Nat → ClassId} (X0 : VX) (N : Nat) (a0 : Nat) (l1 : Int32) (s sF : vS) (r : Int32) (h : F_X8_points N a0 l1 s = some (r, sF)) : isO s a0 8 = true ∧ vMet l D ka (xb X0) yX8_points cX8_points 3 (some .int) 2 43 [.ref (xb X0 + a0), .int l1] s sF (some (.int r)) := by
  unfold F_X8_points at h
  unfold rcv at h
  obtain ⟨hO, h⟩ := v_chk h
  refine ⟨hO, vMet.of (ini := false) X0 (plainFor_of_name (by decide +kernel)) (Nat.le_of_ble_eq_true rfl) (fun h => by cases h) (fun X ls hb hl => ?_) rfl⟩
  show V X (cX8_points, RX8, 3, 2, 43, false) (vRet sF (some (.int r)) (some .int)) sF s (G0 X 0 ls [])
  rw [← hb] at hl
  have hl : lv_has ls 3 [(0, .ref (xb X + a0)), (1, .int l1)] := hl
  refine v_iload_n dX8_points_0 rfl (lv_at hl 1 rfl) ?_
  refine v_if_lt 10 dX8_points_1 (by decide) h (fun h => ?_) (fun h => ?_)
  · exact L_X8_points_10 N  s ls (lv_sub hl [] rfl) h
  · refine v_iload_n dX8_points_4 rfl (lv_at hl 1 rfl) ?_
    refine v_bipush (8 : Int32) dX8_points_5 (by decide) ?_
    refine v_icmp_le 13 dX8_points_7 (by decide) h (fun h => ?_) (fun h => ?_)
    · refine v_aload_n dX8_points_13 rfl (lv_at hl 0 rfl) ?_
      refine v_getR 8 7 h (by decide) rfl qfX8_65 dX8_points_14 (fun r1 h => ?_)
      refine v_getI 3 0 h (by decide) (Or.inl rfl) qfX8_160 dX8_points_17 (fun v2 h => ?_)
      refine v_istore_n [(2, .int v2), (0, .ref (xb X + a0)), (1, .int l1)] dX8_points_20 rfl hl (by decide) rfl (fun ls hl => ?_)
      refine v_aload_n dX8_points_21 rfl (lv_at hl 1 rfl) ?_
      refine v_getR 8 7 h (by decide) rfl qfX8_65 dX8_points_22 (fun r3 h => ?_)
      refine v_iload_n dX8_points_25 rfl (lv_at hl 2 rfl) ?_
      refine k_X3_startWith h qmX8_164 (by decide) hl.1 (Nat.le_of_ble_eq_true rfl) dX8_points_26 (fun v4 s h => ?_)
      refine v_iload_n dX8_points_29 rfl (lv_at hl 0 rfl) ?_
      exact v_iret dX8_points_30 h
    · exact L_X8_points_10 N  s ls (lv_sub hl [] rfl) h
theorem k_X8_points {X : VX} {cc : ByteArray} {own : String} {nL fr lo : Nat} {ini : Bool} {E : VX → Prop} {sF s : vS} {ρ : Type} {res : ρ} {pc : Nat} {ls : Array Slot} {rest : List Value} {N index : Nat} {a0 : Nat} {l1 : Int32} {f : Int32 → vS → Option ρ} (h : bnd (F_X8_points N a0 l1 s) f = some res) (hlink : Cond.methodLink own index yX8_points ∈ TT) (hR : 2 + 1 ≤ fr ∧ 8 + (3 + 11) + 43 ≤ lo) (hls : ls.size = nL) (hr : (rest.map fun v => v.category).sum ≤ 8) (hdg : decode cc pc = .ok (.invokevirtual index, 3)) (kk : ∀ r s', f r s' = some res → V X (cc, own, nL, fr, lo, ini) E sF s' (G0 X (pc + 3) ls (.int r :: rest))) : V X (cc, own, nL, fr, lo, ini) E sF s (G0 X pc ls (.int l1 :: .ref (xb X + a0) :: rest)) := by
  obtain ⟨r, s', e, h⟩ := bnd_some h
  exact v_callV (b := a0) (ci := 8) (As := [.int l1]) (rest := rest) (c_X8_points X N a0 l1 s s' r e).2 (c_X8_points (l := xl X) (D := xD X) (ka := xka X) X N a0 l1 s s' r e).1 rfl vl_X8_points qi_X8_points qe_X8_points hlink hR rfl rfl hls hr hdg (kk r s' h)
set_option maxHeartbeats 4000000 in
set_option maxRecDepth 100000 in
theorem L_X8_line_76 {X : VX} {sF : vS} {r : Int32} (N : Nat) (l4 : Int32) (k0 : Nat) (k1 : Int32) (k2 : Int32) (k3 : Int32) (s : vS) (ls : Array Slot) (hl : lv_has ls 5 [(4, .int l4)]) (h : J_X8_line_76 N l4 k0 k1 k2 k3 s = some (r, sF)) : V X (cX8_line, RX8, 5, 2, 44, false) (vRet sF (some (.int r)) (some .int)) sF s (G0 X 76 ls [.int k3, .int k2, .int k1, .ref (xb X + k0)]) := by
  unfold J_X8_line_76 at h
  refine k_X3_draw h qmX8_173 (by decide) hl.1 (Nat.le_of_ble_eq_true rfl) dX8_line_76 (fun v8 s h => ?_)
  refine v_iload dX8_line_79 (lv_at hl 0 rfl) ?_
  exact v_iret dX8_line_81 h
set_option maxHeartbeats 4000000 in
set_option maxRecDepth 100000 in
theorem L_X8_line_58 {X : VX} {sF : vS} {r : Int32} (N : Nat) (a0 : Nat) (l1 : Int32) (l2 : Int32) (l3 : Int32) (k0 : Int32) (s : vS) (ls : Array Slot) (hl : lv_has ls 5 [(0, .ref (xb X + a0)), (1, .int l1), (2, .int l2), (3, .int l3)]) (h : J_X8_line_58 N a0 l1 l2 l3 k0 s = some (r, sF)) : V X (cX8_line, RX8, 5, 2, 44, false) (vRet sF (some (.int r)) (some .int)) sF s (G0 X 58 ls [.int k0]) := by
  unfold J_X8_line_58 at h
  refine v_istore [(4, .int k0), (0, .ref (xb X + a0)), (1, .int l1), (2, .int l2), (3, .int l3)] dX8_line_58 hl (by decide) rfl (fun ls hl => ?_)
  refine v_aload_n dX8_line_60 rfl (lv_at hl 1 rfl) ?_
  refine v_getR 8 7 h (by decide) rfl qfX8_65 dX8_line_61 (fun r7 h => ?_)
  refine v_iload_n dX8_line_64 rfl (lv_at hl 2 rfl) ?_
  refine v_iload_n dX8_line_65 rfl (lv_at hl 3 rfl) ?_
  refine v_iload_n dX8_line_66 rfl (lv_at hl 4 rfl) ?_
  refine v_iconst (1 : Int32) dX8_line_67 (by decide) ?_
  refine v_icmp_ne 75 dX8_line_68 (by decide) h (fun h => ?_) (fun h => ?_)
  · refine v_iconst (0 : Int32) dX8_line_75 (by decide) ?_
    exact L_X8_line_76 N k0 r7 l1 l2 (0 : Int32) s ls (lv_sub hl [0] rfl) h
  · refine v_iconst (1 : Int32) dX8_line_71 (by decide) ?_
    refine v_goto 76 dX8_line_72 (by decide) ?_
    exact L_X8_line_76 N k0 r7 l1 l2 (1 : Int32) s ls (lv_sub hl [0] rfl) h
set_option maxHeartbeats 4000000 in
set_option maxRecDepth 100000 in
theorem L_X8_line_38 {X : VX} {sF : vS} {r : Int32} (N : Nat) (s : vS) (ls : Array Slot) (hl : lv_has ls 5 []) (h : J_X8_line_38 N  s = some (r, sF)) : V X (cX8_line, RX8, 5, 2, 44, false) (vRet sF (some (.int r)) (some .int)) sF s (G0 X 38 ls []) := by
  unfold J_X8_line_38 at h
  refine v_bipush (-2 : Int32) dX8_line_38 (by decide) ?_
  exact v_iret dX8_line_40 h
set_option maxHeartbeats 4000000 in
set_option maxRecDepth 100000 in
theorem L_X8_line_22 {X : VX} {sF : vS} {r : Int32} (N : Nat) (s : vS) (ls : Array Slot) (hl : lv_has ls 5 []) (h : J_X8_line_22 N  s = some (r, sF)) : V X (cX8_line, RX8, 5, 2, 44, false) (vRet sF (some (.int r)) (some .int)) sF s (G0 X 22 ls []) := by
  unfold J_X8_line_22 at h
  refine v_iconst (-1 : Int32) dX8_line_22 (by decide) ?_
  exact v_iret dX8_line_23 h
theorem vl_X8_line : vCl yX8_line cX8_line 5 (some .int) 3 := ⟨qy_X8_line, qjX8, by decide +kernel, by decide +kernel, by decide +kernel⟩
set_option maxHeartbeats 4000000 in
set_option maxRecDepth 100000 in
theorem c_X8_line {l : Launch} {D : va_G} {ka : Nat → ClassId} (X0 : VX) (N : Nat) (a0 : Nat) (l1 : Int32) (l2 : Int32) (l3 : Int32) (s sF : vS) (r : Int32) (h : F_X8_line N a0 l1 l2 l3 s = some (r, sF)) : isO s a0 8 = true ∧ vMet l D ka (xb X0) yX8_line cX8_line 5 (some .int) 2 44 [.ref (xb X0 + a0), .int l1, .int l2, .int l3] s sF (some (.int r)) := by
  unfold F_X8_line at h
  unfold rcv at h
  obtain ⟨hO, h⟩ := v_chk h
  refine ⟨hO, vMet.of (ini := false) X0 (plainFor_of_name (by decide +kernel)) (Nat.le_of_ble_eq_true rfl) (fun h => by cases h) (fun X ls hb hl => ?_) rfl⟩
  show V X (cX8_line, RX8, 5, 2, 44, false) (vRet sF (some (.int r)) (some .int)) sF s (G0 X 0 ls [])
  rw [← hb] at hl
  have hl : lv_has ls 5 [(0, .ref (xb X + a0)), (1, .int l1), (2, .int l2), (3, .int l3)] := hl
  refine v_aload_n dX8_line_0 rfl (lv_at hl 0 rfl) ?_
  refine v_getR 8 7 h (by decide) rfl qfX8_65 dX8_line_1 (fun r1 h => ?_)
  refine v_iload_n dX8_line_4 rfl (lv_at hl 1 rfl) ?_
  refine k_X3_has h qmX8_168 (by decide) hl.1 (Nat.le_of_ble_eq_true rfl) dX8_line_5 (fun v2 s h => ?_)
  refine v_if_eq 22 dX8_line_8 (by decide) h (fun h => ?_) (fun h => ?_)
  · exact L_X8_line_22 N  s ls (lv_sub hl [] rfl) h
  · refine v_aload_n dX8_line_11 rfl (lv_at hl 0 rfl) ?_
    refine v_getR 8 7 h (by decide) rfl qfX8_65 dX8_line_12 (fun r3 h => ?_)
    refine v_iload_n dX8_line_15 rfl (lv_at hl 2 rfl) ?_
    refine k_X3_has h qmX8_168 (by decide) hl.1 (Nat.le_of_ble_eq_true rfl) dX8_line_16 (fun v4 s h => ?_)
    refine v_if_ne 24 dX8_line_19 (by decide) h (fun h => ?_) (fun h => ?_)
    · refine v_iload_n dX8_line_24 rfl (lv_at hl 3 rfl) ?_
      refine v_if_lt 38 dX8_line_25 (by decide) h (fun h => ?_) (fun h => ?_)
      · exact L_X8_line_38 N  s ls (lv_sub hl [] rfl) h
      · refine v_iload_n dX8_line_28 rfl (lv_at hl 3 rfl) ?_
        refine v_iconst (1 : Int32) dX8_line_29 (by decide) ?_
        refine v_icmp_gt 38 dX8_line_30 (by decide) h (fun h => ?_) (fun h => ?_)
        · exact L_X8_line_38 N  s ls (lv_sub hl [] rfl) h
        · refine v_iload_n dX8_line_33 rfl (lv_at hl 1 rfl) ?_
          refine v_iload_n dX8_line_34 rfl (lv_at hl 2 rfl) ?_
          refine v_icmp_ne 41 dX8_line_35 (by decide) h (fun h => ?_) (fun h => ?_)
          · refine v_aload_n dX8_line_41 rfl (lv_at hl 0 rfl) ?_
            refine v_getR 8 7 h (by decide) rfl qfX8_65 dX8_line_42 (fun r5 h => ?_)
            refine v_iload_n dX8_line_45 rfl (lv_at hl 1 rfl) ?_
            refine v_iload_n dX8_line_46 rfl (lv_at hl 2 rfl) ?_
            refine k_X3_joins h qmX8_169 (by decide) hl.1 (Nat.le_of_ble_eq_true rfl) dX8_line_47 (fun v6 s h => ?_)
            refine v_if_eq 57 dX8_line_50 (by decide) h (fun h => ?_) (fun h => ?_)
            · refine v_iconst (0 : Int32) dX8_line_57 (by decide) ?_
              exact L_X8_line_58 N a0 l1 l2 l3 (0 : Int32) s ls (lv_sub hl [0, 1, 2, 3] rfl) h
            · refine v_iconst (1 : Int32) dX8_line_53 (by decide) ?_
              refine v_goto 58 dX8_line_54 (by decide) ?_
              exact L_X8_line_58 N a0 l1 l2 l3 (1 : Int32) s ls (lv_sub hl [0, 1, 2, 3] rfl) h
          · exact L_X8_line_38 N  s ls (lv_sub hl [] rfl) h
    · exact L_X8_line_22 N  s ls (lv_sub hl [] rfl) h
theorem k_X8_line {X : VX} {cc : ByteArray} {own : String} {nL fr lo : Nat} {ini : Bool} {E : VX → Prop} {sF s : vS} {ρ : Type} {res : ρ} {pc : Nat} {ls : Array Slot} {rest : List Value} {N index : Nat} {a0 : Nat} {l1 : Int32} {l2 : Int32} {l3 : Int32} {f : Int32 → vS → Option ρ} (h : bnd (F_X8_line N a0 l1 l2 l3 s) f = some res) (hlink : Cond.methodLink own index yX8_line ∈ TT) (hR : 2 + 1 ≤ fr ∧ 8 + (5 + 11) + 44 ≤ lo) (hls : ls.size = nL) (hr : (rest.map fun v => v.category).sum ≤ 8) (hdg : decode cc pc = .ok (.invokevirtual index, 3)) (kk : ∀ r s', f r s' = some res → V X (cc, own, nL, fr, lo, ini) E sF s' (G0 X (pc + 3) ls (.int r :: rest))) : V X (cc, own, nL, fr, lo, ini) E sF s (G0 X pc ls (.int l3 :: .int l2 :: .int l1 :: .ref (xb X + a0) :: rest)) := by
  obtain ⟨r, s', e, h⟩ := bnd_some h
  exact v_callV (b := a0) (ci := 8) (As := [.int l1, .int l2, .int l3]) (rest := rest) (c_X8_line X N a0 l1 l2 l3 s s' r e).2 (c_X8_line (l := xl X) (D := xD X) (ka := xka X) X N a0 l1 l2 l3 s s' r e).1 rfl vl_X8_line qi_X8_line qe_X8_line hlink hR rfl rfl hls hr hdg (kk r s' h)
theorem vl_X8_told : vCl yX8_told cX8_told 2 (some .int) 1 := ⟨qy_X8_told, qjX8, by decide +kernel, by decide +kernel, by decide +kernel⟩
set_option maxHeartbeats 4000000 in
set_option maxRecDepth 100000 in
theorem c_X8_told {l : Launch} {D : va_G} {ka : Nat → ClassId} (X0 : VX) (N : Nat) (a0 : Nat) (l1 : Int32) (s sF : vS) (r : Int32) (h : F_X8_told N a0 l1 s = some (r, sF)) : isO s a0 8 = true ∧ vMet l D ka (xb X0) yX8_told cX8_told 2 (some .int) 3 67 [.ref (xb X0 + a0), .int l1] s sF (some (.int r)) := by
  unfold F_X8_told at h
  unfold rcv at h
  obtain ⟨hO, h⟩ := v_chk h
  refine ⟨hO, vMet.of (ini := false) X0 (plainFor_of_name (by decide +kernel)) (Nat.le_of_ble_eq_true rfl) (fun h => by cases h) (fun X ls hb hl => ?_) rfl⟩
  show V X (cX8_told, RX8, 2, 3, 67, false) (vRet sF (some (.int r)) (some .int)) sF s (G0 X 0 ls [])
  rw [← hb] at hl
  have hl : lv_has ls 2 [(0, .ref (xb X + a0)), (1, .int l1)] := hl
  refine v_iload_n dX8_told_0 rfl (lv_at hl 1 rfl) ?_
  refine v_tswc (0 : Int32) 32 dX8_told_1 (by decide) (by decide) (by rfl) (by decide) h (fun h => ?_) (fun h0 h => ?_)
  · refine v_aload_n dX8_told_32 rfl (lv_at hl 0 rfl) ?_
    refine v_getR 8 7 h (by decide) rfl qfX8_65 dX8_told_33 (fun r7 h => ?_)
    refine v_getI 3 0 h (by decide) (Or.inl rfl) qfX8_160 dX8_told_36 (fun v8 h => ?_)
    exact v_iret dX8_told_39 h
  · refine v_tswc (1 : Int32) 40 dX8_told_1 (by decide) (by decide) (by rfl) (by decide) h (fun h => ?_) (fun h1 h => ?_)
    · refine v_aload_n dX8_told_40 rfl (lv_at hl 0 rfl) ?_
      refine v_getR 8 7 h (by decide) rfl qfX8_65 dX8_told_41 (fun r5 h => ?_)
      refine k_X3_lines h qmX8_177 (by decide) hl.1 (Nat.le_of_ble_eq_true rfl) dX8_told_44 (fun v6 s h => ?_)
      exact v_iret dX8_told_47 h
    · refine v_tswc (2 : Int32) 48 dX8_told_1 (by decide) (by decide) (by rfl) (by decide) h (fun h => ?_) (fun h2 h => ?_)
      · refine v_aload_n dX8_told_48 rfl (lv_at hl 0 rfl) ?_
        refine v_getR 8 7 h (by decide) rfl qfX8_65 dX8_told_49 (fun r3 h => ?_)
        refine k_X3_mostLines h qmX8_181 (by decide) hl.1 (Nat.le_of_ble_eq_true rfl) dX8_told_52 (fun v4 s h => ?_)
        exact v_iret dX8_told_55 h
      · refine v_tswc (3 : Int32) 56 dX8_told_1 (by decide) (by decide) (by rfl) (by decide) h (fun h => ?_) (fun h3 h => ?_)
        · refine v_aload_n dX8_told_56 rfl (lv_at hl 0 rfl) ?_
          refine v_getR 8 7 h (by decide) rfl qfX8_65 dX8_told_57 (fun r1 h => ?_)
          refine k_X3_evenTriples h qmX8_184 (by decide) hl.1 (Nat.le_of_ble_eq_true rfl) dX8_told_60 (fun v2 s h => ?_)
          exact v_iret dX8_told_63 h
        · have g0 := tsw_ne (c := (0 : Int32)) (i := 0) rfl h0
          have g1 := tsw_ne (c := (1 : Int32)) (i := 1) rfl h1
          have g2 := tsw_ne (c := (2 : Int32)) (i := 2) rfl h2
          have g3 := tsw_ne (c := (3 : Int32)) (i := 3) rfl h3
          refine v_tswd 64 dX8_told_1 (by omega) (by decide) ?_
          refine v_iconst (-1 : Int32) dX8_told_64 (by decide) ?_
          exact v_iret dX8_told_65 h
theorem k_X8_told {X : VX} {cc : ByteArray} {own : String} {nL fr lo : Nat} {ini : Bool} {E : VX → Prop} {sF s : vS} {ρ : Type} {res : ρ} {pc : Nat} {ls : Array Slot} {rest : List Value} {N index : Nat} {a0 : Nat} {l1 : Int32} {f : Int32 → vS → Option ρ} (h : bnd (F_X8_told N a0 l1 s) f = some res) (hlink : Cond.methodLink own index yX8_told ∈ TT) (hR : 3 + 1 ≤ fr ∧ 8 + (2 + 11) + 67 ≤ lo) (hls : ls.size = nL) (hr : (rest.map fun v => v.category).sum ≤ 8) (hdg : decode cc pc = .ok (.invokevirtual index, 3)) (kk : ∀ r s', f r s' = some res → V X (cc, own, nL, fr, lo, ini) E sF s' (G0 X (pc + 3) ls (.int r :: rest))) : V X (cc, own, nL, fr, lo, ini) E sF s (G0 X pc ls (.int l1 :: .ref (xb X + a0) :: rest)) := by
  obtain ⟨r, s', e, h⟩ := bnd_some h
  exact v_callV (b := a0) (ci := 8) (As := [.int l1]) (rest := rest) (c_X8_told X N a0 l1 s s' r e).2 (c_X8_told (l := xl X) (D := xD X) (ka := xka X) X N a0 l1 s s' r e).1 rfl vl_X8_told qi_X8_told qe_X8_told hlink hR rfl rfl hls hr hdg (kk r s' h)
set_option maxHeartbeats 4000000 in
set_option maxRecDepth 100000 in
theorem L_X8_beside_24 {X : VX} {sF : vS} {r : Int32} (N : Nat) (k0 : Int32) (s : vS) (ls : Array Slot) (hl : lv_has ls 2 []) (h : J_X8_beside_24 N k0 s = some (r, sF)) : V X (cX8_beside, RX8, 2, 1, 21, false) (vRet sF (some (.int r)) (some .int)) sF s (G0 X 24 ls [.int k0]) := by
  unfold J_X8_beside_24 at h
  exact v_iret dX8_beside_24 h
theorem vl_X8_beside : vCl yX8_beside cX8_beside 2 (some .int) 1 := ⟨qy_X8_beside, qjX8, by decide +kernel, by decide +kernel, by decide +kernel⟩
set_option maxHeartbeats 4000000 in
set_option maxRecDepth 100000 in
theorem c_X8_beside {l : Launch} {D : va_G} {ka : Nat → ClassId} (X0 : VX) (N : Nat) (a0 : Nat) (l1 : Int32) (s sF : vS) (r : Int32) (h : F_X8_beside N a0 l1 s = some (r, sF)) : isO s a0 8 = true ∧ vMet l D ka (xb X0) yX8_beside cX8_beside 2 (some .int) 1 21 [.ref (xb X0 + a0), .int l1] s sF (some (.int r)) := by
  unfold F_X8_beside at h
  unfold rcv at h
  obtain ⟨hO, h⟩ := v_chk h
  refine ⟨hO, vMet.of (ini := false) X0 (plainFor_of_name (by decide +kernel)) (Nat.le_of_ble_eq_true rfl) (fun h => by cases h) (fun X ls hb hl => ?_) rfl⟩
  show V X (cX8_beside, RX8, 2, 1, 21, false) (vRet sF (some (.int r)) (some .int)) sF s (G0 X 0 ls [])
  rw [← hb] at hl
  have hl : lv_has ls 2 [(0, .ref (xb X + a0)), (1, .int l1)] := hl
  refine v_aload_n dX8_beside_0 rfl (lv_at hl 0 rfl) ?_
  refine v_getR 8 7 h (by decide) rfl qfX8_65 dX8_beside_1 (fun r1 h => ?_)
  refine v_iload_n dX8_beside_4 rfl (lv_at hl 1 rfl) ?_
  refine k_X3_has h qmX8_168 (by decide) hl.1 (Nat.le_of_ble_eq_true rfl) dX8_beside_5 (fun v2 s h => ?_)
  refine v_if_eq 23 dX8_beside_8 (by decide) h (fun h => ?_) (fun h => ?_)
  · refine v_iconst (-1 : Int32) dX8_beside_23 (by decide) ?_
    exact L_X8_beside_24 N (-1 : Int32) s ls (lv_sub hl [] rfl) h
  · refine v_aload_n dX8_beside_11 rfl (lv_at hl 0 rfl) ?_
    refine v_getR 8 7 h (by decide) rfl qfX8_65 dX8_beside_12 (fun r3 h => ?_)
    refine v_getR 3 1 h (by decide) rfl qfX8_113 dX8_beside_15 (fun r4 h => ?_)
    refine v_iload_n dX8_beside_18 rfl (lv_at hl 1 rfl) ?_
    refine v_iald dX8_beside_19 h (fun v5 h => ?_)
    refine v_goto 24 dX8_beside_20 (by decide) ?_
    exact L_X8_beside_24 N v5 s ls (lv_sub hl [] rfl) h
theorem k_X8_beside {X : VX} {cc : ByteArray} {own : String} {nL fr lo : Nat} {ini : Bool} {E : VX → Prop} {sF s : vS} {ρ : Type} {res : ρ} {pc : Nat} {ls : Array Slot} {rest : List Value} {N index : Nat} {a0 : Nat} {l1 : Int32} {f : Int32 → vS → Option ρ} (h : bnd (F_X8_beside N a0 l1 s) f = some res) (hlink : Cond.methodLink own index yX8_beside ∈ TT) (hR : 1 + 1 ≤ fr ∧ 8 + (2 + 11) + 21 ≤ lo) (hls : ls.size = nL) (hr : (rest.map fun v => v.category).sum ≤ 8) (hdg : decode cc pc = .ok (.invokevirtual index, 3)) (kk : ∀ r s', f r s' = some res → V X (cc, own, nL, fr, lo, ini) E sF s' (G0 X (pc + 3) ls (.int r :: rest))) : V X (cc, own, nL, fr, lo, ini) E sF s (G0 X pc ls (.int l1 :: .ref (xb X + a0) :: rest)) := by
  obtain ⟨r, s', e, h⟩ := bnd_some h
  exact v_callV (b := a0) (ci := 8) (As := [.int l1]) (rest := rest) (c_X8_beside X N a0 l1 s s' r e).2 (c_X8_beside (l := xl X) (D := xD X) (ka := xka X) X N a0 l1 s s' r e).1 rfl vl_X8_beside qi_X8_beside qe_X8_beside hlink hR rfl rfl hls hr hdg (kk r s' h)
set_option maxHeartbeats 4000000 in
set_option maxRecDepth 100000 in
theorem L_X8_share_37 {X : VX} {sF : vS} {r : Int64} (N : Nat) (s : vS) (ls : Array Slot) (hl : lv_has ls 3 []) (h : J_X8_share_37 N  s = some (r, sF)) : V X (cX8_share, RX8, 3, 5, 122, false) (vRet sF (some (.long r)) (some .long)) sF s (G0 X 37 ls []) := by
  unfold J_X8_share_37 at h
  refine v_ldc2 qkX8_143 dX8_share_37 ?_
  exact v_lret dX8_share_40 h
theorem vl_X8_share : vCl yX8_share cX8_share 3 (some .long) 2 := ⟨qy_X8_share, qjX8, by decide +kernel, by decide +kernel, by decide +kernel⟩
set_option maxHeartbeats 4000000 in
set_option maxRecDepth 100000 in
theorem c_X8_share {l : Launch} {D : va_G} {ka : Nat → ClassId} (X0 : VX) (N : Nat) (a0 : Nat) (l1 : Int32) (l2 : Int32) (s sF : vS) (r : Int64) (h : F_X8_share N a0 l1 l2 s = some (r, sF)) : isO s a0 8 = true ∧ vMet l D ka (xb X0) yX8_share cX8_share 3 (some .long) 5 122 [.ref (xb X0 + a0), .int l1, .int l2] s sF (some (.long r)) := by
  unfold F_X8_share at h
  unfold rcv at h
  obtain ⟨hO, h⟩ := v_chk h
  refine ⟨hO, vMet.of (ini := false) X0 (plainFor_of_name (by decide +kernel)) (Nat.le_of_ble_eq_true rfl) (fun h => by cases h) (fun X ls hb hl => ?_) rfl⟩
  show V X (cX8_share, RX8, 3, 5, 122, false) (vRet sF (some (.long r)) (some .long)) sF s (G0 X 0 ls [])
  rw [← hb] at hl
  have hl : lv_has ls 3 [(0, .ref (xb X + a0)), (1, .int l1), (2, .int l2)] := hl
  refine v_aload_n dX8_share_0 rfl (lv_at hl 0 rfl) ?_
  refine v_getR 8 0 h (by decide) rfl qfX8_16 dX8_share_1 (fun r1 h => ?_)
  refine v_iload_n dX8_share_4 rfl (lv_at hl 1 rfl) ?_
  refine k_X1_has h qmX8_86 (by decide) hl.1 (Nat.le_of_ble_eq_true rfl) dX8_share_5 (fun v2 s h => ?_)
  refine v_if_eq 37 dX8_share_8 (by decide) h (fun h => ?_) (fun h => ?_)
  · exact L_X8_share_37 N  s ls (lv_sub hl [] rfl) h
  · refine v_iload_n dX8_share_11 rfl (lv_at hl 2 rfl) ?_
    refine k_X8_isPart h qmX8_136 (by decide) hl.1 (Nat.le_of_ble_eq_true rfl) dX8_share_12 (fun v3 s h => ?_)
    refine v_if_eq 37 dX8_share_15 (by decide) h (fun h => ?_) (fun h => ?_)
    · exact L_X8_share_37 N  s ls (lv_sub hl [] rfl) h
    · refine v_aload_n dX8_share_18 rfl (lv_at hl 0 rfl) ?_
      refine v_getR 8 7 h (by decide) rfl qfX8_65 dX8_share_19 (fun r4 h => ?_)
      refine v_getI 3 0 h (by decide) (Or.inl rfl) qfX8_160 dX8_share_22 (fun v5 h => ?_)
      refine v_aload_n dX8_share_25 rfl (lv_at hl 0 rfl) ?_
      refine v_getR 8 0 h (by decide) rfl qfX8_16 dX8_share_26 (fun r6 h => ?_)
      refine v_getR 1 3 h (by decide) rfl qfX8_90 dX8_share_29 (fun r7 h => ?_)
      refine v_iload_n dX8_share_32 rfl (lv_at hl 1 rfl) ?_
      refine v_iald dX8_share_33 h (fun v8 h => ?_)
      refine v_icmp_ge 41 dX8_share_34 (by decide) h (fun h => ?_) (fun h => ?_)
      · refine v_aload_n dX8_share_41 rfl (lv_at hl 0 rfl) ?_
        refine v_getR 8 0 h (by decide) rfl qfX8_16 dX8_share_42 (fun r9 h => ?_)
        refine v_iload_n dX8_share_45 rfl (lv_at hl 1 rfl) ?_
        refine v_aload_n dX8_share_46 rfl (lv_at hl 0 rfl) ?_
        refine v_getR 8 7 h (by decide) rfl qfX8_65 dX8_share_47 (fun r10 h => ?_)
        refine v_iconst (-1 : Int32) dX8_share_50 (by decide) ?_
        refine v_aload_n dX8_share_51 rfl (lv_at hl 0 rfl) ?_
        refine v_getR 8 5 h (by decide) rfl qfX8_51 dX8_share_52 (fun r11 h => ?_)
        refine k_X1_shareOf h qmX8_187 (by decide) hl.1 (Nat.le_of_ble_eq_true rfl) dX8_share_55 (fun v12 s h => ?_)
        refine v_aload_n dX8_share_58 rfl (lv_at hl 0 rfl) ?_
        refine v_getR 8 5 h (by decide) rfl qfX8_51 dX8_share_59 (fun r13 h => ?_)
        refine v_iload_n dX8_share_62 rfl (lv_at hl 2 rfl) ?_
        refine k_X2_part h qmX8_156 (by decide) hl.1 (Nat.le_of_ble_eq_true rfl) dX8_share_63 (fun v14 s h => ?_)
        exact v_lret dX8_share_66 h
      · exact L_X8_share_37 N  s ls (lv_sub hl [] rfl) h
theorem k_X8_share {X : VX} {cc : ByteArray} {own : String} {nL fr lo : Nat} {ini : Bool} {E : VX → Prop} {sF s : vS} {ρ : Type} {res : ρ} {pc : Nat} {ls : Array Slot} {rest : List Value} {N index : Nat} {a0 : Nat} {l1 : Int32} {l2 : Int32} {f : Int64 → vS → Option ρ} (h : bnd (F_X8_share N a0 l1 l2 s) f = some res) (hlink : Cond.methodLink own index yX8_share ∈ TT) (hR : 5 + 1 ≤ fr ∧ 8 + (3 + 11) + 122 ≤ lo) (hls : ls.size = nL) (hr : (rest.map fun v => v.category).sum ≤ 8) (hdg : decode cc pc = .ok (.invokevirtual index, 3)) (kk : ∀ r s', f r s' = some res → V X (cc, own, nL, fr, lo, ini) E sF s' (G0 X (pc + 3) ls (.long r :: rest))) : V X (cc, own, nL, fr, lo, ini) E sF s (G0 X pc ls (.int l2 :: .int l1 :: .ref (xb X + a0) :: rest)) := by
  obtain ⟨r, s', e, h⟩ := bnd_some h
  exact v_callV (b := a0) (ci := 8) (As := [.int l1, .int l2]) (rest := rest) (c_X8_share X N a0 l1 l2 s s' r e).2 (c_X8_share (l := xl X) (D := xD X) (ka := xka X) X N a0 l1 l2 s s' r e).1 rfl vl_X8_share qi_X8_share qe_X8_share hlink hR rfl rfl hls hr hdg (kk r s' h)
set_option maxHeartbeats 4000000 in
set_option maxRecDepth 100000 in
theorem L_X8_shareAt_48 {X : VX} {sF : vS} {r : Int64} (N : Nat) (s : vS) (ls : Array Slot) (hl : lv_has ls 4 []) (h : J_X8_shareAt_48 N  s = some (r, sF)) : V X (cX8_shareAt, RX8, 4, 5, 122, false) (vRet sF (some (.long r)) (some .long)) sF s (G0 X 48 ls []) := by
  unfold J_X8_shareAt_48 at h
  refine v_ldc2 qkX8_143 dX8_shareAt_48 ?_
  exact v_lret dX8_shareAt_51 h
theorem vl_X8_shareAt : vCl yX8_shareAt cX8_shareAt 4 (some .long) 3 := ⟨qy_X8_shareAt, qjX8, by decide +kernel, by decide +kernel, by decide +kernel⟩
set_option maxHeartbeats 4000000 in
set_option maxRecDepth 100000 in
theorem c_X8_shareAt {l : Launch} {D : va_G} {ka : Nat → ClassId} (X0 : VX) (N : Nat) (a0 : Nat) (l1 : Int32) (l2 : Int32) (l3 : Int32) (s sF : vS) (r : Int64) (h : F_X8_shareAt N a0 l1 l2 l3 s = some (r, sF)) : isO s a0 8 = true ∧ vMet l D ka (xb X0) yX8_shareAt cX8_shareAt 4 (some .long) 5 122 [.ref (xb X0 + a0), .int l1, .int l2, .int l3] s sF (some (.long r)) := by
  unfold F_X8_shareAt at h
  unfold rcv at h
  obtain ⟨hO, h⟩ := v_chk h
  refine ⟨hO, vMet.of (ini := false) X0 (plainFor_of_name (by decide +kernel)) (Nat.le_of_ble_eq_true rfl) (fun h => by cases h) (fun X ls hb hl => ?_) rfl⟩
  show V X (cX8_shareAt, RX8, 4, 5, 122, false) (vRet sF (some (.long r)) (some .long)) sF s (G0 X 0 ls [])
  rw [← hb] at hl
  have hl : lv_has ls 4 [(0, .ref (xb X + a0)), (1, .int l1), (2, .int l2), (3, .int l3)] := hl
  refine v_aload_n dX8_shareAt_0 rfl (lv_at hl 0 rfl) ?_
  refine v_getR 8 7 h (by decide) rfl qfX8_65 dX8_shareAt_1 (fun r1 h => ?_)
  refine v_iload_n dX8_shareAt_4 rfl (lv_at hl 1 rfl) ?_
  refine k_X3_has h qmX8_168 (by decide) hl.1 (Nat.le_of_ble_eq_true rfl) dX8_shareAt_5 (fun v2 s h => ?_)
  refine v_if_eq 48 dX8_shareAt_8 (by decide) h (fun h => ?_) (fun h => ?_)
  · exact L_X8_shareAt_48 N  s ls (lv_sub hl [] rfl) h
  · refine v_aload_n dX8_shareAt_11 rfl (lv_at hl 0 rfl) ?_
    refine v_getR 8 1 h (by decide) rfl qfX8_20 dX8_shareAt_12 (fun r3 h => ?_)
    refine v_iload_n dX8_shareAt_15 rfl (lv_at hl 2 rfl) ?_
    refine k_X1_has h qmX8_86 (by decide) hl.1 (Nat.le_of_ble_eq_true rfl) dX8_shareAt_16 (fun v4 s h => ?_)
    refine v_if_eq 48 dX8_shareAt_19 (by decide) h (fun h => ?_) (fun h => ?_)
    · exact L_X8_shareAt_48 N  s ls (lv_sub hl [] rfl) h
    · refine v_iload_n dX8_shareAt_22 rfl (lv_at hl 3 rfl) ?_
      refine k_X8_isPart h qmX8_136 (by decide) hl.1 (Nat.le_of_ble_eq_true rfl) dX8_shareAt_23 (fun v5 s h => ?_)
      refine v_if_eq 48 dX8_shareAt_26 (by decide) h (fun h => ?_) (fun h => ?_)
      · exact L_X8_shareAt_48 N  s ls (lv_sub hl [] rfl) h
      · refine v_aload_n dX8_shareAt_29 rfl (lv_at hl 0 rfl) ?_
        refine v_getR 8 7 h (by decide) rfl qfX8_65 dX8_shareAt_30 (fun r6 h => ?_)
        refine v_getI 3 0 h (by decide) (Or.inl rfl) qfX8_160 dX8_shareAt_33 (fun v7 h => ?_)
        refine v_aload_n dX8_shareAt_36 rfl (lv_at hl 0 rfl) ?_
        refine v_getR 8 1 h (by decide) rfl qfX8_20 dX8_shareAt_37 (fun r8 h => ?_)
        refine v_getR 1 3 h (by decide) rfl qfX8_90 dX8_shareAt_40 (fun r9 h => ?_)
        refine v_iload_n dX8_shareAt_43 rfl (lv_at hl 2 rfl) ?_
        refine v_iald dX8_shareAt_44 h (fun v10 h => ?_)
        refine v_icmp_ge 52 dX8_shareAt_45 (by decide) h (fun h => ?_) (fun h => ?_)
        · refine v_aload_n dX8_shareAt_52 rfl (lv_at hl 0 rfl) ?_
          refine v_getR 8 1 h (by decide) rfl qfX8_20 dX8_shareAt_53 (fun r11 h => ?_)
          refine v_iload_n dX8_shareAt_56 rfl (lv_at hl 2 rfl) ?_
          refine v_aload_n dX8_shareAt_57 rfl (lv_at hl 0 rfl) ?_
          refine v_getR 8 7 h (by decide) rfl qfX8_65 dX8_shareAt_58 (fun r12 h => ?_)
          refine v_iload_n dX8_shareAt_61 rfl (lv_at hl 1 rfl) ?_
          refine v_aload_n dX8_shareAt_62 rfl (lv_at hl 0 rfl) ?_
          refine v_getR 8 5 h (by decide) rfl qfX8_51 dX8_shareAt_63 (fun r13 h => ?_)
          refine k_X1_shareOf h qmX8_187 (by decide) hl.1 (Nat.le_of_ble_eq_true rfl) dX8_shareAt_66 (fun v14 s h => ?_)
          refine v_aload_n dX8_shareAt_69 rfl (lv_at hl 0 rfl) ?_
          refine v_getR 8 5 h (by decide) rfl qfX8_51 dX8_shareAt_70 (fun r15 h => ?_)
          refine v_iload_n dX8_shareAt_73 rfl (lv_at hl 3 rfl) ?_
          refine k_X2_part h qmX8_156 (by decide) hl.1 (Nat.le_of_ble_eq_true rfl) dX8_shareAt_74 (fun v16 s h => ?_)
          exact v_lret dX8_shareAt_77 h
        · exact L_X8_shareAt_48 N  s ls (lv_sub hl [] rfl) h
theorem k_X8_shareAt {X : VX} {cc : ByteArray} {own : String} {nL fr lo : Nat} {ini : Bool} {E : VX → Prop} {sF s : vS} {ρ : Type} {res : ρ} {pc : Nat} {ls : Array Slot} {rest : List Value} {N index : Nat} {a0 : Nat} {l1 : Int32} {l2 : Int32} {l3 : Int32} {f : Int64 → vS → Option ρ} (h : bnd (F_X8_shareAt N a0 l1 l2 l3 s) f = some res) (hlink : Cond.methodLink own index yX8_shareAt ∈ TT) (hR : 5 + 1 ≤ fr ∧ 8 + (4 + 11) + 122 ≤ lo) (hls : ls.size = nL) (hr : (rest.map fun v => v.category).sum ≤ 8) (hdg : decode cc pc = .ok (.invokevirtual index, 3)) (kk : ∀ r s', f r s' = some res → V X (cc, own, nL, fr, lo, ini) E sF s' (G0 X (pc + 3) ls (.long r :: rest))) : V X (cc, own, nL, fr, lo, ini) E sF s (G0 X pc ls (.int l3 :: .int l2 :: .int l1 :: .ref (xb X + a0) :: rest)) := by
  obtain ⟨r, s', e, h⟩ := bnd_some h
  exact v_callV (b := a0) (ci := 8) (As := [.int l1, .int l2, .int l3]) (rest := rest) (c_X8_shareAt X N a0 l1 l2 l3 s s' r e).2 (c_X8_shareAt (l := xl X) (D := xD X) (ka := xka X) X N a0 l1 l2 l3 s s' r e).1 rfl vl_X8_shareAt qi_X8_shareAt qe_X8_shareAt hlink hR rfl rfl hls hr hdg (kk r s' h)
set_option maxHeartbeats 4000000 in
set_option maxRecDepth 100000 in
theorem L_X8_maps_31 {X : VX} {sF : vS} {r : Int32} (N : Nat) (k0 : Int32) (s : vS) (ls : Array Slot) (hl : lv_has ls 2 []) (h : J_X8_maps_31 N k0 s = some (r, sF)) : V X (cX8_maps, RX8, 2, 4, 92, false) (vRet sF (some (.int r)) (some .int)) sF s (G0 X 31 ls [.int k0]) := by
  unfold J_X8_maps_31 at h
  exact v_iret dX8_maps_31 h
theorem vl_X8_maps : vCl yX8_maps cX8_maps 2 (some .int) 1 := ⟨qy_X8_maps, qjX8, by decide +kernel, by decide +kernel, by decide +kernel⟩
set_option maxHeartbeats 4000000 in
set_option maxRecDepth 100000 in
theorem c_X8_maps {l : Launch} {D : va_G} {ka : Nat → ClassId} (X0 : VX) (N : Nat) (a0 : Nat) (l1 : Int32) (s sF : vS) (r : Int32) (h : F_X8_maps N a0 l1 s = some (r, sF)) : isO s a0 8 = true ∧ vMet l D ka (xb X0) yX8_maps cX8_maps 2 (some .int) 4 92 [.ref (xb X0 + a0), .int l1] s sF (some (.int r)) := by
  unfold F_X8_maps at h
  unfold rcv at h
  obtain ⟨hO, h⟩ := v_chk h
  refine ⟨hO, vMet.of (ini := false) X0 (plainFor_of_name (by decide +kernel)) (Nat.le_of_ble_eq_true rfl) (fun h => by cases h) (fun X ls hb hl => ?_) rfl⟩
  show V X (cX8_maps, RX8, 2, 4, 92, false) (vRet sF (some (.int r)) (some .int)) sF s (G0 X 0 ls [])
  rw [← hb] at hl
  have hl : lv_has ls 2 [(0, .ref (xb X + a0)), (1, .int l1)] := hl
  refine v_aload_n dX8_maps_0 rfl (lv_at hl 0 rfl) ?_
  refine v_getR 8 0 h (by decide) rfl qfX8_16 dX8_maps_1 (fun r1 h => ?_)
  refine v_iload_n dX8_maps_4 rfl (lv_at hl 1 rfl) ?_
  refine k_X1_has h qmX8_86 (by decide) hl.1 (Nat.le_of_ble_eq_true rfl) dX8_maps_5 (fun v2 s h => ?_)
  refine v_if_eq 30 dX8_maps_8 (by decide) h (fun h => ?_) (fun h => ?_)
  · refine v_iconst (-1 : Int32) dX8_maps_30 (by decide) ?_
    exact L_X8_maps_31 N (-1 : Int32) s ls (lv_sub hl [] rfl) h
  · refine v_aload_n dX8_maps_11 rfl (lv_at hl 0 rfl) ?_
    refine v_getR 8 7 h (by decide) rfl qfX8_65 dX8_maps_12 (fun r3 h => ?_)
    refine v_aload_n dX8_maps_15 rfl (lv_at hl 0 rfl) ?_
    refine v_getR 8 0 h (by decide) rfl qfX8_16 dX8_maps_16 (fun r4 h => ?_)
    refine v_getR 1 5 h (by decide) rfl qfX8_109 dX8_maps_19 (fun r5 h => ?_)
    refine v_iload_n dX8_maps_22 rfl (lv_at hl 1 rfl) ?_
    refine v_aald 4 dX8_maps_23 h (fun r6 h => ?_)
    refine k_X3_mapsFrom h qmX8_191 (by decide) hl.1 (Nat.le_of_ble_eq_true rfl) dX8_maps_24 (fun v7 s h => ?_)
    refine v_goto 31 dX8_maps_27 (by decide) ?_
    exact L_X8_maps_31 N v7 s ls (lv_sub hl [] rfl) h
theorem k_X8_maps {X : VX} {cc : ByteArray} {own : String} {nL fr lo : Nat} {ini : Bool} {E : VX → Prop} {sF s : vS} {ρ : Type} {res : ρ} {pc : Nat} {ls : Array Slot} {rest : List Value} {N index : Nat} {a0 : Nat} {l1 : Int32} {f : Int32 → vS → Option ρ} (h : bnd (F_X8_maps N a0 l1 s) f = some res) (hlink : Cond.methodLink own index yX8_maps ∈ TT) (hR : 4 + 1 ≤ fr ∧ 8 + (2 + 11) + 92 ≤ lo) (hls : ls.size = nL) (hr : (rest.map fun v => v.category).sum ≤ 8) (hdg : decode cc pc = .ok (.invokevirtual index, 3)) (kk : ∀ r s', f r s' = some res → V X (cc, own, nL, fr, lo, ini) E sF s' (G0 X (pc + 3) ls (.int r :: rest))) : V X (cc, own, nL, fr, lo, ini) E sF s (G0 X pc ls (.int l1 :: .ref (xb X + a0) :: rest)) := by
  obtain ⟨r, s', e, h⟩ := bnd_some h
  exact v_callV (b := a0) (ci := 8) (As := [.int l1]) (rest := rest) (c_X8_maps X N a0 l1 s s' r e).2 (c_X8_maps (l := xl X) (D := xD X) (ka := xka X) X N a0 l1 s s' r e).1 rfl vl_X8_maps qi_X8_maps qe_X8_maps hlink hR rfl rfl hls hr hdg (kk r s' h)
set_option maxHeartbeats 4000000 in
set_option maxRecDepth 100000 in
theorem L_X8_rank_27 {X : VX} {sF : vS} {r : Int32} (N : Nat) (s : vS) (ls : Array Slot) (hl : lv_has ls 3 []) (h : J_X8_rank_27 N  s = some (r, sF)) : V X (cX8_rank, RX8, 3, 4, 98, false) (vRet sF (some (.int r)) (some .int)) sF s (G0 X 27 ls []) := by
  unfold J_X8_rank_27 at h
  refine v_iconst (-1 : Int32) dX8_rank_27 (by decide) ?_
  exact v_iret dX8_rank_28 h
theorem vl_X8_rank : vCl yX8_rank cX8_rank 3 (some .int) 2 := ⟨qy_X8_rank, qjX8, by decide +kernel, by decide +kernel, by decide +kernel⟩
set_option maxHeartbeats 4000000 in
set_option maxRecDepth 100000 in
theorem c_X8_rank {l : Launch} {D : va_G} {ka : Nat → ClassId} (X0 : VX) (N : Nat) (a0 : Nat) (l1 : Int32) (l2 : Int32) (s sF : vS) (r : Int32) (h : F_X8_rank N a0 l1 l2 s = some (r, sF)) : isO s a0 8 = true ∧ vMet l D ka (xb X0) yX8_rank cX8_rank 3 (some .int) 4 98 [.ref (xb X0 + a0), .int l1, .int l2] s sF (some (.int r)) := by
  unfold F_X8_rank at h
  unfold rcv at h
  obtain ⟨hO, h⟩ := v_chk h
  refine ⟨hO, vMet.of (ini := false) X0 (plainFor_of_name (by decide +kernel)) (Nat.le_of_ble_eq_true rfl) (fun h => by cases h) (fun X ls hb hl => ?_) rfl⟩
  show V X (cX8_rank, RX8, 3, 4, 98, false) (vRet sF (some (.int r)) (some .int)) sF s (G0 X 0 ls [])
  rw [← hb] at hl
  have hl : lv_has ls 3 [(0, .ref (xb X + a0)), (1, .int l1), (2, .int l2)] := hl
  refine v_aload_n dX8_rank_0 rfl (lv_at hl 0 rfl) ?_
  refine v_getR 8 0 h (by decide) rfl qfX8_16 dX8_rank_1 (fun r1 h => ?_)
  refine v_iload_n dX8_rank_4 rfl (lv_at hl 1 rfl) ?_
  refine k_X1_hasSize h qmX8_122 (by decide) hl.1 (Nat.le_of_ble_eq_true rfl) dX8_rank_5 (fun v2 s h => ?_)
  refine v_if_eq 27 dX8_rank_8 (by decide) h (fun h => ?_) (fun h => ?_)
  · exact L_X8_rank_27 N  s ls (lv_sub hl [] rfl) h
  · refine v_iload_n dX8_rank_11 rfl (lv_at hl 2 rfl) ?_
    refine v_if_lt 27 dX8_rank_12 (by decide) h (fun h => ?_) (fun h => ?_)
    · exact L_X8_rank_27 N  s ls (lv_sub hl [] rfl) h
    · refine v_iload_n dX8_rank_15 rfl (lv_at hl 2 rfl) ?_
      refine v_aload_n dX8_rank_16 rfl (lv_at hl 0 rfl) ?_
      refine v_getR 8 0 h (by decide) rfl qfX8_16 dX8_rank_17 (fun r3 h => ?_)
      refine v_iload_n dX8_rank_20 rfl (lv_at hl 1 rfl) ?_
      refine k_X1_manyOf h qmX8_195 (by decide) hl.1 (Nat.le_of_ble_eq_true rfl) dX8_rank_21 (fun v4 s h => ?_)
      refine v_icmp_lt 29 dX8_rank_24 (by decide) h (fun h => ?_) (fun h => ?_)
      · refine v_aload_n dX8_rank_29 rfl (lv_at hl 0 rfl) ?_
        refine v_getR 8 7 h (by decide) rfl qfX8_65 dX8_rank_30 (fun r5 h => ?_)
        refine v_getI 3 0 h (by decide) (Or.inl rfl) qfX8_160 dX8_rank_33 (fun v6 h => ?_)
        refine v_iload_n dX8_rank_36 rfl (lv_at hl 1 rfl) ?_
        refine v_icmp_ge 43 dX8_rank_37 (by decide) h (fun h => ?_) (fun h => ?_)
        · refine v_aload_n dX8_rank_43 rfl (lv_at hl 0 rfl) ?_
          refine v_getR 8 0 h (by decide) rfl qfX8_16 dX8_rank_44 (fun r7 h => ?_)
          refine v_aload_n dX8_rank_47 rfl (lv_at hl 0 rfl) ?_
          refine v_getR 8 7 h (by decide) rfl qfX8_65 dX8_rank_48 (fun r8 h => ?_)
          refine v_iconst (-1 : Int32) dX8_rank_51 (by decide) ?_
          refine v_iload_n dX8_rank_52 rfl (lv_at hl 1 rfl) ?_
          refine k_X1_tally h qmX8_198 (by decide) hl.1 (Nat.le_of_ble_eq_true rfl) dX8_rank_53 (fun v9 s h => ?_)
          refine v_aload_n dX8_rank_56 rfl (lv_at hl 0 rfl) ?_
          refine v_getR 8 0 h (by decide) rfl qfX8_16 dX8_rank_57 (fun r10 h => ?_)
          refine v_iload_n dX8_rank_60 rfl (lv_at hl 1 rfl) ?_
          refine v_iload_n dX8_rank_61 rfl (lv_at hl 2 rfl) ?_
          refine k_X1_ranked h qmX8_202 (by decide) hl.1 (Nat.le_of_ble_eq_true rfl) dX8_rank_62 (fun v11 s h => ?_)
          exact v_iret dX8_rank_65 h
        · refine v_bipush (-3 : Int32) dX8_rank_40 (by decide) ?_
          exact v_iret dX8_rank_42 h
      · exact L_X8_rank_27 N  s ls (lv_sub hl [] rfl) h
theorem k_X8_rank {X : VX} {cc : ByteArray} {own : String} {nL fr lo : Nat} {ini : Bool} {E : VX → Prop} {sF s : vS} {ρ : Type} {res : ρ} {pc : Nat} {ls : Array Slot} {rest : List Value} {N index : Nat} {a0 : Nat} {l1 : Int32} {l2 : Int32} {f : Int32 → vS → Option ρ} (h : bnd (F_X8_rank N a0 l1 l2 s) f = some res) (hlink : Cond.methodLink own index yX8_rank ∈ TT) (hR : 4 + 1 ≤ fr ∧ 8 + (3 + 11) + 98 ≤ lo) (hls : ls.size = nL) (hr : (rest.map fun v => v.category).sum ≤ 8) (hdg : decode cc pc = .ok (.invokevirtual index, 3)) (kk : ∀ r s', f r s' = some res → V X (cc, own, nL, fr, lo, ini) E sF s' (G0 X (pc + 3) ls (.int r :: rest))) : V X (cc, own, nL, fr, lo, ini) E sF s (G0 X pc ls (.int l2 :: .int l1 :: .ref (xb X + a0) :: rest)) := by
  obtain ⟨r, s', e, h⟩ := bnd_some h
  exact v_callV (b := a0) (ci := 8) (As := [.int l1, .int l2]) (rest := rest) (c_X8_rank X N a0 l1 l2 s s' r e).2 (c_X8_rank (l := xl X) (D := xD X) (ka := xka X) X N a0 l1 l2 s s' r e).1 rfl vl_X8_rank qi_X8_rank qe_X8_rank hlink hR rfl rfl hls hr hdg (kk r s' h)
set_option maxHeartbeats 4000000 in
set_option maxRecDepth 100000 in
theorem L_X8_found_83 {X : VX} {sF : vS} {r : Int32} (N : Nat) (k0 : Int32) (s : vS) (ls : Array Slot) (hl : lv_has ls 3 []) (h : J_X8_found_83 N k0 s = some (r, sF)) : V X (cX8_found, RX8, 3, 4, 98, false) (vRet sF (some (.int r)) (some .int)) sF s (G0 X 83 ls [.int k0]) := by
  unfold J_X8_found_83 at h
  exact v_iret dX8_found_83 h
set_option maxHeartbeats 4000000 in
set_option maxRecDepth 100000 in
theorem L_X8_found_16 {X : VX} {sF : vS} {r : Int32} (N : Nat) (s : vS) (ls : Array Slot) (hl : lv_has ls 3 []) (h : J_X8_found_16 N  s = some (r, sF)) : V X (cX8_found, RX8, 3, 4, 98, false) (vRet sF (some (.int r)) (some .int)) sF s (G0 X 16 ls []) := by
  unfold J_X8_found_16 at h
  refine v_iconst (-1 : Int32) dX8_found_16 (by decide) ?_
  exact v_iret dX8_found_17 h
theorem vl_X8_found : vCl yX8_found cX8_found 3 (some .int) 2 := ⟨qy_X8_found, qjX8, by decide +kernel, by decide +kernel, by decide +kernel⟩
set_option maxHeartbeats 4000000 in
set_option maxRecDepth 100000 in
theorem c_X8_found {l : Launch} {D : va_G} {ka : Nat → ClassId} (X0 : VX) (N : Nat) (a0 : Nat) (l1 : Int32) (l2 : Int32) (s sF : vS) (r : Int32) (h : F_X8_found N a0 l1 l2 s = some (r, sF)) : isO s a0 8 = true ∧ vMet l D ka (xb X0) yX8_found cX8_found 3 (some .int) 4 98 [.ref (xb X0 + a0), .int l1, .int l2] s sF (some (.int r)) := by
  unfold F_X8_found at h
  unfold rcv at h
  obtain ⟨hO, h⟩ := v_chk h
  refine ⟨hO, vMet.of (ini := false) X0 (plainFor_of_name (by decide +kernel)) (Nat.le_of_ble_eq_true rfl) (fun h => by cases h) (fun X ls hb hl => ?_) rfl⟩
  show V X (cX8_found, RX8, 3, 4, 98, false) (vRet sF (some (.int r)) (some .int)) sF s (G0 X 0 ls [])
  rw [← hb] at hl
  have hl : lv_has ls 3 [(0, .ref (xb X + a0)), (1, .int l1), (2, .int l2)] := hl
  refine v_aload_n dX8_found_0 rfl (lv_at hl 0 rfl) ?_
  refine v_getR 8 0 h (by decide) rfl qfX8_16 dX8_found_1 (fun r1 h => ?_)
  refine v_iload_n dX8_found_4 rfl (lv_at hl 1 rfl) ?_
  refine k_X1_hasSize h qmX8_122 (by decide) hl.1 (Nat.le_of_ble_eq_true rfl) dX8_found_5 (fun v2 s h => ?_)
  refine v_if_eq 16 dX8_found_8 (by decide) h (fun h => ?_) (fun h => ?_)
  · exact L_X8_found_16 N  s ls (lv_sub hl [] rfl) h
  · refine v_iload_n dX8_found_11 rfl (lv_at hl 2 rfl) ?_
    refine v_iconst (-1 : Int32) dX8_found_12 (by decide) ?_
    refine v_icmp_ge 18 dX8_found_13 (by decide) h (fun h => ?_) (fun h => ?_)
    · refine v_aload_n dX8_found_18 rfl (lv_at hl 0 rfl) ?_
      refine v_getR 8 7 h (by decide) rfl qfX8_65 dX8_found_19 (fun r3 h => ?_)
      refine v_getI 3 0 h (by decide) (Or.inl rfl) qfX8_160 dX8_found_22 (fun v4 h => ?_)
      refine v_iload_n dX8_found_25 rfl (lv_at hl 1 rfl) ?_
      refine v_icmp_ge 32 dX8_found_26 (by decide) h (fun h => ?_) (fun h => ?_)
      · refine v_aload_n dX8_found_32 rfl (lv_at hl 0 rfl) ?_
        refine v_getR 8 0 h (by decide) rfl qfX8_16 dX8_found_33 (fun r5 h => ?_)
        refine v_aload_n dX8_found_36 rfl (lv_at hl 0 rfl) ?_
        refine v_getR 8 7 h (by decide) rfl qfX8_65 dX8_found_37 (fun r6 h => ?_)
        refine v_iconst (-1 : Int32) dX8_found_40 (by decide) ?_
        refine v_iload_n dX8_found_41 rfl (lv_at hl 1 rfl) ?_
        refine k_X1_tally h qmX8_198 (by decide) hl.1 (Nat.le_of_ble_eq_true rfl) dX8_found_42 (fun v7 s h => ?_)
        refine v_iload_n dX8_found_45 rfl (lv_at hl 2 rfl) ?_
        refine v_iconst (-1 : Int32) dX8_found_46 (by decide) ?_
        refine v_icmp_ne 58 dX8_found_47 (by decide) h (fun h => ?_) (fun h => ?_)
        · refine v_iload_n dX8_found_58 rfl (lv_at hl 2 rfl) ?_
          refine v_aload_n dX8_found_59 rfl (lv_at hl 0 rfl) ?_
          refine v_getR 8 0 h (by decide) rfl qfX8_16 dX8_found_60 (fun r8 h => ?_)
          refine v_getI 1 12 h (by decide) (Or.inl rfl) qfX8_205 dX8_found_63 (fun v9 h => ?_)
          refine v_icmp_ge 81 dX8_found_66 (by decide) h (fun h => ?_) (fun h => ?_)
          · refine v_bipush (-5 : Int32) dX8_found_81 (by decide) ?_
            exact L_X8_found_83 N (-5 : Int32) s ls (lv_sub hl [] rfl) h
          · refine v_aload_n dX8_found_69 rfl (lv_at hl 0 rfl) ?_
            refine v_getR 8 0 h (by decide) rfl qfX8_16 dX8_found_70 (fun r10 h => ?_)
            refine v_getR 1 11 h (by decide) rfl qfX8_208 dX8_found_73 (fun r11 h => ?_)
            refine v_iload_n dX8_found_76 rfl (lv_at hl 2 rfl) ?_
            refine v_iald dX8_found_77 h (fun v12 h => ?_)
            refine v_goto 83 dX8_found_78 (by decide) ?_
            exact L_X8_found_83 N v12 s ls (lv_sub hl [] rfl) h
        · refine v_aload_n dX8_found_50 rfl (lv_at hl 0 rfl) ?_
          refine v_getR 8 0 h (by decide) rfl qfX8_16 dX8_found_51 (fun r13 h => ?_)
          refine v_getI 1 12 h (by decide) (Or.inl rfl) qfX8_205 dX8_found_54 (fun v14 h => ?_)
          exact v_iret dX8_found_57 h
      · refine v_bipush (-3 : Int32) dX8_found_29 (by decide) ?_
        exact v_iret dX8_found_31 h
    · exact L_X8_found_16 N  s ls (lv_sub hl [] rfl) h
theorem k_X8_found {X : VX} {cc : ByteArray} {own : String} {nL fr lo : Nat} {ini : Bool} {E : VX → Prop} {sF s : vS} {ρ : Type} {res : ρ} {pc : Nat} {ls : Array Slot} {rest : List Value} {N index : Nat} {a0 : Nat} {l1 : Int32} {l2 : Int32} {f : Int32 → vS → Option ρ} (h : bnd (F_X8_found N a0 l1 l2 s) f = some res) (hlink : Cond.methodLink own index yX8_found ∈ TT) (hR : 4 + 1 ≤ fr ∧ 8 + (3 + 11) + 98 ≤ lo) (hls : ls.size = nL) (hr : (rest.map fun v => v.category).sum ≤ 8) (hdg : decode cc pc = .ok (.invokevirtual index, 3)) (kk : ∀ r s', f r s' = some res → V X (cc, own, nL, fr, lo, ini) E sF s' (G0 X (pc + 3) ls (.int r :: rest))) : V X (cc, own, nL, fr, lo, ini) E sF s (G0 X pc ls (.int l2 :: .int l1 :: .ref (xb X + a0) :: rest)) := by
  obtain ⟨r, s', e, h⟩ := bnd_some h
  exact v_callV (b := a0) (ci := 8) (As := [.int l1, .int l2]) (rest := rest) (c_X8_found X N a0 l1 l2 s s' r e).2 (c_X8_found (l := xl X) (D := xD X) (ka := xka X) X N a0 l1 l2 s s' r e).1 rfl vl_X8_found qi_X8_found qe_X8_found hlink hR rfl rfl hls hr hdg (kk r s' h)
set_option maxHeartbeats 4000000 in
set_option maxRecDepth 100000 in
theorem L_X8_feed_10 {X : VX} {sF : vS} {r : Int32} (N : Nat) (s : vS) (ls : Array Slot) (hl : lv_has ls 2 []) (h : J_X8_feed_10 N  s = some (r, sF)) : V X (cX8_feed, RX8, 2, 0, 0, false) (vRet sF (some (.int r)) (some .int)) sF s (G0 X 10 ls []) := by
  unfold J_X8_feed_10 at h
  refine v_bipush (-2 : Int32) dX8_feed_10 (by decide) ?_
  exact v_iret dX8_feed_12 h
theorem vl_X8_feed : vCl yX8_feed cX8_feed 2 (some .int) 1 := ⟨qy_X8_feed, qjX8, by decide +kernel, by decide +kernel, by decide +kernel⟩
set_option maxHeartbeats 4000000 in
set_option maxRecDepth 100000 in
theorem c_X8_feed {l : Launch} {D : va_G} {ka : Nat → ClassId} (X0 : VX) (N : Nat) (a0 : Nat) (l1 : Int32) (s sF : vS) (r : Int32) (h : F_X8_feed N a0 l1 s = some (r, sF)) : isO s a0 8 = true ∧ vMet l D ka (xb X0) yX8_feed cX8_feed 2 (some .int) 0 0 [.ref (xb X0 + a0), .int l1] s sF (some (.int r)) := by
  unfold F_X8_feed at h
  unfold rcv at h
  obtain ⟨hO, h⟩ := v_chk h
  refine ⟨hO, vMet.of (ini := false) X0 (plainFor_of_name (by decide +kernel)) (Nat.le_of_ble_eq_true rfl) (fun h => by cases h) (fun X ls hb hl => ?_) rfl⟩
  show V X (cX8_feed, RX8, 2, 0, 0, false) (vRet sF (some (.int r)) (some .int)) sF s (G0 X 0 ls [])
  rw [← hb] at hl
  have hl : lv_has ls 2 [(0, .ref (xb X + a0)), (1, .int l1)] := hl
  refine v_iload_n dX8_feed_0 rfl (lv_at hl 1 rfl) ?_
  refine v_if_lt 10 dX8_feed_1 (by decide) h (fun h => ?_) (fun h => ?_)
  · exact L_X8_feed_10 N  s ls (lv_sub hl [] rfl) h
  · refine v_iload_n dX8_feed_4 rfl (lv_at hl 1 rfl) ?_
    refine v_bipush (127 : Int32) dX8_feed_5 (by decide) ?_
    refine v_icmp_le 13 dX8_feed_7 (by decide) h (fun h => ?_) (fun h => ?_)
    · refine v_aload_n dX8_feed_13 rfl (lv_at hl 0 rfl) ?_
      refine v_getR 8 3 h (by decide) rfl qfX8_35 dX8_feed_14 (fun r1 h => ?_)
      refine v_getI 7 3 h (by decide) (Or.inl rfl) qfX8_211 dX8_feed_17 (fun v2 h => ?_)
      refine v_bipush (60 : Int32) dX8_feed_20 (by decide) ?_
      refine v_icmp_lt 28 dX8_feed_22 (by decide) h (fun h => ?_) (fun h => ?_)
      · refine v_aload_n dX8_feed_28 rfl (lv_at hl 0 rfl) ?_
        refine v_getR 8 3 h (by decide) rfl qfX8_35 dX8_feed_29 (fun r3 h => ?_)
        refine v_getR 7 2 h (by decide) rfl qfX8_214 dX8_feed_32 (fun r4 h => ?_)
        refine v_aload_n dX8_feed_35 rfl (lv_at hl 0 rfl) ?_
        refine v_getR 8 3 h (by decide) rfl qfX8_35 dX8_feed_36 (fun r5 h => ?_)
        refine v_getI 7 3 h (by decide) (Or.inl rfl) qfX8_211 dX8_feed_39 (fun v6 h => ?_)
        refine v_iload_n dX8_feed_42 rfl (lv_at hl 1 rfl) ?_
        refine v_iast dX8_feed_43 h (fun s h => ?_)
        refine v_aload_n dX8_feed_44 rfl (lv_at hl 0 rfl) ?_
        refine v_getR 8 3 h (by decide) rfl qfX8_35 dX8_feed_45 (fun r7 h => ?_)
        refine v_dup dX8_feed_48 rfl ?_
        refine v_getI 7 3 h (by decide) (Or.inl rfl) qfX8_211 dX8_feed_49 (fun v8 h => ?_)
        refine v_iconst (1 : Int32) dX8_feed_52 (by decide) ?_
        refine v_iadd dX8_feed_53 ?_
        refine v_putI 7 3 h (by decide) rfl (Or.inl rfl) qfX8_211 dX8_feed_54 (fun s h => ?_)
        refine v_aload_n dX8_feed_57 rfl (lv_at hl 0 rfl) ?_
        refine v_getR 8 3 h (by decide) rfl qfX8_35 dX8_feed_58 (fun r9 h => ?_)
        refine v_getI 7 3 h (by decide) (Or.inl rfl) qfX8_211 dX8_feed_61 (fun v10 h => ?_)
        exact v_iret dX8_feed_64 h
      · refine v_bipush (-4 : Int32) dX8_feed_25 (by decide) ?_
        exact v_iret dX8_feed_27 h
    · exact L_X8_feed_10 N  s ls (lv_sub hl [] rfl) h
theorem k_X8_feed {X : VX} {cc : ByteArray} {own : String} {nL fr lo : Nat} {ini : Bool} {E : VX → Prop} {sF s : vS} {ρ : Type} {res : ρ} {pc : Nat} {ls : Array Slot} {rest : List Value} {N index : Nat} {a0 : Nat} {l1 : Int32} {f : Int32 → vS → Option ρ} (h : bnd (F_X8_feed N a0 l1 s) f = some res) (hlink : Cond.methodLink own index yX8_feed ∈ TT) (hR : 0 + 1 ≤ fr ∧ 8 + (2 + 11) + 0 ≤ lo) (hls : ls.size = nL) (hr : (rest.map fun v => v.category).sum ≤ 8) (hdg : decode cc pc = .ok (.invokevirtual index, 3)) (kk : ∀ r s', f r s' = some res → V X (cc, own, nL, fr, lo, ini) E sF s' (G0 X (pc + 3) ls (.int r :: rest))) : V X (cc, own, nL, fr, lo, ini) E sF s (G0 X pc ls (.int l1 :: .ref (xb X + a0) :: rest)) := by
  obtain ⟨r, s', e, h⟩ := bnd_some h
  exact v_callV (b := a0) (ci := 8) (As := [.int l1]) (rest := rest) (c_X8_feed X N a0 l1 s s' r e).2 (c_X8_feed (l := xl X) (D := xD X) (ka := xka X) X N a0 l1 s s' r e).1 rfl vl_X8_feed qi_X8_feed qe_X8_feed hlink hR rfl rfl hls hr hdg (kk r s' h)
set_option maxHeartbeats 4000000 in
set_option maxRecDepth 100000 in
theorem L_X8_isStore_14 {X : VX} {sF : vS} {r : Int32} (N : Nat) (k0 : Int32) (s : vS) (ls : Array Slot) (hl : lv_has ls 1 []) (h : J_X8_isStore_14 N k0 s = some (r, sF)) : V X (cX8_isStore, RX8, 1, 0, 0, false) (vRet sF (some (.int r)) (some .boolean)) sF s (G0 X 14 ls [.int k0]) := by
  unfold J_X8_isStore_14 at h
  exact v_zret dX8_isStore_14 h
set_option maxHeartbeats 4000000 in
set_option maxRecDepth 100000 in
theorem L_X8_isStore_13 {X : VX} {sF : vS} {r : Int32} (N : Nat) (s : vS) (ls : Array Slot) (hl : lv_has ls 1 []) (h : J_X8_isStore_13 N  s = some (r, sF)) : V X (cX8_isStore, RX8, 1, 0, 0, false) (vRet sF (some (.int r)) (some .boolean)) sF s (G0 X 13 ls []) := by
  unfold J_X8_isStore_13 at h
  refine v_iconst (0 : Int32) dX8_isStore_13 (by decide) ?_
  exact L_X8_isStore_14 N (0 : Int32) s ls (lv_sub hl [] rfl) h
theorem vl_X8_isStore : vCl yX8_isStore cX8_isStore 1 (some .boolean) 1 := ⟨qy_X8_isStore, qjX8, by decide +kernel, by decide +kernel, by decide +kernel⟩
set_option maxHeartbeats 4000000 in
set_option maxRecDepth 100000 in
theorem c_X8_isStore {l : Launch} {D : va_G} {ka : Nat → ClassId} (X0 : VX) (N : Nat) (l0 : Int32) (s sF : vS) (r : Int32) (h : F_X8_isStore N l0 s = some (r, sF)) : vMet l D ka (xb X0) yX8_isStore cX8_isStore 1 (some .boolean) 0 0 [.int l0] s sF (some (.int r)) := by
  unfold F_X8_isStore at h
  refine vMet.of (ini := false) X0 (plainFor_of_name (by decide +kernel)) (Nat.le_of_ble_eq_true rfl) (fun h => by cases h) (fun X ls hb hl => ?_) rfl
  show V X (cX8_isStore, RX8, 1, 0, 0, false) (vRet sF (some (.int r)) (some .boolean)) sF s (G0 X 0 ls [])
  have hl : lv_has ls 1 [(0, .int l0)] := hl
  refine v_iload_n dX8_isStore_0 rfl (lv_at hl 0 rfl) ?_
  refine v_if_lt 13 dX8_isStore_1 (by decide) h (fun h => ?_) (fun h => ?_)
  · exact L_X8_isStore_13 N  s ls (lv_sub hl [] rfl) h
  · refine v_iload_n dX8_isStore_4 rfl (lv_at hl 0 rfl) ?_
    refine v_iconst (4 : Int32) dX8_isStore_5 (by decide) ?_
    refine v_icmp_ge 13 dX8_isStore_6 (by decide) h (fun h => ?_) (fun h => ?_)
    · exact L_X8_isStore_13 N  s ls (lv_sub hl [] rfl) h
    · refine v_iconst (1 : Int32) dX8_isStore_9 (by decide) ?_
      refine v_goto 14 dX8_isStore_10 (by decide) ?_
      exact L_X8_isStore_14 N (1 : Int32) s ls (lv_sub hl [] rfl) h
theorem k_X8_isStore {X : VX} {cc : ByteArray} {own : String} {nL fr lo : Nat} {ini : Bool} {E : VX → Prop} {sF s : vS} {ρ : Type} {res : ρ} {pc : Nat} {ls : Array Slot} {rest : List Value} {N index : Nat} {l0 : Int32} {f : Int32 → vS → Option ρ} (h : bnd (F_X8_isStore N l0 s) f = some res) (hlink : Cond.methodLink own index yX8_isStore ∈ TT) (hR : 0 + 1 ≤ fr ∧ 8 + (1 + 11) + 0 ≤ lo) (hls : ls.size = nL) (hr : (rest.map fun v => v.category).sum ≤ 8) (hdg : decode cc pc = .ok (.invokestatic index, 3)) (kk : ∀ r s', f r s' = some res → V X (cc, own, nL, fr, lo, ini) E sF s' (G0 X (pc + 3) ls (.int r :: rest))) : V X (cc, own, nL, fr, lo, ini) E sF s (G0 X pc ls (.int l0 :: rest)) := by
  obtain ⟨r, s', e, h⟩ := bnd_some h
  exact v_callS (As := [.int l0]) (rest := rest) (c_X8_isStore X N l0 s s' r e) vl_X8_isStore qs_X8_isStore hlink hR rfl rfl hls hr hdg (kk r s' h)
set_option maxHeartbeats 4000000 in
set_option maxRecDepth 100000 in
theorem L_X8_read_33 {X : VX} {sF : vS} {r : Int32} (N : Nat) (a0 : Nat) (l1 : Int32) (l2 : Int32) (s : vS) (ls : Array Slot) (hl : lv_has ls 3 [(0, .ref (xb X + a0)), (1, .int l1), (2, .int l2)]) (h : J_X8_read_33 N a0 l1 l2 s = some (r, sF)) : V X (cX8_read, RX8, 3, 6, 172, false) (vRet sF (some (.int r)) (some .int)) sF s (G0 X 33 ls []) := by
  unfold J_X8_read_33 at h
  refine v_aload_n dX8_read_33 rfl (lv_at hl 0 rfl) ?_
  refine v_getR 8 3 h (by decide) rfl qfX8_35 dX8_read_34 (fun r7 h => ?_)
  refine v_iconst (0 : Int32) dX8_read_37 (by decide) ?_
  refine v_putI 7 3 h (by decide) rfl (Or.inl rfl) qfX8_211 dX8_read_38 (fun s h => ?_)
  refine v_iload_n dX8_read_41 rfl (lv_at hl 2 rfl) ?_
  refine v_if_eq 47 dX8_read_42 (by decide) h (fun h => ?_) (fun h => ?_)
  · refine v_aload_n dX8_read_47 rfl (lv_at hl 0 rfl) ?_
    refine v_getR 8 8 h (by decide) rfl qfX8_72 dX8_read_48 (fun r8 h => ?_)
    refine v_iload_n dX8_read_51 rfl (lv_at hl 1 rfl) ?_
    refine v_aload_n dX8_read_52 rfl (lv_at hl 0 rfl) ?_
    refine v_getR 8 4 h (by decide) rfl qfX8_44 dX8_read_53 (fun r9 h => ?_)
    refine k_X4_outcome h qmX8_227 (by decide) hl.1 (Nat.le_of_ble_eq_true rfl) dX8_read_56 (fun r10 s h => ?_)
    refine k_X5_put h qmX8_231 (by decide) hl.1 (Nat.le_of_ble_eq_true rfl) dX8_read_59 (fun v11 s h => ?_)
    exact v_iret dX8_read_62 h
  · refine v_iload_n dX8_read_45 rfl (lv_at hl 2 rfl) ?_
    exact v_iret dX8_read_46 h
theorem vl_X8_read : vCl yX8_read cX8_read 3 (some .int) 1 := ⟨qy_X8_read, qjX8, by decide +kernel, by decide +kernel, by decide +kernel⟩
set_option maxHeartbeats 4000000 in
set_option maxRecDepth 100000 in
theorem c_X8_read {l : Launch} {D : va_G} {ka : Nat → ClassId} (X0 : VX) (N : Nat) (a0 : Nat) (l1 : Int32) (s sF : vS) (r : Int32) (h : F_X8_read N a0 l1 s = some (r, sF)) : isO s a0 8 = true ∧ vMet l D ka (xb X0) yX8_read cX8_read 3 (some .int) 6 172 [.ref (xb X0 + a0), .int l1] s sF (some (.int r)) := by
  unfold F_X8_read at h
  unfold rcv at h
  obtain ⟨hO, h⟩ := v_chk h
  refine ⟨hO, vMet.of (ini := false) X0 (plainFor_of_name (by decide +kernel)) (Nat.le_of_ble_eq_true rfl) (fun h => by cases h) (fun X ls hb hl => ?_) rfl⟩
  show V X (cX8_read, RX8, 3, 6, 172, false) (vRet sF (some (.int r)) (some .int)) sF s (G0 X 0 ls [])
  rw [← hb] at hl
  have hl : lv_has ls 3 [(0, .ref (xb X + a0)), (1, .int l1)] := hl
  refine v_iload_n dX8_read_0 rfl (lv_at hl 1 rfl) ?_
  refine k_X8_isStore h qmX8_217 (by decide) hl.1 (Nat.le_of_ble_eq_true rfl) dX8_read_1 (fun v1 s h => ?_)
  refine v_if_ne 9 dX8_read_4 (by decide) h (fun h => ?_) (fun h => ?_)
  · refine v_aload_n dX8_read_9 rfl (lv_at hl 0 rfl) ?_
    refine v_getR 8 3 h (by decide) rfl qfX8_35 dX8_read_10 (fun r2 h => ?_)
    refine k_X7_takeApart h qmX8_220 (by decide) hl.1 (Nat.le_of_ble_eq_true rfl) dX8_read_13 (fun v3 s h => ?_)
    refine v_istore_n [(2, .int v3), (0, .ref (xb X + a0)), (1, .int l1)] dX8_read_16 rfl hl (by decide) rfl (fun ls hl => ?_)
    refine v_iload_n dX8_read_17 rfl (lv_at hl 0 rfl) ?_
    refine v_if_ne 33 dX8_read_18 (by decide) h (fun h => ?_) (fun h => ?_)
    · exact L_X8_read_33 N a0 l1 v3 s ls (lv_sub hl [1, 2, 0] rfl) h
    · refine v_aload_n dX8_read_21 rfl (lv_at hl 1 rfl) ?_
      refine v_getR 8 4 h (by decide) rfl qfX8_44 dX8_read_22 (fun r4 h => ?_)
      refine v_aload_n dX8_read_25 rfl (lv_at hl 1 rfl) ?_
      refine v_getR 8 3 h (by decide) rfl qfX8_35 dX8_read_26 (fun r5 h => ?_)
      refine k_X4_workOut h qmX8_223 (by decide) hl.1 (Nat.le_of_ble_eq_true rfl) dX8_read_29 (fun v6 s h => ?_)
      refine v_istore_n [(2, .int v6), (0, .ref (xb X + a0)), (1, .int l1)] dX8_read_32 rfl hl (by decide) rfl (fun ls hl => ?_)
      exact L_X8_read_33 N a0 l1 v6 s ls (lv_sub hl [1, 2, 0] rfl) h
  · refine v_iconst (-1 : Int32) dX8_read_7 (by decide) ?_
    exact v_iret dX8_read_8 h
theorem k_X8_read {X : VX} {cc : ByteArray} {own : String} {nL fr lo : Nat} {ini : Bool} {E : VX → Prop} {sF s : vS} {ρ : Type} {res : ρ} {pc : Nat} {ls : Array Slot} {rest : List Value} {N index : Nat} {a0 : Nat} {l1 : Int32} {f : Int32 → vS → Option ρ} (h : bnd (F_X8_read N a0 l1 s) f = some res) (hlink : Cond.methodLink own index yX8_read ∈ TT) (hR : 6 + 1 ≤ fr ∧ 8 + (3 + 11) + 172 ≤ lo) (hls : ls.size = nL) (hr : (rest.map fun v => v.category).sum ≤ 8) (hdg : decode cc pc = .ok (.invokevirtual index, 3)) (kk : ∀ r s', f r s' = some res → V X (cc, own, nL, fr, lo, ini) E sF s' (G0 X (pc + 3) ls (.int r :: rest))) : V X (cc, own, nL, fr, lo, ini) E sF s (G0 X pc ls (.int l1 :: .ref (xb X + a0) :: rest)) := by
  obtain ⟨r, s', e, h⟩ := bnd_some h
  exact v_callV (b := a0) (ci := 8) (As := [.int l1]) (rest := rest) (c_X8_read X N a0 l1 s s' r e).2 (c_X8_read (l := xl X) (D := xD X) (ka := xka X) X N a0 l1 s s' r e).1 rfl vl_X8_read qi_X8_read qe_X8_read hlink hR rfl rfl hls hr hdg (kk r s' h)
theorem vl_X8_clear : vCl yX8_clear cX8_clear 3 (some .int) 1 := ⟨qy_X8_clear, qjX8, by decide +kernel, by decide +kernel, by decide +kernel⟩
set_option maxHeartbeats 4000000 in
set_option maxRecDepth 100000 in
theorem c_X8_clear {l : Launch} {D : va_G} {ka : Nat → ClassId} (X0 : VX) (N : Nat) (a0 : Nat) (l1 : Int32) (s sF : vS) (r : Int32) (h : F_X8_clear N a0 l1 s = some (r, sF)) : isO s a0 8 = true ∧ vMet l D ka (xb X0) yX8_clear cX8_clear 3 (some .int) 2 42 [.ref (xb X0 + a0), .int l1] s sF (some (.int r)) := by
  unfold F_X8_clear at h
  unfold rcv at h
  obtain ⟨hO, h⟩ := v_chk h
  refine ⟨hO, vMet.of (ini := false) X0 (plainFor_of_name (by decide +kernel)) (Nat.le_of_ble_eq_true rfl) (fun h => by cases h) (fun X ls hb hl => ?_) rfl⟩
  show V X (cX8_clear, RX8, 3, 2, 42, false) (vRet sF (some (.int r)) (some .int)) sF s (G0 X 0 ls [])
  rw [← hb] at hl
  have hl : lv_has ls 3 [(0, .ref (xb X + a0)), (1, .int l1)] := hl
  refine v_iload_n dX8_clear_0 rfl (lv_at hl 1 rfl) ?_
  refine k_X8_isStore h qmX8_217 (by decide) hl.1 (Nat.le_of_ble_eq_true rfl) dX8_clear_1 (fun v1 s h => ?_)
  refine v_if_ne 9 dX8_clear_4 (by decide) h (fun h => ?_) (fun h => ?_)
  · refine v_aload_n dX8_clear_9 rfl (lv_at hl 0 rfl) ?_
    refine v_getR 8 8 h (by decide) rfl qfX8_72 dX8_clear_10 (fun r2 h => ?_)
    refine v_getR 5 1 h (by decide) rfl qfX8_235 dX8_clear_13 (fun r3 h => ?_)
    refine v_iload_n dX8_clear_16 rfl (lv_at hl 1 rfl) ?_
    refine v_aald 5 dX8_clear_17 h (fun r4 h => ?_)
    refine k_X6_terms h qmX8_239 (by decide) hl.1 (Nat.le_of_ble_eq_true rfl) dX8_clear_18 (fun v5 s h => ?_)
    refine v_istore_n [(2, .int v5), (0, .ref (xb X + a0)), (1, .int l1)] dX8_clear_21 rfl hl (by decide) rfl (fun ls hl => ?_)
    refine v_aload_n dX8_clear_22 rfl (lv_at hl 1 rfl) ?_
    refine v_getR 8 8 h (by decide) rfl qfX8_72 dX8_clear_23 (fun r6 h => ?_)
    refine v_iload_n dX8_clear_26 rfl (lv_at hl 2 rfl) ?_
    refine k_X5_drop h qmX8_242 (by decide) hl.1 (Nat.le_of_ble_eq_true rfl) dX8_clear_27 (fun v7 s h => ?_)
    refine v_iload_n dX8_clear_30 rfl (lv_at hl 0 rfl) ?_
    exact v_iret dX8_clear_31 h
  · refine v_iconst (-1 : Int32) dX8_clear_7 (by decide) ?_
    exact v_iret dX8_clear_8 h
theorem k_X8_clear {X : VX} {cc : ByteArray} {own : String} {nL fr lo : Nat} {ini : Bool} {E : VX → Prop} {sF s : vS} {ρ : Type} {res : ρ} {pc : Nat} {ls : Array Slot} {rest : List Value} {N index : Nat} {a0 : Nat} {l1 : Int32} {f : Int32 → vS → Option ρ} (h : bnd (F_X8_clear N a0 l1 s) f = some res) (hlink : Cond.methodLink own index yX8_clear ∈ TT) (hR : 2 + 1 ≤ fr ∧ 8 + (3 + 11) + 42 ≤ lo) (hls : ls.size = nL) (hr : (rest.map fun v => v.category).sum ≤ 8) (hdg : decode cc pc = .ok (.invokevirtual index, 3)) (kk : ∀ r s', f r s' = some res → V X (cc, own, nL, fr, lo, ini) E sF s' (G0 X (pc + 3) ls (.int r :: rest))) : V X (cc, own, nL, fr, lo, ini) E sF s (G0 X pc ls (.int l1 :: .ref (xb X + a0) :: rest)) := by
  obtain ⟨r, s', e, h⟩ := bnd_some h
  exact v_callV (b := a0) (ci := 8) (As := [.int l1]) (rest := rest) (c_X8_clear X N a0 l1 s s' r e).2 (c_X8_clear (l := xl X) (D := xD X) (ka := xka X) X N a0 l1 s s' r e).1 rfl vl_X8_clear qi_X8_clear qe_X8_clear hlink hR rfl rfl hls hr hdg (kk r s' h)
set_option maxHeartbeats 4000000 in
set_option maxRecDepth 100000 in
theorem L_X8_sum_95 {X : VX} {sF : vS} {r : Int32} (N : Nat) (k0 : Int32) (s : vS) (ls : Array Slot) (hl : lv_has ls 4 []) (h : J_X8_sum_95 N k0 s = some (r, sF)) : V X (cX8_sum, RX8, 4, 2, 46, false) (vRet sF (some (.int r)) (some .int)) sF s (G0 X 95 ls [.int k0]) := by
  unfold J_X8_sum_95 at h
  exact v_iret dX8_sum_95 h
set_option maxHeartbeats 4000000 in
set_option maxRecDepth 100000 in
theorem L_X8_sum_70 {X : VX} {sF : vS} {r : Int32} (N : Nat) (k0 : Int32) (s : vS) (ls : Array Slot) (hl : lv_has ls 4 []) (h : J_X8_sum_70 N k0 s = some (r, sF)) : V X (cX8_sum, RX8, 4, 2, 46, false) (vRet sF (some (.int r)) (some .int)) sF s (G0 X 70 ls [.int k0]) := by
  unfold J_X8_sum_70 at h
  exact v_iret dX8_sum_70 h
set_option maxHeartbeats 4000000 in
set_option maxRecDepth 100000 in
theorem L_X8_sum_16 {X : VX} {sF : vS} {r : Int32} (N : Nat) (s : vS) (ls : Array Slot) (hl : lv_has ls 4 []) (h : J_X8_sum_16 N  s = some (r, sF)) : V X (cX8_sum, RX8, 4, 2, 46, false) (vRet sF (some (.int r)) (some .int)) sF s (G0 X 16 ls []) := by
  unfold J_X8_sum_16 at h
  refine v_iconst (-1 : Int32) dX8_sum_16 (by decide) ?_
  exact v_iret dX8_sum_17 h
theorem vl_X8_sum : vCl yX8_sum cX8_sum 4 (some .int) 2 := ⟨qy_X8_sum, qjX8, by decide +kernel, by decide +kernel, by decide +kernel⟩
set_option maxHeartbeats 4000000 in
set_option maxRecDepth 100000 in
theorem c_X8_sum {l : Launch} {D : va_G} {ka : Nat → ClassId} (X0 : VX) (N : Nat) (a0 : Nat) (l1 : Int32) (l2 : Int32) (s sF : vS) (r : Int32) (h : F_X8_sum N a0 l1 l2 s = some (r, sF)) : isO s a0 8 = true ∧ vMet l D ka (xb X0) yX8_sum cX8_sum 4 (some .int) 2 46 [.ref (xb X0 + a0), .int l1, .int l2] s sF (some (.int r)) := by
  unfold F_X8_sum at h
  unfold rcv at h
  obtain ⟨hO, h⟩ := v_chk h
  refine ⟨hO, vMet.of (ini := false) X0 (plainFor_of_name (by decide +kernel)) (Nat.le_of_ble_eq_true rfl) (fun h => by cases h) (fun X ls hb hl => ?_) rfl⟩
  show V X (cX8_sum, RX8, 4, 2, 46, false) (vRet sF (some (.int r)) (some .int)) sF s (G0 X 0 ls [])
  rw [← hb] at hl
  have hl : lv_has ls 4 [(0, .ref (xb X + a0)), (1, .int l1), (2, .int l2)] := hl
  refine v_iload_n dX8_sum_0 rfl (lv_at hl 1 rfl) ?_
  refine k_X8_isStore h qmX8_217 (by decide) hl.1 (Nat.le_of_ble_eq_true rfl) dX8_sum_1 (fun v1 s h => ?_)
  refine v_if_eq 16 dX8_sum_4 (by decide) h (fun h => ?_) (fun h => ?_)
  · exact L_X8_sum_16 N  s ls (lv_sub hl [] rfl) h
  · refine v_iload_n dX8_sum_7 rfl (lv_at hl 2 rfl) ?_
    refine v_if_lt 16 dX8_sum_8 (by decide) h (fun h => ?_) (fun h => ?_)
    · exact L_X8_sum_16 N  s ls (lv_sub hl [] rfl) h
    · refine v_iload_n dX8_sum_11 rfl (lv_at hl 2 rfl) ?_
      refine v_iconst (2 : Int32) dX8_sum_12 (by decide) ?_
      refine v_icmp_le 18 dX8_sum_13 (by decide) h (fun h => ?_) (fun h => ?_)
      · refine v_aload_n dX8_sum_18 rfl (lv_at hl 0 rfl) ?_
        refine v_getR 8 8 h (by decide) rfl qfX8_72 dX8_sum_19 (fun r2 h => ?_)
        refine v_getR 5 0 h (by decide) rfl qfX8_245 dX8_sum_22 (fun r3 h => ?_)
        refine v_iload_n dX8_sum_25 rfl (lv_at hl 1 rfl) ?_
        refine v_zald dX8_sum_26 h (fun v4 h => ?_)
        refine v_if_ne 33 dX8_sum_27 (by decide) h (fun h => ?_) (fun h => ?_)
        · refine v_aload_n dX8_sum_33 rfl (lv_at hl 0 rfl) ?_
          refine v_getR 8 8 h (by decide) rfl qfX8_72 dX8_sum_34 (fun r5 h => ?_)
          refine v_getR 5 1 h (by decide) rfl qfX8_235 dX8_sum_37 (fun r6 h => ?_)
          refine v_iload_n dX8_sum_40 rfl (lv_at hl 1 rfl) ?_
          refine v_aald 5 dX8_sum_41 h (fun r7 h => ?_)
          refine v_astore_n [(3, .ref (xb X + r7)), (0, .ref (xb X + a0)), (1, .int l1), (2, .int l2)] dX8_sum_42 rfl hl (by decide) rfl (fun ls hl => ?_)
          refine v_iload_n dX8_sum_43 rfl (lv_at hl 3 rfl) ?_
          refine v_if_ne 52 dX8_sum_44 (by decide) h (fun h => ?_) (fun h => ?_)
          · refine v_iload_n dX8_sum_52 rfl (lv_at hl 3 rfl) ?_
            refine v_iconst (1 : Int32) dX8_sum_53 (by decide) ?_
            refine v_icmp_ne 71 dX8_sum_54 (by decide) h (fun h => ?_) (fun h => ?_)
            · refine v_aload_n dX8_sum_71 rfl (lv_at hl 0 rfl) ?_
              refine k_X6_terms h qmX8_239 (by decide) hl.1 (Nat.le_of_ble_eq_true rfl) dX8_sum_72 (fun v8 s h => ?_)
              refine v_if_ne 83 dX8_sum_75 (by decide) h (fun h => ?_) (fun h => ?_)
              · refine v_aload_n dX8_sum_83 rfl (lv_at hl 1 rfl) ?_
                refine v_getR 8 2 h (by decide) rfl qfX8_28 dX8_sum_84 (fun r9 h => ?_)
                refine v_aload_n dX8_sum_87 rfl (lv_at hl 0 rfl) ?_
                refine v_aload_n dX8_sum_88 rfl (lv_at hl 0 rfl) ?_
                refine v_getI 6 0 h (by decide) (Or.inl rfl) qfX8_249 dX8_sum_89 (fun v10 h => ?_)
                refine k_X0_greatestSize h qmX8_252 (by decide) hl.1 (Nat.le_of_ble_eq_true rfl) dX8_sum_92 (fun v11 s h => ?_)
                exact L_X8_sum_95 N v11 s ls (lv_sub hl [] rfl) h
              · refine v_bipush (-5 : Int32) dX8_sum_78 (by decide) ?_
                refine v_goto 95 dX8_sum_80 (by decide) ?_
                exact L_X8_sum_95 N (-5 : Int32) s ls (lv_sub hl [] rfl) h
            · refine v_aload_n dX8_sum_57 rfl (lv_at hl 0 rfl) ?_
              refine v_getI 6 0 h (by decide) (Or.inl rfl) qfX8_249 dX8_sum_58 (fun v12 h => ?_)
              refine v_iconst (2 : Int32) dX8_sum_61 (by decide) ?_
              refine v_icmp_ne 69 dX8_sum_62 (by decide) h (fun h => ?_) (fun h => ?_)
              · refine v_iconst (0 : Int32) dX8_sum_69 (by decide) ?_
                exact L_X8_sum_70 N (0 : Int32) s ls (lv_sub hl [] rfl) h
              · refine v_iconst (1 : Int32) dX8_sum_65 (by decide) ?_
                refine v_goto 70 dX8_sum_66 (by decide) ?_
                exact L_X8_sum_70 N (1 : Int32) s ls (lv_sub hl [] rfl) h
          · refine v_aload_n dX8_sum_47 rfl (lv_at hl 0 rfl) ?_
            refine k_X6_terms h qmX8_239 (by decide) hl.1 (Nat.le_of_ble_eq_true rfl) dX8_sum_48 (fun v13 s h => ?_)
            exact v_iret dX8_sum_51 h
        · refine v_bipush (-3 : Int32) dX8_sum_30 (by decide) ?_
          exact v_iret dX8_sum_32 h
      · exact L_X8_sum_16 N  s ls (lv_sub hl [] rfl) h
theorem k_X8_sum {X : VX} {cc : ByteArray} {own : String} {nL fr lo : Nat} {ini : Bool} {E : VX → Prop} {sF s : vS} {ρ : Type} {res : ρ} {pc : Nat} {ls : Array Slot} {rest : List Value} {N index : Nat} {a0 : Nat} {l1 : Int32} {l2 : Int32} {f : Int32 → vS → Option ρ} (h : bnd (F_X8_sum N a0 l1 l2 s) f = some res) (hlink : Cond.methodLink own index yX8_sum ∈ TT) (hR : 2 + 1 ≤ fr ∧ 8 + (4 + 11) + 46 ≤ lo) (hls : ls.size = nL) (hr : (rest.map fun v => v.category).sum ≤ 8) (hdg : decode cc pc = .ok (.invokevirtual index, 3)) (kk : ∀ r s', f r s' = some res → V X (cc, own, nL, fr, lo, ini) E sF s' (G0 X (pc + 3) ls (.int r :: rest))) : V X (cc, own, nL, fr, lo, ini) E sF s (G0 X pc ls (.int l2 :: .int l1 :: .ref (xb X + a0) :: rest)) := by
  obtain ⟨r, s', e, h⟩ := bnd_some h
  exact v_callV (b := a0) (ci := 8) (As := [.int l1, .int l2]) (rest := rest) (c_X8_sum X N a0 l1 l2 s s' r e).2 (c_X8_sum (l := xl X) (D := xD X) (ka := xka X) X N a0 l1 l2 s s' r e).1 rfl vl_X8_sum qi_X8_sum qe_X8_sum hlink hR rfl rfl hls hr hdg (kk r s' h)
set_option maxHeartbeats 4000000 in
set_option maxRecDepth 100000 in
theorem L_X8_term_43 {X : VX} {sF : vS} {r : Int32} (N : Nat) (k0 : Int32) (s : vS) (ls : Array Slot) (hl : lv_has ls 3 []) (h : J_X8_term_43 N k0 s = some (r, sF)) : V X (cX8_term, RX8, 3, 1, 23, false) (vRet sF (some (.int r)) (some .int)) sF s (G0 X 43 ls [.int k0]) := by
  unfold J_X8_term_43 at h
  exact v_iret dX8_term_43 h
set_option maxHeartbeats 4000000 in
set_option maxRecDepth 100000 in
theorem L_X8_term_11 {X : VX} {sF : vS} {r : Int32} (N : Nat) (s : vS) (ls : Array Slot) (hl : lv_has ls 3 []) (h : J_X8_term_11 N  s = some (r, sF)) : V X (cX8_term, RX8, 3, 1, 23, false) (vRet sF (some (.int r)) (some .int)) sF s (G0 X 11 ls []) := by
  unfold J_X8_term_11 at h
  refine v_iconst (-1 : Int32) dX8_term_11 (by decide) ?_
  exact v_iret dX8_term_12 h
theorem vl_X8_term : vCl yX8_term cX8_term 3 (some .int) 2 := ⟨qy_X8_term, qjX8, by decide +kernel, by decide +kernel, by decide +kernel⟩
set_option maxHeartbeats 4000000 in
set_option maxRecDepth 100000 in
theorem c_X8_term {l : Launch} {D : va_G} {ka : Nat → ClassId} (X0 : VX) (N : Nat) (a0 : Nat) (l1 : Int32) (l2 : Int32) (s sF : vS) (r : Int32) (h : F_X8_term N a0 l1 l2 s = some (r, sF)) : isO s a0 8 = true ∧ vMet l D ka (xb X0) yX8_term cX8_term 3 (some .int) 1 23 [.ref (xb X0 + a0), .int l1, .int l2] s sF (some (.int r)) := by
  unfold F_X8_term at h
  unfold rcv at h
  obtain ⟨hO, h⟩ := v_chk h
  refine ⟨hO, vMet.of (ini := false) X0 (plainFor_of_name (by decide +kernel)) (Nat.le_of_ble_eq_true rfl) (fun h => by cases h) (fun X ls hb hl => ?_) rfl⟩
  show V X (cX8_term, RX8, 3, 1, 23, false) (vRet sF (some (.int r)) (some .int)) sF s (G0 X 0 ls [])
  rw [← hb] at hl
  have hl : lv_has ls 3 [(0, .ref (xb X + a0)), (1, .int l1), (2, .int l2)] := hl
  refine v_iload_n dX8_term_0 rfl (lv_at hl 1 rfl) ?_
  refine k_X8_isStore h qmX8_217 (by decide) hl.1 (Nat.le_of_ble_eq_true rfl) dX8_term_1 (fun v1 s h => ?_)
  refine v_if_eq 11 dX8_term_4 (by decide) h (fun h => ?_) (fun h => ?_)
  · exact L_X8_term_11 N  s ls (lv_sub hl [] rfl) h
  · refine v_iload_n dX8_term_7 rfl (lv_at hl 2 rfl) ?_
    refine v_if_ge 13 dX8_term_8 (by decide) h (fun h => ?_) (fun h => ?_)
    · refine v_aload_n dX8_term_13 rfl (lv_at hl 0 rfl) ?_
      refine v_getR 8 8 h (by decide) rfl qfX8_72 dX8_term_14 (fun r2 h => ?_)
      refine v_getR 5 0 h (by decide) rfl qfX8_245 dX8_term_17 (fun r3 h => ?_)
      refine v_iload_n dX8_term_20 rfl (lv_at hl 1 rfl) ?_
      refine v_zald dX8_term_21 h (fun v4 h => ?_)
      refine v_if_eq 41 dX8_term_22 (by decide) h (fun h => ?_) (fun h => ?_)
      · refine v_bipush (-3 : Int32) dX8_term_41 (by decide) ?_
        exact L_X8_term_43 N (-3 : Int32) s ls (lv_sub hl [] rfl) h
      · refine v_aload_n dX8_term_25 rfl (lv_at hl 0 rfl) ?_
        refine v_getR 8 8 h (by decide) rfl qfX8_72 dX8_term_26 (fun r5 h => ?_)
        refine v_getR 5 1 h (by decide) rfl qfX8_235 dX8_term_29 (fun r6 h => ?_)
        refine v_iload_n dX8_term_32 rfl (lv_at hl 1 rfl) ?_
        refine v_aald 5 dX8_term_33 h (fun r7 h => ?_)
        refine v_iload_n dX8_term_34 rfl (lv_at hl 2 rfl) ?_
        refine k_X6_numberOfTerm h qmX8_256 (by decide) hl.1 (Nat.le_of_ble_eq_true rfl) dX8_term_35 (fun v8 s h => ?_)
        refine v_goto 43 dX8_term_38 (by decide) ?_
        exact L_X8_term_43 N v8 s ls (lv_sub hl [] rfl) h
    · exact L_X8_term_11 N  s ls (lv_sub hl [] rfl) h
theorem k_X8_term {X : VX} {cc : ByteArray} {own : String} {nL fr lo : Nat} {ini : Bool} {E : VX → Prop} {sF s : vS} {ρ : Type} {res : ρ} {pc : Nat} {ls : Array Slot} {rest : List Value} {N index : Nat} {a0 : Nat} {l1 : Int32} {l2 : Int32} {f : Int32 → vS → Option ρ} (h : bnd (F_X8_term N a0 l1 l2 s) f = some res) (hlink : Cond.methodLink own index yX8_term ∈ TT) (hR : 1 + 1 ≤ fr ∧ 8 + (3 + 11) + 23 ≤ lo) (hls : ls.size = nL) (hr : (rest.map fun v => v.category).sum ≤ 8) (hdg : decode cc pc = .ok (.invokevirtual index, 3)) (kk : ∀ r s', f r s' = some res → V X (cc, own, nL, fr, lo, ini) E sF s' (G0 X (pc + 3) ls (.int r :: rest))) : V X (cc, own, nL, fr, lo, ini) E sF s (G0 X pc ls (.int l2 :: .int l1 :: .ref (xb X + a0) :: rest)) := by
  obtain ⟨r, s', e, h⟩ := bnd_some h
  exact v_callV (b := a0) (ci := 8) (As := [.int l1, .int l2]) (rest := rest) (c_X8_term X N a0 l1 l2 s s' r e).2 (c_X8_term (l := xl X) (D := xD X) (ka := xka X) X N a0 l1 l2 s s' r e).1 rfl vl_X8_term qi_X8_term qe_X8_term hlink hR rfl rfl hls hr hdg (kk r s' h)
set_option maxHeartbeats 4000000 in
set_option maxRecDepth 100000 in
theorem L_X8_coefficient_82 {X : VX} {sF : vS} {r : Int64} (N : Nat) (k0 : Int64) (s : vS) (ls : Array Slot) (hl : lv_has ls 6 []) (h : J_X8_coefficient_82 N k0 s = some (r, sF)) : V X (cX8_coefficient, RX8, 6, 1, 23, false) (vRet sF (some (.long r)) (some .long)) sF s (G0 X 82 ls [.long k0]) := by
  unfold J_X8_coefficient_82 at h
  exact v_lret dX8_coefficient_82 h
set_option maxHeartbeats 4000000 in
set_option maxRecDepth 100000 in
theorem L_X8_coefficient_26 {X : VX} {sF : vS} {r : Int64} (N : Nat) (s : vS) (ls : Array Slot) (hl : lv_has ls 6 []) (h : J_X8_coefficient_26 N  s = some (r, sF)) : V X (cX8_coefficient, RX8, 6, 1, 23, false) (vRet sF (some (.long r)) (some .long)) sF s (G0 X 26 ls []) := by
  unfold J_X8_coefficient_26 at h
  refine v_ldc2 qkX8_143 dX8_coefficient_26 ?_
  exact v_lret dX8_coefficient_29 h
theorem vl_X8_coefficient : vCl yX8_coefficient cX8_coefficient 6 (some .long) 3 := ⟨qy_X8_coefficient, qjX8, by decide +kernel, by decide +kernel, by decide +kernel⟩
set_option maxHeartbeats 4000000 in
set_option maxRecDepth 100000 in
theorem c_X8_coefficient {l : Launch} {D : va_G} {ka : Nat → ClassId} (X0 : VX) (N : Nat) (a0 : Nat) (l1 : Int32) (l2 : Int32) (l3 : Int32) (s sF : vS) (r : Int64) (h : F_X8_coefficient N a0 l1 l2 l3 s = some (r, sF)) : isO s a0 8 = true ∧ vMet l D ka (xb X0) yX8_coefficient cX8_coefficient 6 (some .long) 1 23 [.ref (xb X0 + a0), .int l1, .int l2, .int l3] s sF (some (.long r)) := by
  unfold F_X8_coefficient at h
  unfold rcv at h
  obtain ⟨hO, h⟩ := v_chk h
  refine ⟨hO, vMet.of (ini := false) X0 (plainFor_of_name (by decide +kernel)) (Nat.le_of_ble_eq_true rfl) (fun h => by cases h) (fun X ls hb hl => ?_) rfl⟩
  show V X (cX8_coefficient, RX8, 6, 1, 23, false) (vRet sF (some (.long r)) (some .long)) sF s (G0 X 0 ls [])
  rw [← hb] at hl
  have hl : lv_has ls 6 [(0, .ref (xb X + a0)), (1, .int l1), (2, .int l2), (3, .int l3)] := hl
  refine v_iload_n dX8_coefficient_0 rfl (lv_at hl 1 rfl) ?_
  refine k_X8_isStore h qmX8_217 (by decide) hl.1 (Nat.le_of_ble_eq_true rfl) dX8_coefficient_1 (fun v1 s h => ?_)
  refine v_if_eq 26 dX8_coefficient_4 (by decide) h (fun h => ?_) (fun h => ?_)
  · exact L_X8_coefficient_26 N  s ls (lv_sub hl [] rfl) h
  · refine v_iload_n dX8_coefficient_7 rfl (lv_at hl 3 rfl) ?_
    refine k_X8_isPart h qmX8_136 (by decide) hl.1 (Nat.le_of_ble_eq_true rfl) dX8_coefficient_8 (fun v2 s h => ?_)
    refine v_if_eq 26 dX8_coefficient_11 (by decide) h (fun h => ?_) (fun h => ?_)
    · exact L_X8_coefficient_26 N  s ls (lv_sub hl [] rfl) h
    · refine v_aload_n dX8_coefficient_14 rfl (lv_at hl 0 rfl) ?_
      refine v_getR 8 8 h (by decide) rfl qfX8_72 dX8_coefficient_15 (fun r3 h => ?_)
      refine v_getR 5 0 h (by decide) rfl qfX8_245 dX8_coefficient_18 (fun r4 h => ?_)
      refine v_iload_n dX8_coefficient_21 rfl (lv_at hl 1 rfl) ?_
      refine v_zald dX8_coefficient_22 h (fun v5 h => ?_)
      refine v_if_ne 30 dX8_coefficient_23 (by decide) h (fun h => ?_) (fun h => ?_)
      · refine v_aload_n dX8_coefficient_30 rfl (lv_at hl 0 rfl) ?_
        refine v_getR 8 8 h (by decide) rfl qfX8_72 dX8_coefficient_31 (fun r6 h => ?_)
        refine v_getR 5 1 h (by decide) rfl qfX8_235 dX8_coefficient_34 (fun r7 h => ?_)
        refine v_iload_n dX8_coefficient_37 rfl (lv_at hl 1 rfl) ?_
        refine v_aald 5 dX8_coefficient_38 h (fun r8 h => ?_)
        refine v_astore [(4, .ref (xb X + r8)), (0, .ref (xb X + a0)), (1, .int l1), (2, .int l2), (3, .int l3)] dX8_coefficient_39 hl (by decide) rfl (fun ls hl => ?_)
        refine v_aload dX8_coefficient_41 (lv_at hl 0 rfl) ?_
        refine v_iload_n dX8_coefficient_43 rfl (lv_at hl 3 rfl) ?_
        refine k_X6_numberOfTerm h qmX8_256 (by decide) hl.1 (Nat.le_of_ble_eq_true rfl) dX8_coefficient_44 (fun v9 s h => ?_)
        refine v_istore [(5, .int v9), (4, .ref (xb X + r8)), (0, .ref (xb X + a0)), (1, .int l1), (2, .int l2), (3, .int l3)] dX8_coefficient_47 hl (by decide) rfl (fun ls hl => ?_)
        refine v_iload dX8_coefficient_49 (lv_at hl 0 rfl) ?_
        refine v_iconst (-1 : Int32) dX8_coefficient_51 (by decide) ?_
        refine v_icmp_ne 59 dX8_coefficient_52 (by decide) h (fun h => ?_) (fun h => ?_)
        · refine v_iload_n dX8_coefficient_59 rfl (lv_at hl 5 rfl) ?_
          refine v_if_ne 74 dX8_coefficient_60 (by decide) h (fun h => ?_) (fun h => ?_)
          · refine v_aload dX8_coefficient_74 (lv_at hl 1 rfl) ?_
            refine v_getR 6 2 h (by decide) rfl qfX8_263 dX8_coefficient_76 (fun r10 h => ?_)
            refine v_iload dX8_coefficient_79 (lv_at hl 0 rfl) ?_
            refine v_lald dX8_coefficient_81 h (fun v11 h => ?_)
            exact L_X8_coefficient_82 N v11 s ls (lv_sub hl [] rfl) h
          · refine v_aload dX8_coefficient_63 (lv_at hl 1 rfl) ?_
            refine v_getR 6 1 h (by decide) rfl qfX8_259 dX8_coefficient_65 (fun r12 h => ?_)
            refine v_iload dX8_coefficient_68 (lv_at hl 0 rfl) ?_
            refine v_lald dX8_coefficient_70 h (fun v13 h => ?_)
            refine v_goto 82 dX8_coefficient_71 (by decide) ?_
            exact L_X8_coefficient_82 N v13 s ls (lv_sub hl [] rfl) h
        · refine v_ldc2 qkX8_143 dX8_coefficient_55 ?_
          exact v_lret dX8_coefficient_58 h
      · exact L_X8_coefficient_26 N  s ls (lv_sub hl [] rfl) h
theorem k_X8_coefficient {X : VX} {cc : ByteArray} {own : String} {nL fr lo : Nat} {ini : Bool} {E : VX → Prop} {sF s : vS} {ρ : Type} {res : ρ} {pc : Nat} {ls : Array Slot} {rest : List Value} {N index : Nat} {a0 : Nat} {l1 : Int32} {l2 : Int32} {l3 : Int32} {f : Int64 → vS → Option ρ} (h : bnd (F_X8_coefficient N a0 l1 l2 l3 s) f = some res) (hlink : Cond.methodLink own index yX8_coefficient ∈ TT) (hR : 1 + 1 ≤ fr ∧ 8 + (6 + 11) + 23 ≤ lo) (hls : ls.size = nL) (hr : (rest.map fun v => v.category).sum ≤ 8) (hdg : decode cc pc = .ok (.invokevirtual index, 3)) (kk : ∀ r s', f r s' = some res → V X (cc, own, nL, fr, lo, ini) E sF s' (G0 X (pc + 3) ls (.long r :: rest))) : V X (cc, own, nL, fr, lo, ini) E sF s (G0 X pc ls (.int l3 :: .int l2 :: .int l1 :: .ref (xb X + a0) :: rest)) := by
  obtain ⟨r, s', e, h⟩ := bnd_some h
  exact v_callV (b := a0) (ci := 8) (As := [.int l1, .int l2, .int l3]) (rest := rest) (c_X8_coefficient X N a0 l1 l2 l3 s s' r e).2 (c_X8_coefficient (l := xl X) (D := xD X) (ka := xka X) X N a0 l1 l2 l3 s s' r e).1 rfl vl_X8_coefficient qi_X8_coefficient qe_X8_coefficient hlink hR rfl rfl hls hr hdg (kk r s' h)
set_option maxHeartbeats 4000000 in
set_option maxRecDepth 100000 in
theorem L_X8_makes_115 {X : VX} {sF : vS} {r : Int32} (N : Nat) (k0 : Int32) (s : vS) (ls : Array Slot) (hl : lv_has ls 6 []) (h : J_X8_makes_115 N k0 s = some (r, sF)) : V X (cX8_makes, RX8, 6, 5, 147, false) (vRet sF (some (.int r)) (some .int)) sF s (G0 X 115 ls [.int k0]) := by
  unfold J_X8_makes_115 at h
  exact v_iret dX8_makes_115 h
set_option maxHeartbeats 4000000 in
set_option maxRecDepth 100000 in
theorem L_X8_makes_57 {X : VX} {sF : vS} {r : Int32} (N : Nat) (s : vS) (ls : Array Slot) (hl : lv_has ls 6 []) (h : J_X8_makes_57 N  s = some (r, sF)) : V X (cX8_makes, RX8, 6, 5, 147, false) (vRet sF (some (.int r)) (some .int)) sF s (G0 X 57 ls []) := by
  unfold J_X8_makes_57 at h
  refine v_bipush (-3 : Int32) dX8_makes_57 (by decide) ?_
  exact v_iret dX8_makes_59 h
set_option maxHeartbeats 4000000 in
set_option maxRecDepth 100000 in
theorem L_X8_makes_31 {X : VX} {sF : vS} {r : Int32} (N : Nat) (s : vS) (ls : Array Slot) (hl : lv_has ls 6 []) (h : J_X8_makes_31 N  s = some (r, sF)) : V X (cX8_makes, RX8, 6, 5, 147, false) (vRet sF (some (.int r)) (some .int)) sF s (G0 X 31 ls []) := by
  unfold J_X8_makes_31 at h
  refine v_iconst (-1 : Int32) dX8_makes_31 (by decide) ?_
  exact v_iret dX8_makes_32 h
theorem vl_X8_makes : vCl yX8_makes cX8_makes 6 (some .int) 4 := ⟨qy_X8_makes, qjX8, by decide +kernel, by decide +kernel, by decide +kernel⟩
set_option maxHeartbeats 4000000 in
set_option maxRecDepth 100000 in
theorem c_X8_makes {l : Launch} {D : va_G} {ka : Nat → ClassId} (X0 : VX) (N : Nat) (a0 : Nat) (l1 : Int32) (l2 : Int32) (l3 : Int32) (l4 : Int32) (s sF : vS) (r : Int32) (h : F_X8_makes N a0 l1 l2 l3 l4 s = some (r, sF)) : isO s a0 8 = true ∧ vMet l D ka (xb X0) yX8_makes cX8_makes 6 (some .int) 5 147 [.ref (xb X0 + a0), .int l1, .int l2, .int l3, .int l4] s sF (some (.int r)) := by
  unfold F_X8_makes at h
  unfold rcv at h
  obtain ⟨hO, h⟩ := v_chk h
  refine ⟨hO, vMet.of (ini := false) X0 (plainFor_of_name (by decide +kernel)) (Nat.le_of_ble_eq_true rfl) (fun h => by cases h) (fun X ls hb hl => ?_) rfl⟩
  show V X (cX8_makes, RX8, 6, 5, 147, false) (vRet sF (some (.int r)) (some .int)) sF s (G0 X 0 ls [])
  rw [← hb] at hl
  have hl : lv_has ls 6 [(0, .ref (xb X + a0)), (1, .int l1), (2, .int l2), (3, .int l3), (4, .int l4)] := hl
  refine v_iload_n dX8_makes_0 rfl (lv_at hl 1 rfl) ?_
  refine k_X8_isStore h qmX8_217 (by decide) hl.1 (Nat.le_of_ble_eq_true rfl) dX8_makes_1 (fun v1 s h => ?_)
  refine v_if_eq 31 dX8_makes_4 (by decide) h (fun h => ?_) (fun h => ?_)
  · exact L_X8_makes_31 N  s ls (lv_sub hl [] rfl) h
  · refine v_iload_n dX8_makes_7 rfl (lv_at hl 2 rfl) ?_
    refine k_X8_isStore h qmX8_217 (by decide) hl.1 (Nat.le_of_ble_eq_true rfl) dX8_makes_8 (fun v2 s h => ?_)
    refine v_if_eq 31 dX8_makes_11 (by decide) h (fun h => ?_) (fun h => ?_)
    · exact L_X8_makes_31 N  s ls (lv_sub hl [] rfl) h
    · refine v_iload dX8_makes_14 (lv_at hl 4 rfl) ?_
      refine k_X8_isStore h qmX8_217 (by decide) hl.1 (Nat.le_of_ble_eq_true rfl) dX8_makes_16 (fun v3 s h => ?_)
      refine v_if_eq 31 dX8_makes_19 (by decide) h (fun h => ?_) (fun h => ?_)
      · exact L_X8_makes_31 N  s ls (lv_sub hl [] rfl) h
      · refine v_iload_n dX8_makes_22 rfl (lv_at hl 3 rfl) ?_
        refine v_if_lt 31 dX8_makes_23 (by decide) h (fun h => ?_) (fun h => ?_)
        · exact L_X8_makes_31 N  s ls (lv_sub hl [] rfl) h
        · refine v_iload_n dX8_makes_26 rfl (lv_at hl 3 rfl) ?_
          refine v_iconst (2 : Int32) dX8_makes_27 (by decide) ?_
          refine v_icmp_le 33 dX8_makes_28 (by decide) h (fun h => ?_) (fun h => ?_)
          · refine v_aload_n dX8_makes_33 rfl (lv_at hl 0 rfl) ?_
            refine v_getR 8 8 h (by decide) rfl qfX8_72 dX8_makes_34 (fun r4 h => ?_)
            refine v_getR 5 0 h (by decide) rfl qfX8_245 dX8_makes_37 (fun r5 h => ?_)
            refine v_iload_n dX8_makes_40 rfl (lv_at hl 1 rfl) ?_
            refine v_zald dX8_makes_41 h (fun v6 h => ?_)
            refine v_if_eq 57 dX8_makes_42 (by decide) h (fun h => ?_) (fun h => ?_)
            · exact L_X8_makes_57 N  s ls (lv_sub hl [] rfl) h
            · refine v_aload_n dX8_makes_45 rfl (lv_at hl 0 rfl) ?_
              refine v_getR 8 8 h (by decide) rfl qfX8_72 dX8_makes_46 (fun r7 h => ?_)
              refine v_getR 5 0 h (by decide) rfl qfX8_245 dX8_makes_49 (fun r8 h => ?_)
              refine v_iload_n dX8_makes_52 rfl (lv_at hl 2 rfl) ?_
              refine v_zald dX8_makes_53 h (fun v9 h => ?_)
              refine v_if_ne 60 dX8_makes_54 (by decide) h (fun h => ?_) (fun h => ?_)
              · refine v_aload_n dX8_makes_60 rfl (lv_at hl 0 rfl) ?_
                refine v_getR 8 2 h (by decide) rfl qfX8_28 dX8_makes_61 (fun r10 h => ?_)
                refine v_aload_n dX8_makes_64 rfl (lv_at hl 0 rfl) ?_
                refine v_getR 8 8 h (by decide) rfl qfX8_72 dX8_makes_65 (fun r11 h => ?_)
                refine v_getR 5 1 h (by decide) rfl qfX8_235 dX8_makes_68 (fun r12 h => ?_)
                refine v_iload_n dX8_makes_71 rfl (lv_at hl 1 rfl) ?_
                refine v_aald 5 dX8_makes_72 h (fun r13 h => ?_)
                refine v_aload_n dX8_makes_73 rfl (lv_at hl 0 rfl) ?_
                refine v_getR 8 8 h (by decide) rfl qfX8_72 dX8_makes_74 (fun r14 h => ?_)
                refine v_getR 5 1 h (by decide) rfl qfX8_235 dX8_makes_77 (fun r15 h => ?_)
                refine v_iload_n dX8_makes_80 rfl (lv_at hl 2 rfl) ?_
                refine v_aald 5 dX8_makes_81 h (fun r16 h => ?_)
                refine v_iload_n dX8_makes_82 rfl (lv_at hl 3 rfl) ?_
                refine v_aload_n dX8_makes_83 rfl (lv_at hl 0 rfl) ?_
                refine v_getR 8 6 h (by decide) rfl qfX8_58 dX8_makes_84 (fun r17 h => ?_)
                refine k_X0_combine h qmX8_266 (by decide) hl.1 (Nat.le_of_ble_eq_true rfl) dX8_makes_87 (fun v18 s h => ?_)
                refine v_istore [(5, .int v18), (0, .ref (xb X + a0)), (1, .int l1), (2, .int l2), (3, .int l3), (4, .int l4)] dX8_makes_90 hl (by decide) rfl (fun ls hl => ?_)
                refine v_iload dX8_makes_92 (lv_at hl 0 rfl) ?_
                refine v_if_eq 102 dX8_makes_94 (by decide) h (fun h => ?_) (fun h => ?_)
                · refine v_aload_n dX8_makes_102 rfl (lv_at hl 1 rfl) ?_
                  refine v_getR 8 8 h (by decide) rfl qfX8_72 dX8_makes_103 (fun r19 h => ?_)
                  refine v_iload dX8_makes_106 (lv_at hl 5 rfl) ?_
                  refine v_aload_n dX8_makes_108 rfl (lv_at hl 1 rfl) ?_
                  refine v_getR 8 6 h (by decide) rfl qfX8_58 dX8_makes_109 (fun r20 h => ?_)
                  refine k_X5_put h qmX8_231 (by decide) hl.1 (Nat.le_of_ble_eq_true rfl) dX8_makes_112 (fun v21 s h => ?_)
                  exact L_X8_makes_115 N v21 s ls (lv_sub hl [] rfl) h
                · refine v_iload dX8_makes_97 (lv_at hl 0 rfl) ?_
                  refine v_goto 115 dX8_makes_99 (by decide) ?_
                  exact L_X8_makes_115 N v18 s ls (lv_sub hl [] rfl) h
              · exact L_X8_makes_57 N  s ls (lv_sub hl [] rfl) h
          · exact L_X8_makes_31 N  s ls (lv_sub hl [] rfl) h
theorem k_X8_makes {X : VX} {cc : ByteArray} {own : String} {nL fr lo : Nat} {ini : Bool} {E : VX → Prop} {sF s : vS} {ρ : Type} {res : ρ} {pc : Nat} {ls : Array Slot} {rest : List Value} {N index : Nat} {a0 : Nat} {l1 : Int32} {l2 : Int32} {l3 : Int32} {l4 : Int32} {f : Int32 → vS → Option ρ} (h : bnd (F_X8_makes N a0 l1 l2 l3 l4 s) f = some res) (hlink : Cond.methodLink own index yX8_makes ∈ TT) (hR : 5 + 1 ≤ fr ∧ 8 + (6 + 11) + 147 ≤ lo) (hls : ls.size = nL) (hr : (rest.map fun v => v.category).sum ≤ 8) (hdg : decode cc pc = .ok (.invokevirtual index, 3)) (kk : ∀ r s', f r s' = some res → V X (cc, own, nL, fr, lo, ini) E sF s' (G0 X (pc + 3) ls (.int r :: rest))) : V X (cc, own, nL, fr, lo, ini) E sF s (G0 X pc ls (.int l4 :: .int l3 :: .int l2 :: .int l1 :: .ref (xb X + a0) :: rest)) := by
  obtain ⟨r, s', e, h⟩ := bnd_some h
  exact v_callV (b := a0) (ci := 8) (As := [.int l1, .int l2, .int l3, .int l4]) (rest := rest) (c_X8_makes X N a0 l1 l2 l3 l4 s s' r e).2 (c_X8_makes (l := xl X) (D := xD X) (ka := xka X) X N a0 l1 l2 l3 l4 s s' r e).1 rfl vl_X8_makes qi_X8_makes qe_X8_makes hlink hR rfl rfl hls hr hdg (kk r s' h)
set_option maxHeartbeats 4000000 in
set_option maxRecDepth 100000 in
theorem L_X8_lift_97 {X : VX} {sF : vS} {r : Int32} (N : Nat) (k0 : Int32) (s : vS) (ls : Array Slot) (hl : lv_has ls 4 []) (h : J_X8_lift_97 N k0 s = some (r, sF)) : V X (cX8_lift, RX8, 4, 5, 145, false) (vRet sF (some (.int r)) (some .int)) sF s (G0 X 97 ls [.int k0]) := by
  unfold J_X8_lift_97 at h
  exact v_iret dX8_lift_97 h
set_option maxHeartbeats 4000000 in
set_option maxRecDepth 100000 in
theorem L_X8_lift_18 {X : VX} {sF : vS} {r : Int32} (N : Nat) (s : vS) (ls : Array Slot) (hl : lv_has ls 4 []) (h : J_X8_lift_18 N  s = some (r, sF)) : V X (cX8_lift, RX8, 4, 5, 145, false) (vRet sF (some (.int r)) (some .int)) sF s (G0 X 18 ls []) := by
  unfold J_X8_lift_18 at h
  refine v_iconst (-1 : Int32) dX8_lift_18 (by decide) ?_
  exact v_iret dX8_lift_19 h
theorem vl_X8_lift : vCl yX8_lift cX8_lift 4 (some .int) 2 := ⟨qy_X8_lift, qjX8, by decide +kernel, by decide +kernel, by decide +kernel⟩
set_option maxHeartbeats 4000000 in
set_option maxRecDepth 100000 in
theorem c_X8_lift {l : Launch} {D : va_G} {ka : Nat → ClassId} (X0 : VX) (N : Nat) (a0 : Nat) (l1 : Int32) (l2 : Int32) (s sF : vS) (r : Int32) (h : F_X8_lift N a0 l1 l2 s = some (r, sF)) : isO s a0 8 = true ∧ vMet l D ka (xb X0) yX8_lift cX8_lift 4 (some .int) 5 145 [.ref (xb X0 + a0), .int l1, .int l2] s sF (some (.int r)) := by
  unfold F_X8_lift at h
  unfold rcv at h
  obtain ⟨hO, h⟩ := v_chk h
  refine ⟨hO, vMet.of (ini := false) X0 (plainFor_of_name (by decide +kernel)) (Nat.le_of_ble_eq_true rfl) (fun h => by cases h) (fun X ls hb hl => ?_) rfl⟩
  show V X (cX8_lift, RX8, 4, 5, 145, false) (vRet sF (some (.int r)) (some .int)) sF s (G0 X 0 ls [])
  rw [← hb] at hl
  have hl : lv_has ls 4 [(0, .ref (xb X + a0)), (1, .int l1), (2, .int l2)] := hl
  refine v_iload_n dX8_lift_0 rfl (lv_at hl 1 rfl) ?_
  refine k_X8_isStore h qmX8_217 (by decide) hl.1 (Nat.le_of_ble_eq_true rfl) dX8_lift_1 (fun v1 s h => ?_)
  refine v_if_eq 18 dX8_lift_4 (by decide) h (fun h => ?_) (fun h => ?_)
  · exact L_X8_lift_18 N  s ls (lv_sub hl [] rfl) h
  · refine v_aload_n dX8_lift_7 rfl (lv_at hl 0 rfl) ?_
    refine v_getR 8 0 h (by decide) rfl qfX8_16 dX8_lift_8 (fun r2 h => ?_)
    refine v_iload_n dX8_lift_11 rfl (lv_at hl 2 rfl) ?_
    refine k_X1_hasSize h qmX8_122 (by decide) hl.1 (Nat.le_of_ble_eq_true rfl) dX8_lift_12 (fun v3 s h => ?_)
    refine v_if_ne 20 dX8_lift_15 (by decide) h (fun h => ?_) (fun h => ?_)
    · refine v_aload_n dX8_lift_20 rfl (lv_at hl 0 rfl) ?_
      refine v_getR 8 8 h (by decide) rfl qfX8_72 dX8_lift_21 (fun r4 h => ?_)
      refine v_getR 5 0 h (by decide) rfl qfX8_245 dX8_lift_24 (fun r5 h => ?_)
      refine v_iload_n dX8_lift_27 rfl (lv_at hl 1 rfl) ?_
      refine v_zald dX8_lift_28 h (fun v6 h => ?_)
      refine v_if_ne 35 dX8_lift_29 (by decide) h (fun h => ?_) (fun h => ?_)
      · refine v_aload_n dX8_lift_35 rfl (lv_at hl 0 rfl) ?_
        refine v_getR 8 8 h (by decide) rfl qfX8_72 dX8_lift_36 (fun r7 h => ?_)
        refine v_getR 5 1 h (by decide) rfl qfX8_235 dX8_lift_39 (fun r8 h => ?_)
        refine v_iload_n dX8_lift_42 rfl (lv_at hl 1 rfl) ?_
        refine v_aald 5 dX8_lift_43 h (fun r9 h => ?_)
        refine v_astore_n [(3, .ref (xb X + r9)), (0, .ref (xb X + a0)), (1, .int l1), (2, .int l2)] dX8_lift_44 rfl hl (by decide) rfl (fun ls hl => ?_)
        refine v_aload_n dX8_lift_45 rfl (lv_at hl 1 rfl) ?_
        refine v_getR 8 2 h (by decide) rfl qfX8_28 dX8_lift_46 (fun r10 h => ?_)
        refine v_aload_n dX8_lift_49 rfl (lv_at hl 0 rfl) ?_
        refine v_aload_n dX8_lift_50 rfl (lv_at hl 0 rfl) ?_
        refine v_getI 6 0 h (by decide) (Or.inl rfl) qfX8_249 dX8_lift_51 (fun v11 h => ?_)
        refine k_X0_greatestSize h qmX8_252 (by decide) hl.1 (Nat.le_of_ble_eq_true rfl) dX8_lift_54 (fun v12 s h => ?_)
        refine v_iload_n dX8_lift_57 rfl (lv_at hl 3 rfl) ?_
        refine v_icmp_le 64 dX8_lift_58 (by decide) h (fun h => ?_) (fun h => ?_)
        · refine v_aload_n dX8_lift_64 rfl (lv_at hl 1 rfl) ?_
          refine v_getR 8 2 h (by decide) rfl qfX8_28 dX8_lift_65 (fun r13 h => ?_)
          refine v_aload_n dX8_lift_68 rfl (lv_at hl 0 rfl) ?_
          refine v_iload_n dX8_lift_69 rfl (lv_at hl 3 rfl) ?_
          refine v_aload_n dX8_lift_70 rfl (lv_at hl 1 rfl) ?_
          refine v_getR 8 6 h (by decide) rfl qfX8_58 dX8_lift_71 (fun r14 h => ?_)
          refine k_X0_raise h qmX8_270 (by decide) hl.1 (Nat.le_of_ble_eq_true rfl) dX8_lift_74 (fun v15 s h => ?_)
          refine v_if_eq 95 dX8_lift_77 (by decide) h (fun h => ?_) (fun h => ?_)
          · refine v_bipush (-6 : Int32) dX8_lift_95 (by decide) ?_
            exact L_X8_lift_97 N (-6 : Int32) s ls (lv_sub hl [] rfl) h
          · refine v_aload_n dX8_lift_80 rfl (lv_at hl 1 rfl) ?_
            refine v_getR 8 8 h (by decide) rfl qfX8_72 dX8_lift_81 (fun r16 h => ?_)
            refine v_iload_n dX8_lift_84 rfl (lv_at hl 2 rfl) ?_
            refine v_aload_n dX8_lift_85 rfl (lv_at hl 1 rfl) ?_
            refine v_getR 8 6 h (by decide) rfl qfX8_58 dX8_lift_86 (fun r17 h => ?_)
            refine k_X5_put h qmX8_231 (by decide) hl.1 (Nat.le_of_ble_eq_true rfl) dX8_lift_89 (fun v18 s h => ?_)
            refine v_goto 97 dX8_lift_92 (by decide) ?_
            exact L_X8_lift_97 N v18 s ls (lv_sub hl [] rfl) h
        · refine v_bipush (-2 : Int32) dX8_lift_61 (by decide) ?_
          exact v_iret dX8_lift_63 h
      · refine v_bipush (-3 : Int32) dX8_lift_32 (by decide) ?_
        exact v_iret dX8_lift_34 h
    · exact L_X8_lift_18 N  s ls (lv_sub hl [] rfl) h
theorem k_X8_lift {X : VX} {cc : ByteArray} {own : String} {nL fr lo : Nat} {ini : Bool} {E : VX → Prop} {sF s : vS} {ρ : Type} {res : ρ} {pc : Nat} {ls : Array Slot} {rest : List Value} {N index : Nat} {a0 : Nat} {l1 : Int32} {l2 : Int32} {f : Int32 → vS → Option ρ} (h : bnd (F_X8_lift N a0 l1 l2 s) f = some res) (hlink : Cond.methodLink own index yX8_lift ∈ TT) (hR : 5 + 1 ≤ fr ∧ 8 + (4 + 11) + 145 ≤ lo) (hls : ls.size = nL) (hr : (rest.map fun v => v.category).sum ≤ 8) (hdg : decode cc pc = .ok (.invokevirtual index, 3)) (kk : ∀ r s', f r s' = some res → V X (cc, own, nL, fr, lo, ini) E sF s' (G0 X (pc + 3) ls (.int r :: rest))) : V X (cc, own, nL, fr, lo, ini) E sF s (G0 X pc ls (.int l2 :: .int l1 :: .ref (xb X + a0) :: rest)) := by
  obtain ⟨r, s', e, h⟩ := bnd_some h
  exact v_callV (b := a0) (ci := 8) (As := [.int l1, .int l2]) (rest := rest) (c_X8_lift X N a0 l1 l2 s s' r e).2 (c_X8_lift (l := xl X) (D := xD X) (ka := xka X) X N a0 l1 l2 s s' r e).1 rfl vl_X8_lift qi_X8_lift qe_X8_lift hlink hR rfl rfl hls hr hdg (kk r s' h)
set_option maxHeartbeats 4000000 in
set_option maxRecDepth 100000 in
theorem L_X8_average_65 {X : VX} {sF : vS} {r : Int32} (N : Nat) (k0 : Int32) (s : vS) (ls : Array Slot) (hl : lv_has ls 3 []) (h : J_X8_average_65 N k0 s = some (r, sF)) : V X (cX8_average, RX8, 3, 3, 91, false) (vRet sF (some (.int r)) (some .int)) sF s (G0 X 65 ls [.int k0]) := by
  unfold J_X8_average_65 at h
  exact v_iret dX8_average_65 h
theorem vl_X8_average : vCl yX8_average cX8_average 3 (some .int) 1 := ⟨qy_X8_average, qjX8, by decide +kernel, by decide +kernel, by decide +kernel⟩
set_option maxHeartbeats 4000000 in
set_option maxRecDepth 100000 in
theorem c_X8_average {l : Launch} {D : va_G} {ka : Nat → ClassId} (X0 : VX) (N : Nat) (a0 : Nat) (l1 : Int32) (s sF : vS) (r : Int32) (h : F_X8_average N a0 l1 s = some (r, sF)) : isO s a0 8 = true ∧ vMet l D ka (xb X0) yX8_average cX8_average 3 (some .int) 3 91 [.ref (xb X0 + a0), .int l1] s sF (some (.int r)) := by
  unfold F_X8_average at h
  unfold rcv at h
  obtain ⟨hO, h⟩ := v_chk h
  refine ⟨hO, vMet.of (ini := false) X0 (plainFor_of_name (by decide +kernel)) (Nat.le_of_ble_eq_true rfl) (fun h => by cases h) (fun X ls hb hl => ?_) rfl⟩
  show V X (cX8_average, RX8, 3, 3, 91, false) (vRet sF (some (.int r)) (some .int)) sF s (G0 X 0 ls [])
  rw [← hb] at hl
  have hl : lv_has ls 3 [(0, .ref (xb X + a0)), (1, .int l1)] := hl
  refine v_iload_n dX8_average_0 rfl (lv_at hl 1 rfl) ?_
  refine k_X8_isStore h qmX8_217 (by decide) hl.1 (Nat.le_of_ble_eq_true rfl) dX8_average_1 (fun v1 s h => ?_)
  refine v_if_ne 9 dX8_average_4 (by decide) h (fun h => ?_) (fun h => ?_)
  · refine v_aload_n dX8_average_9 rfl (lv_at hl 0 rfl) ?_
    refine v_getR 8 8 h (by decide) rfl qfX8_72 dX8_average_10 (fun r2 h => ?_)
    refine v_getR 5 0 h (by decide) rfl qfX8_245 dX8_average_13 (fun r3 h => ?_)
    refine v_iload_n dX8_average_16 rfl (lv_at hl 1 rfl) ?_
    refine v_zald dX8_average_17 h (fun v4 h => ?_)
    refine v_if_ne 24 dX8_average_18 (by decide) h (fun h => ?_) (fun h => ?_)
    · refine v_aload_n dX8_average_24 rfl (lv_at hl 0 rfl) ?_
      refine v_getR 8 2 h (by decide) rfl qfX8_28 dX8_average_25 (fun r5 h => ?_)
      refine v_aload_n dX8_average_28 rfl (lv_at hl 0 rfl) ?_
      refine v_getR 8 8 h (by decide) rfl qfX8_72 dX8_average_29 (fun r6 h => ?_)
      refine v_getR 5 1 h (by decide) rfl qfX8_235 dX8_average_32 (fun r7 h => ?_)
      refine v_iload_n dX8_average_35 rfl (lv_at hl 1 rfl) ?_
      refine v_aald 5 dX8_average_36 h (fun r8 h => ?_)
      refine v_aload_n dX8_average_37 rfl (lv_at hl 0 rfl) ?_
      refine v_getR 8 6 h (by decide) rfl qfX8_58 dX8_average_38 (fun r9 h => ?_)
      refine k_X0_uproot h qmX8_274 (by decide) hl.1 (Nat.le_of_ble_eq_true rfl) dX8_average_41 (fun v10 s h => ?_)
      refine v_istore_n [(2, .int v10), (0, .ref (xb X + a0)), (1, .int l1)] dX8_average_44 rfl hl (by decide) rfl (fun ls hl => ?_)
      refine v_iload_n dX8_average_45 rfl (lv_at hl 0 rfl) ?_
      refine v_if_eq 53 dX8_average_46 (by decide) h (fun h => ?_) (fun h => ?_)
      · refine v_aload_n dX8_average_53 rfl (lv_at hl 1 rfl) ?_
        refine v_getR 8 8 h (by decide) rfl qfX8_72 dX8_average_54 (fun r11 h => ?_)
        refine v_iload_n dX8_average_57 rfl (lv_at hl 2 rfl) ?_
        refine v_aload_n dX8_average_58 rfl (lv_at hl 1 rfl) ?_
        refine v_getR 8 6 h (by decide) rfl qfX8_58 dX8_average_59 (fun r12 h => ?_)
        refine k_X5_put h qmX8_231 (by decide) hl.1 (Nat.le_of_ble_eq_true rfl) dX8_average_62 (fun v13 s h => ?_)
        exact L_X8_average_65 N v13 s ls (lv_sub hl [] rfl) h
      · refine v_iload_n dX8_average_49 rfl (lv_at hl 0 rfl) ?_
        refine v_goto 65 dX8_average_50 (by decide) ?_
        exact L_X8_average_65 N v10 s ls (lv_sub hl [] rfl) h
    · refine v_bipush (-3 : Int32) dX8_average_21 (by decide) ?_
      exact v_iret dX8_average_23 h
  · refine v_iconst (-1 : Int32) dX8_average_7 (by decide) ?_
    exact v_iret dX8_average_8 h
theorem k_X8_average {X : VX} {cc : ByteArray} {own : String} {nL fr lo : Nat} {ini : Bool} {E : VX → Prop} {sF s : vS} {ρ : Type} {res : ρ} {pc : Nat} {ls : Array Slot} {rest : List Value} {N index : Nat} {a0 : Nat} {l1 : Int32} {f : Int32 → vS → Option ρ} (h : bnd (F_X8_average N a0 l1 s) f = some res) (hlink : Cond.methodLink own index yX8_average ∈ TT) (hR : 3 + 1 ≤ fr ∧ 8 + (3 + 11) + 91 ≤ lo) (hls : ls.size = nL) (hr : (rest.map fun v => v.category).sum ≤ 8) (hdg : decode cc pc = .ok (.invokevirtual index, 3)) (kk : ∀ r s', f r s' = some res → V X (cc, own, nL, fr, lo, ini) E sF s' (G0 X (pc + 3) ls (.int r :: rest))) : V X (cc, own, nL, fr, lo, ini) E sF s (G0 X pc ls (.int l1 :: .ref (xb X + a0) :: rest)) := by
  obtain ⟨r, s', e, h⟩ := bnd_some h
  exact v_callV (b := a0) (ci := 8) (As := [.int l1]) (rest := rest) (c_X8_average X N a0 l1 s s' r e).2 (c_X8_average (l := xl X) (D := xD X) (ka := xka X) X N a0 l1 s s' r e).1 rfl vl_X8_average qi_X8_average qe_X8_average hlink hR rfl rfl hls hr hdg (kk r s' h)
set_option maxHeartbeats 4000000 in
set_option maxRecDepth 100000 in
theorem L_X8_bound_177 {X : VX} {sF : vS} {r : Int64} (N : Nat) (k0 : Int64) (s : vS) (ls : Array Slot) (hl : lv_has ls 7 []) (h : J_X8_bound_177 N k0 s = some (r, sF)) : V X (cX8_bound, RX8, 7, 5, 145, false) (vRet sF (some (.long r)) (some .long)) sF s (G0 X 177 ls [.long k0]) := by
  unfold J_X8_bound_177 at h
  exact v_lret dX8_bound_177 h
set_option maxHeartbeats 4000000 in
set_option maxRecDepth 100000 in
theorem L_X8_bound_144 {X : VX} {sF : vS} {r : Int64} (N : Nat) (a0 : Nat) (l4 : Int32) (k0 : Nat) (k1 : Int32) (k2 : Int32) (k3 : Int32) (s : vS) (ls : Array Slot) (hl : lv_has ls 7 [(0, .ref (xb X + a0)), (4, .int l4)]) (h : J_X8_bound_144 N a0 l4 k0 k1 k2 k3 s = some (r, sF)) : V X (cX8_bound, RX8, 7, 5, 145, false) (vRet sF (some (.long r)) (some .long)) sF s (G0 X 144 ls [.int k3, .int k2, .int k1, .ref (xb X + k0)]) := by
  unfold J_X8_bound_144 at h
  refine k_X6_extremeOf h qmX8_281 (by decide) hl.1 (Nat.le_of_ble_eq_true rfl) dX8_bound_144 (fun v25 s h => ?_)
  refine v_istore [(6, .int v25), (0, .ref (xb X + a0)), (4, .int l4)] dX8_bound_147 hl (by decide) rfl (fun ls hl => ?_)
  refine v_iload dX8_bound_149 (lv_at hl 2 rfl) ?_
  refine v_if_ne 167 dX8_bound_151 (by decide) h (fun h => ?_) (fun h => ?_)
  · refine v_aload_n dX8_bound_167 rfl (lv_at hl 1 rfl) ?_
    refine v_getR 8 6 h (by decide) rfl qfX8_58 dX8_bound_168 (fun r26 h => ?_)
    refine v_getR 6 2 h (by decide) rfl qfX8_263 dX8_bound_171 (fun r27 h => ?_)
    refine v_iload dX8_bound_174 (lv_at hl 0 rfl) ?_
    refine v_lald dX8_bound_176 h (fun v28 h => ?_)
    exact L_X8_bound_177 N v28 s ls (lv_sub hl [] rfl) h
  · refine v_aload_n dX8_bound_154 rfl (lv_at hl 1 rfl) ?_
    refine v_getR 8 6 h (by decide) rfl qfX8_58 dX8_bound_155 (fun r29 h => ?_)
    refine v_getR 6 1 h (by decide) rfl qfX8_259 dX8_bound_158 (fun r30 h => ?_)
    refine v_iload dX8_bound_161 (lv_at hl 0 rfl) ?_
    refine v_lald dX8_bound_163 h (fun v31 h => ?_)
    refine v_goto 177 dX8_bound_164 (by decide) ?_
    exact L_X8_bound_177 N v31 s ls (lv_sub hl [] rfl) h
set_option maxHeartbeats 4000000 in
set_option maxRecDepth 100000 in
theorem L_X8_bound_106 {X : VX} {sF : vS} {r : Int64} (N : Nat) (s : vS) (ls : Array Slot) (hl : lv_has ls 7 []) (h : J_X8_bound_106 N  s = some (r, sF)) : V X (cX8_bound, RX8, 7, 5, 145, false) (vRet sF (some (.long r)) (some .long)) sF s (G0 X 106 ls []) := by
  unfold J_X8_bound_106 at h
  refine v_ldc2 qkX8_143 dX8_bound_106 ?_
  exact v_lret dX8_bound_109 h
set_option maxHeartbeats 4000000 in
set_option maxRecDepth 100000 in
theorem L_X8_bound_35 {X : VX} {sF : vS} {r : Int64} (N : Nat) (s : vS) (ls : Array Slot) (hl : lv_has ls 7 []) (h : J_X8_bound_35 N  s = some (r, sF)) : V X (cX8_bound, RX8, 7, 5, 145, false) (vRet sF (some (.long r)) (some .long)) sF s (G0 X 35 ls []) := by
  unfold J_X8_bound_35 at h
  refine v_ldc2 qkX8_143 dX8_bound_35 ?_
  exact v_lret dX8_bound_38 h
theorem vl_X8_bound : vCl yX8_bound cX8_bound 7 (some .long) 4 := ⟨qy_X8_bound, qjX8, by decide +kernel, by decide +kernel, by decide +kernel⟩
set_option maxHeartbeats 4000000 in
set_option maxRecDepth 100000 in
theorem c_X8_bound {l : Launch} {D : va_G} {ka : Nat → ClassId} (X0 : VX) (N : Nat) (a0 : Nat) (l1 : Int32) (l2 : Int32) (l3 : Int32) (l4 : Int32) (s sF : vS) (r : Int64) (h : F_X8_bound N a0 l1 l2 l3 l4 s = some (r, sF)) : isO s a0 8 = true ∧ vMet l D ka (xb X0) yX8_bound cX8_bound 7 (some .long) 5 145 [.ref (xb X0 + a0), .int l1, .int l2, .int l3, .int l4] s sF (some (.long r)) := by
  unfold F_X8_bound at h
  unfold rcv at h
  obtain ⟨hO, h⟩ := v_chk h
  refine ⟨hO, vMet.of (ini := false) X0 (plainFor_of_name (by decide +kernel)) (Nat.le_of_ble_eq_true rfl) (fun h => by cases h) (fun X ls hb hl => ?_) rfl⟩
  show V X (cX8_bound, RX8, 7, 5, 145, false) (vRet sF (some (.long r)) (some .long)) sF s (G0 X 0 ls [])
  rw [← hb] at hl
  have hl : lv_has ls 7 [(0, .ref (xb X + a0)), (1, .int l1), (2, .int l2), (3, .int l3), (4, .int l4)] := hl
  refine v_iload_n dX8_bound_0 rfl (lv_at hl 1 rfl) ?_
  refine k_X8_isStore h qmX8_217 (by decide) hl.1 (Nat.le_of_ble_eq_true rfl) dX8_bound_1 (fun v1 s h => ?_)
  refine v_if_eq 35 dX8_bound_4 (by decide) h (fun h => ?_) (fun h => ?_)
  · exact L_X8_bound_35 N  s ls (lv_sub hl [] rfl) h
  · refine v_aload_n dX8_bound_7 rfl (lv_at hl 0 rfl) ?_
    refine v_getR 8 0 h (by decide) rfl qfX8_16 dX8_bound_8 (fun r2 h => ?_)
    refine v_iload_n dX8_bound_11 rfl (lv_at hl 2 rfl) ?_
    refine k_X1_hasSize h qmX8_122 (by decide) hl.1 (Nat.le_of_ble_eq_true rfl) dX8_bound_12 (fun v3 s h => ?_)
    refine v_if_eq 35 dX8_bound_15 (by decide) h (fun h => ?_) (fun h => ?_)
    · exact L_X8_bound_35 N  s ls (lv_sub hl [] rfl) h
    · refine v_iload_n dX8_bound_18 rfl (lv_at hl 3 rfl) ?_
      refine v_if_lt 35 dX8_bound_19 (by decide) h (fun h => ?_) (fun h => ?_)
      · exact L_X8_bound_35 N  s ls (lv_sub hl [] rfl) h
      · refine v_iload_n dX8_bound_22 rfl (lv_at hl 3 rfl) ?_
        refine v_iconst (1 : Int32) dX8_bound_23 (by decide) ?_
        refine v_icmp_gt 35 dX8_bound_24 (by decide) h (fun h => ?_) (fun h => ?_)
        · exact L_X8_bound_35 N  s ls (lv_sub hl [] rfl) h
        · refine v_iload dX8_bound_27 (lv_at hl 4 rfl) ?_
          refine k_X8_isPart h qmX8_136 (by decide) hl.1 (Nat.le_of_ble_eq_true rfl) dX8_bound_29 (fun v4 s h => ?_)
          refine v_if_ne 39 dX8_bound_32 (by decide) h (fun h => ?_) (fun h => ?_)
          · refine v_aload_n dX8_bound_39 rfl (lv_at hl 0 rfl) ?_
            refine v_getR 8 8 h (by decide) rfl qfX8_72 dX8_bound_40 (fun r5 h => ?_)
            refine v_getR 5 1 h (by decide) rfl qfX8_235 dX8_bound_43 (fun r6 h => ?_)
            refine v_iload_n dX8_bound_46 rfl (lv_at hl 1 rfl) ?_
            refine v_aald 5 dX8_bound_47 h (fun r7 h => ?_)
            refine v_astore [(5, .ref (xb X + r7)), (0, .ref (xb X + a0)), (1, .int l1), (2, .int l2), (3, .int l3), (4, .int l4)] dX8_bound_48 hl (by decide) rfl (fun ls hl => ?_)
            refine v_aload_n dX8_bound_50 rfl (lv_at hl 1 rfl) ?_
            refine v_getR 8 8 h (by decide) rfl qfX8_72 dX8_bound_51 (fun r8 h => ?_)
            refine v_getR 5 0 h (by decide) rfl qfX8_245 dX8_bound_54 (fun r9 h => ?_)
            refine v_iload_n dX8_bound_57 rfl (lv_at hl 2 rfl) ?_
            refine v_zald dX8_bound_58 h (fun v10 h => ?_)
            refine v_if_eq 106 dX8_bound_59 (by decide) h (fun h => ?_) (fun h => ?_)
            · exact L_X8_bound_106 N  s ls (lv_sub hl [] rfl) h
            · refine v_aload dX8_bound_62 (lv_at hl 0 rfl) ?_
              refine v_getI 6 0 h (by decide) (Or.inl rfl) qfX8_249 dX8_bound_64 (fun v11 h => ?_)
              refine v_iconst (2 : Int32) dX8_bound_67 (by decide) ?_
              refine v_icmp_eq 106 dX8_bound_68 (by decide) h (fun h => ?_) (fun h => ?_)
              · exact L_X8_bound_106 N  s ls (lv_sub hl [] rfl) h
              · refine v_aload_n dX8_bound_71 rfl (lv_at hl 1 rfl) ?_
                refine v_getR 8 2 h (by decide) rfl qfX8_28 dX8_bound_72 (fun r12 h => ?_)
                refine v_aload dX8_bound_75 (lv_at hl 0 rfl) ?_
                refine v_aload dX8_bound_77 (lv_at hl 0 rfl) ?_
                refine v_getI 6 0 h (by decide) (Or.inl rfl) qfX8_249 dX8_bound_79 (fun v13 h => ?_)
                refine k_X0_greatestSize h qmX8_252 (by decide) hl.1 (Nat.le_of_ble_eq_true rfl) dX8_bound_82 (fun v14 s h => ?_)
                refine v_iload_n dX8_bound_85 rfl (lv_at hl 3 rfl) ?_
                refine v_icmp_gt 106 dX8_bound_86 (by decide) h (fun h => ?_) (fun h => ?_)
                · exact L_X8_bound_106 N  s ls (lv_sub hl [] rfl) h
                · refine v_aload_n dX8_bound_89 rfl (lv_at hl 1 rfl) ?_
                  refine v_getR 8 2 h (by decide) rfl qfX8_28 dX8_bound_90 (fun r15 h => ?_)
                  refine v_aload dX8_bound_93 (lv_at hl 0 rfl) ?_
                  refine v_iload_n dX8_bound_95 rfl (lv_at hl 3 rfl) ?_
                  refine v_aload_n dX8_bound_96 rfl (lv_at hl 1 rfl) ?_
                  refine v_getR 8 6 h (by decide) rfl qfX8_58 dX8_bound_97 (fun r16 h => ?_)
                  refine k_X0_raise h qmX8_270 (by decide) hl.1 (Nat.le_of_ble_eq_true rfl) dX8_bound_100 (fun v17 s h => ?_)
                  refine v_if_ne 110 dX8_bound_103 (by decide) h (fun h => ?_) (fun h => ?_)
                  · refine v_aload_n dX8_bound_110 rfl (lv_at hl 1 rfl) ?_
                    refine v_getR 8 6 h (by decide) rfl qfX8_58 dX8_bound_111 (fun r18 h => ?_)
                    refine v_aload_n dX8_bound_114 rfl (lv_at hl 1 rfl) ?_
                    refine v_getR 8 0 h (by decide) rfl qfX8_16 dX8_bound_115 (fun r19 h => ?_)
                    refine v_getR 1 6 h (by decide) rfl qfX8_278 dX8_bound_118 (fun r20 h => ?_)
                    refine v_iload_n dX8_bound_121 rfl (lv_at hl 3 rfl) ?_
                    refine v_iald dX8_bound_122 h (fun v21 h => ?_)
                    refine v_aload_n dX8_bound_123 rfl (lv_at hl 1 rfl) ?_
                    refine v_getR 8 0 h (by decide) rfl qfX8_16 dX8_bound_124 (fun r22 h => ?_)
                    refine v_getR 1 6 h (by decide) rfl qfX8_278 dX8_bound_127 (fun r23 h => ?_)
                    refine v_iload_n dX8_bound_130 rfl (lv_at hl 3 rfl) ?_
                    refine v_iconst (1 : Int32) dX8_bound_131 (by decide) ?_
                    refine v_iadd dX8_bound_132 ?_
                    refine v_iald dX8_bound_133 h (fun v24 h => ?_)
                    refine v_iload_n dX8_bound_134 rfl (lv_at hl 4 rfl) ?_
                    refine v_iconst (1 : Int32) dX8_bound_135 (by decide) ?_
                    refine v_icmp_ne 143 dX8_bound_136 (by decide) h (fun h => ?_) (fun h => ?_)
                    · refine v_iconst (0 : Int32) dX8_bound_143 (by decide) ?_
                      exact L_X8_bound_144 N a0 l4 r18 v21 v24 (0 : Int32) s ls (lv_sub hl [1, 5] rfl) h
                    · refine v_iconst (1 : Int32) dX8_bound_139 (by decide) ?_
                      refine v_goto 144 dX8_bound_140 (by decide) ?_
                      exact L_X8_bound_144 N a0 l4 r18 v21 v24 (1 : Int32) s ls (lv_sub hl [1, 5] rfl) h
                  · exact L_X8_bound_106 N  s ls (lv_sub hl [] rfl) h
          · exact L_X8_bound_35 N  s ls (lv_sub hl [] rfl) h
