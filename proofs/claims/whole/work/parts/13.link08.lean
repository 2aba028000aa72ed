theorem k_X8_bound {X : VX} {cc : ByteArray} {own : String} {nL fr lo : Nat} {ini : Bool} {E : VX → Prop} {sF s : vS} {ρ : Type} {res : ρ} {pc : Nat} {ls : Array Slot} {rest : List Value} {N index : Nat} {a0 : Nat} {l1 : Int32} {l2 : Int32} {l3 : Int32} {l4 : Int32} {f : Int64 → vS → Option ρ} (h : bnd (F_X8_bound N a0 l1 l2 l3 l4 s) f = some res) (hlink : Cond.methodLink own index yX8_bound ∈ TT) (hR : 5 + 1 ≤ fr ∧ 8 + (7 + 11) + 145 ≤ lo) (hls : ls.size = nL) (hr : (rest.map fun v => v.category).sum ≤ 8) (hdg : decode cc pc = .ok (.invokevirtual index, 3)) (kk : ∀ r s', f r s' = some res → V X (cc, own, nL, fr, lo, ini) E sF s' (G0 X (pc + 3) ls (.long r :: rest))) : V X (cc, own, nL, fr, lo, ini) E sF s (G0 X pc ls (.int l4 :: .int l3 :: .int l2 :: .int l1 :: .ref (xb X + a0) :: rest)) := by
  obtain ⟨r, s', e, h⟩ := bnd_some h
  exact v_callV (b := a0) (ci := 8) (As := [.int l1, .int l2, .int l3, .int l4]) (rest := rest) (c_X8_bound X N a0 l1 l2 l3 l4 s s' r e).2 (c_X8_bound (l := xl X) (D := xD X) (ka := xka X) X N a0 l1 l2 l3 l4 s s' r e).1 rfl vl_X8_bound qi_X8_bound qe_X8_bound hlink hR rfl rfl hls hr hdg (kk r s' h)
set_option maxHeartbeats 4000000 in
set_option maxRecDepth 100000 in
theorem L_X8_value_88 {X : VX} {sF : vS} {r : Int64} (N : Nat) (k0 : Int64) (s : vS) (ls : Array Slot) (hl : lv_has ls 3 []) (h : J_X8_value_88 N k0 s = some (r, sF)) : V X (cX8_value, RX8, 3, 6, 148, false) (vRet sF (some (.long r)) (some .long)) sF s (G0 X 88 ls [.long k0]) := by
  unfold J_X8_value_88 at h
  exact v_lret dX8_value_88 h
set_option maxHeartbeats 4000000 in
set_option maxRecDepth 100000 in
theorem L_X8_value_42 {X : VX} {sF : vS} {r : Int64} (N : Nat) (s : vS) (ls : Array Slot) (hl : lv_has ls 3 []) (h : J_X8_value_42 N  s = some (r, sF)) : V X (cX8_value, RX8, 3, 6, 148, false) (vRet sF (some (.long r)) (some .long)) sF s (G0 X 42 ls []) := by
  unfold J_X8_value_42 at h
  refine v_ldc2 qkX8_143 dX8_value_42 ?_
  exact v_lret dX8_value_45 h
theorem vl_X8_value : vCl yX8_value cX8_value 3 (some .long) 2 := ⟨qy_X8_value, qjX8, by decide +kernel, by decide +kernel, by decide +kernel⟩
set_option maxHeartbeats 4000000 in
set_option maxRecDepth 100000 in
theorem c_X8_value {l : Launch} {D : va_G} {ka : Nat → ClassId} (X0 : VX) (N : Nat) (a0 : Nat) (l1 : Int32) (l2 : Int32) (s sF : vS) (r : Int64) (h : F_X8_value N a0 l1 l2 s = some (r, sF)) : isO s a0 8 = true ∧ vMet l D ka (xb X0) yX8_value cX8_value 3 (some .long) 6 148 [.ref (xb X0 + a0), .int l1, .int l2] s sF (some (.long r)) := by
  unfold F_X8_value at h
  unfold rcv at h
  obtain ⟨hO, h⟩ := v_chk h
  refine ⟨hO, vMet.of (ini := false) X0 (plainFor_of_name (by decide +kernel)) (Nat.le_of_ble_eq_true rfl) (fun h => by cases h) (fun X ls hb hl => ?_) rfl⟩
  show V X (cX8_value, RX8, 3, 6, 148, false) (vRet sF (some (.long r)) (some .long)) sF s (G0 X 0 ls [])
  rw [← hb] at hl
  have hl : lv_has ls 3 [(0, .ref (xb X + a0)), (1, .int l1), (2, .int l2)] := hl
  refine v_iload_n dX8_value_0 rfl (lv_at hl 1 rfl) ?_
  refine k_X8_isStore h qmX8_217 (by decide) hl.1 (Nat.le_of_ble_eq_true rfl) dX8_value_1 (fun v1 s h => ?_)
  refine v_if_eq 42 dX8_value_4 (by decide) h (fun h => ?_) (fun h => ?_)
  · exact L_X8_value_42 N  s ls (lv_sub hl [] rfl) h
  · refine v_iload_n dX8_value_7 rfl (lv_at hl 2 rfl) ?_
    refine k_X8_isPart h qmX8_136 (by decide) hl.1 (Nat.le_of_ble_eq_true rfl) dX8_value_8 (fun v2 s h => ?_)
    refine v_if_eq 42 dX8_value_11 (by decide) h (fun h => ?_) (fun h => ?_)
    · exact L_X8_value_42 N  s ls (lv_sub hl [] rfl) h
    · refine v_aload_n dX8_value_14 rfl (lv_at hl 0 rfl) ?_
      refine v_getR 8 8 h (by decide) rfl qfX8_72 dX8_value_15 (fun r3 h => ?_)
      refine v_getR 5 0 h (by decide) rfl qfX8_245 dX8_value_18 (fun r4 h => ?_)
      refine v_iload_n dX8_value_21 rfl (lv_at hl 1 rfl) ?_
      refine v_zald dX8_value_22 h (fun v5 h => ?_)
      refine v_if_eq 42 dX8_value_23 (by decide) h (fun h => ?_) (fun h => ?_)
      · exact L_X8_value_42 N  s ls (lv_sub hl [] rfl) h
      · refine v_aload_n dX8_value_26 rfl (lv_at hl 0 rfl) ?_
        refine v_getR 8 8 h (by decide) rfl qfX8_72 dX8_value_27 (fun r6 h => ?_)
        refine v_getR 5 1 h (by decide) rfl qfX8_235 dX8_value_30 (fun r7 h => ?_)
        refine v_iload_n dX8_value_33 rfl (lv_at hl 1 rfl) ?_
        refine v_aald 5 dX8_value_34 h (fun r8 h => ?_)
        refine v_getI 6 0 h (by decide) (Or.inl rfl) qfX8_249 dX8_value_35 (fun v9 h => ?_)
        refine v_iconst (2 : Int32) dX8_value_38 (by decide) ?_
        refine v_icmp_ne 46 dX8_value_39 (by decide) h (fun h => ?_) (fun h => ?_)
        · refine v_aload_n dX8_value_46 rfl (lv_at hl 0 rfl) ?_
          refine v_getR 8 2 h (by decide) rfl qfX8_28 dX8_value_47 (fun r10 h => ?_)
          refine v_aload_n dX8_value_50 rfl (lv_at hl 0 rfl) ?_
          refine v_getR 8 8 h (by decide) rfl qfX8_72 dX8_value_51 (fun r11 h => ?_)
          refine v_getR 5 1 h (by decide) rfl qfX8_235 dX8_value_54 (fun r12 h => ?_)
          refine v_iload_n dX8_value_57 rfl (lv_at hl 1 rfl) ?_
          refine v_aald 5 dX8_value_58 h (fun r13 h => ?_)
          refine v_aload_n dX8_value_59 rfl (lv_at hl 0 rfl) ?_
          refine v_getR 8 7 h (by decide) rfl qfX8_65 dX8_value_60 (fun r14 h => ?_)
          refine v_iconst (-1 : Int32) dX8_value_63 (by decide) ?_
          refine v_aload_n dX8_value_64 rfl (lv_at hl 0 rfl) ?_
          refine v_getR 8 5 h (by decide) rfl qfX8_51 dX8_value_65 (fun r15 h => ?_)
          refine k_X0_weigh h qmX8_285 (by decide) hl.1 (Nat.le_of_ble_eq_true rfl) dX8_value_68 (fun v16 s h => ?_)
          refine v_if_eq 85 dX8_value_71 (by decide) h (fun h => ?_) (fun h => ?_)
          · refine v_ldc2 qkX8_143 dX8_value_85 ?_
            exact L_X8_value_88 N (-9223372036854775808 : Int64) s ls (lv_sub hl [] rfl) h
          · refine v_aload_n dX8_value_74 rfl (lv_at hl 0 rfl) ?_
            refine v_getR 8 5 h (by decide) rfl qfX8_51 dX8_value_75 (fun r17 h => ?_)
            refine v_iload_n dX8_value_78 rfl (lv_at hl 2 rfl) ?_
            refine k_X2_part h qmX8_156 (by decide) hl.1 (Nat.le_of_ble_eq_true rfl) dX8_value_79 (fun v18 s h => ?_)
            refine v_goto 88 dX8_value_82 (by decide) ?_
            exact L_X8_value_88 N v18 s ls (lv_sub hl [] rfl) h
        · exact L_X8_value_42 N  s ls (lv_sub hl [] rfl) h
theorem k_X8_value {X : VX} {cc : ByteArray} {own : String} {nL fr lo : Nat} {ini : Bool} {E : VX → Prop} {sF s : vS} {ρ : Type} {res : ρ} {pc : Nat} {ls : Array Slot} {rest : List Value} {N index : Nat} {a0 : Nat} {l1 : Int32} {l2 : Int32} {f : Int64 → vS → Option ρ} (h : bnd (F_X8_value N a0 l1 l2 s) f = some res) (hlink : Cond.methodLink own index yX8_value ∈ TT) (hR : 6 + 1 ≤ fr ∧ 8 + (3 + 11) + 148 ≤ lo) (hls : ls.size = nL) (hr : (rest.map fun v => v.category).sum ≤ 8) (hdg : decode cc pc = .ok (.invokevirtual index, 3)) (kk : ∀ r s', f r s' = some res → V X (cc, own, nL, fr, lo, ini) E sF s' (G0 X (pc + 3) ls (.long r :: rest))) : V X (cc, own, nL, fr, lo, ini) E sF s (G0 X pc ls (.int l2 :: .int l1 :: .ref (xb X + a0) :: rest)) := by
  obtain ⟨r, s', e, h⟩ := bnd_some h
  exact v_callV (b := a0) (ci := 8) (As := [.int l1, .int l2]) (rest := rest) (c_X8_value X N a0 l1 l2 s s' r e).2 (c_X8_value (l := xl X) (D := xD X) (ka := xka X) X N a0 l1 l2 s s' r e).1 rfl vl_X8_value qi_X8_value qe_X8_value hlink hR rfl rfl hls hr hdg (kk r s' h)
set_option maxHeartbeats 4000000 in
set_option maxRecDepth 100000 in
theorem L_X8_valueAt_99 {X : VX} {sF : vS} {r : Int64} (N : Nat) (k0 : Int64) (s : vS) (ls : Array Slot) (hl : lv_has ls 4 []) (h : J_X8_valueAt_99 N k0 s = some (r, sF)) : V X (cX8_valueAt, RX8, 4, 6, 148, false) (vRet sF (some (.long r)) (some .long)) sF s (G0 X 99 ls [.long k0]) := by
  unfold J_X8_valueAt_99 at h
  exact v_lret dX8_valueAt_99 h
set_option maxHeartbeats 4000000 in
set_option maxRecDepth 100000 in
theorem L_X8_valueAt_53 {X : VX} {sF : vS} {r : Int64} (N : Nat) (s : vS) (ls : Array Slot) (hl : lv_has ls 4 []) (h : J_X8_valueAt_53 N  s = some (r, sF)) : V X (cX8_valueAt, RX8, 4, 6, 148, false) (vRet sF (some (.long r)) (some .long)) sF s (G0 X 53 ls []) := by
  unfold J_X8_valueAt_53 at h
  refine v_ldc2 qkX8_143 dX8_valueAt_53 ?_
  exact v_lret dX8_valueAt_56 h
theorem vl_X8_valueAt : vCl yX8_valueAt cX8_valueAt 4 (some .long) 3 := ⟨qy_X8_valueAt, qjX8, by decide +kernel, by decide +kernel, by decide +kernel⟩
set_option maxHeartbeats 4000000 in
set_option maxRecDepth 100000 in
theorem c_X8_valueAt {l : Launch} {D : va_G} {ka : Nat → ClassId} (X0 : VX) (N : Nat) (a0 : Nat) (l1 : Int32) (l2 : Int32) (l3 : Int32) (s sF : vS) (r : Int64) (h : F_X8_valueAt N a0 l1 l2 l3 s = some (r, sF)) : isO s a0 8 = true ∧ vMet l D ka (xb X0) yX8_valueAt cX8_valueAt 4 (some .long) 6 148 [.ref (xb X0 + a0), .int l1, .int l2, .int l3] s sF (some (.long r)) := by
  unfold F_X8_valueAt at h
  unfold rcv at h
  obtain ⟨hO, h⟩ := v_chk h
  refine ⟨hO, vMet.of (ini := false) X0 (plainFor_of_name (by decide +kernel)) (Nat.le_of_ble_eq_true rfl) (fun h => by cases h) (fun X ls hb hl => ?_) rfl⟩
  show V X (cX8_valueAt, RX8, 4, 6, 148, false) (vRet sF (some (.long r)) (some .long)) sF s (G0 X 0 ls [])
  rw [← hb] at hl
  have hl : lv_has ls 4 [(0, .ref (xb X + a0)), (1, .int l1), (2, .int l2), (3, .int l3)] := hl
  refine v_iload_n dX8_valueAt_0 rfl (lv_at hl 1 rfl) ?_
  refine k_X8_isStore h qmX8_217 (by decide) hl.1 (Nat.le_of_ble_eq_true rfl) dX8_valueAt_1 (fun v1 s h => ?_)
  refine v_if_eq 53 dX8_valueAt_4 (by decide) h (fun h => ?_) (fun h => ?_)
  · exact L_X8_valueAt_53 N  s ls (lv_sub hl [] rfl) h
  · refine v_aload_n dX8_valueAt_7 rfl (lv_at hl 0 rfl) ?_
    refine v_getR 8 7 h (by decide) rfl qfX8_65 dX8_valueAt_8 (fun r2 h => ?_)
    refine v_iload_n dX8_valueAt_11 rfl (lv_at hl 2 rfl) ?_
    refine k_X3_has h qmX8_168 (by decide) hl.1 (Nat.le_of_ble_eq_true rfl) dX8_valueAt_12 (fun v3 s h => ?_)
    refine v_if_eq 53 dX8_valueAt_15 (by decide) h (fun h => ?_) (fun h => ?_)
    · exact L_X8_valueAt_53 N  s ls (lv_sub hl [] rfl) h
    · refine v_iload_n dX8_valueAt_18 rfl (lv_at hl 3 rfl) ?_
      refine k_X8_isPart h qmX8_136 (by decide) hl.1 (Nat.le_of_ble_eq_true rfl) dX8_valueAt_19 (fun v4 s h => ?_)
      refine v_if_eq 53 dX8_valueAt_22 (by decide) h (fun h => ?_) (fun h => ?_)
      · exact L_X8_valueAt_53 N  s ls (lv_sub hl [] rfl) h
      · refine v_aload_n dX8_valueAt_25 rfl (lv_at hl 0 rfl) ?_
        refine v_getR 8 8 h (by decide) rfl qfX8_72 dX8_valueAt_26 (fun r5 h => ?_)
        refine v_getR 5 0 h (by decide) rfl qfX8_245 dX8_valueAt_29 (fun r6 h => ?_)
        refine v_iload_n dX8_valueAt_32 rfl (lv_at hl 1 rfl) ?_
        refine v_zald dX8_valueAt_33 h (fun v7 h => ?_)
        refine v_if_eq 53 dX8_valueAt_34 (by decide) h (fun h => ?_) (fun h => ?_)
        · exact L_X8_valueAt_53 N  s ls (lv_sub hl [] rfl) h
        · refine v_aload_n dX8_valueAt_37 rfl (lv_at hl 0 rfl) ?_
          refine v_getR 8 8 h (by decide) rfl qfX8_72 dX8_valueAt_38 (fun r8 h => ?_)
          refine v_getR 5 1 h (by decide) rfl qfX8_235 dX8_valueAt_41 (fun r9 h => ?_)
          refine v_iload_n dX8_valueAt_44 rfl (lv_at hl 1 rfl) ?_
          refine v_aald 5 dX8_valueAt_45 h (fun r10 h => ?_)
          refine v_getI 6 0 h (by decide) (Or.inl rfl) qfX8_249 dX8_valueAt_46 (fun v11 h => ?_)
          refine v_iconst (1 : Int32) dX8_valueAt_49 (by decide) ?_
          refine v_icmp_ne 57 dX8_valueAt_50 (by decide) h (fun h => ?_) (fun h => ?_)
          · refine v_aload_n dX8_valueAt_57 rfl (lv_at hl 0 rfl) ?_
            refine v_getR 8 2 h (by decide) rfl qfX8_28 dX8_valueAt_58 (fun r12 h => ?_)
            refine v_aload_n dX8_valueAt_61 rfl (lv_at hl 0 rfl) ?_
            refine v_getR 8 8 h (by decide) rfl qfX8_72 dX8_valueAt_62 (fun r13 h => ?_)
            refine v_getR 5 1 h (by decide) rfl qfX8_235 dX8_valueAt_65 (fun r14 h => ?_)
            refine v_iload_n dX8_valueAt_68 rfl (lv_at hl 1 rfl) ?_
            refine v_aald 5 dX8_valueAt_69 h (fun r15 h => ?_)
            refine v_aload_n dX8_valueAt_70 rfl (lv_at hl 0 rfl) ?_
            refine v_getR 8 7 h (by decide) rfl qfX8_65 dX8_valueAt_71 (fun r16 h => ?_)
            refine v_iload_n dX8_valueAt_74 rfl (lv_at hl 2 rfl) ?_
            refine v_aload_n dX8_valueAt_75 rfl (lv_at hl 0 rfl) ?_
            refine v_getR 8 5 h (by decide) rfl qfX8_51 dX8_valueAt_76 (fun r17 h => ?_)
            refine k_X0_weigh h qmX8_285 (by decide) hl.1 (Nat.le_of_ble_eq_true rfl) dX8_valueAt_79 (fun v18 s h => ?_)
            refine v_if_eq 96 dX8_valueAt_82 (by decide) h (fun h => ?_) (fun h => ?_)
            · refine v_ldc2 qkX8_143 dX8_valueAt_96 ?_
              exact L_X8_valueAt_99 N (-9223372036854775808 : Int64) s ls (lv_sub hl [] rfl) h
            · refine v_aload_n dX8_valueAt_85 rfl (lv_at hl 0 rfl) ?_
              refine v_getR 8 5 h (by decide) rfl qfX8_51 dX8_valueAt_86 (fun r19 h => ?_)
              refine v_iload_n dX8_valueAt_89 rfl (lv_at hl 3 rfl) ?_
              refine k_X2_part h qmX8_156 (by decide) hl.1 (Nat.le_of_ble_eq_true rfl) dX8_valueAt_90 (fun v20 s h => ?_)
              refine v_goto 99 dX8_valueAt_93 (by decide) ?_
              exact L_X8_valueAt_99 N v20 s ls (lv_sub hl [] rfl) h
          · exact L_X8_valueAt_53 N  s ls (lv_sub hl [] rfl) h
theorem k_X8_valueAt {X : VX} {cc : ByteArray} {own : String} {nL fr lo : Nat} {ini : Bool} {E : VX → Prop} {sF s : vS} {ρ : Type} {res : ρ} {pc : Nat} {ls : Array Slot} {rest : List Value} {N index : Nat} {a0 : Nat} {l1 : Int32} {l2 : Int32} {l3 : Int32} {f : Int64 → vS → Option ρ} (h : bnd (F_X8_valueAt N a0 l1 l2 l3 s) f = some res) (hlink : Cond.methodLink own index yX8_valueAt ∈ TT) (hR : 6 + 1 ≤ fr ∧ 8 + (4 + 11) + 148 ≤ lo) (hls : ls.size = nL) (hr : (rest.map fun v => v.category).sum ≤ 8) (hdg : decode cc pc = .ok (.invokevirtual index, 3)) (kk : ∀ r s', f r s' = some res → V X (cc, own, nL, fr, lo, ini) E sF s' (G0 X (pc + 3) ls (.long r :: rest))) : V X (cc, own, nL, fr, lo, ini) E sF s (G0 X pc ls (.int l3 :: .int l2 :: .int l1 :: .ref (xb X + a0) :: rest)) := by
  obtain ⟨r, s', e, h⟩ := bnd_some h
  exact v_callV (b := a0) (ci := 8) (As := [.int l1, .int l2, .int l3]) (rest := rest) (c_X8_valueAt X N a0 l1 l2 l3 s s' r e).2 (c_X8_valueAt (l := xl X) (D := xD X) (ka := xka X) X N a0 l1 l2 l3 s s' r e).1 rfl vl_X8_valueAt qi_X8_valueAt qe_X8_valueAt hlink hR rfl rfl hls hr hdg (kk r s' h)
set_option maxHeartbeats 4000000 in
set_option maxRecDepth 100000 in
theorem L_X8_move_14 {X : VX} {sF : vS} {r : Int32} (N : Nat) (s : vS) (ls : Array Slot) (hl : lv_has ls 3 []) (h : J_X8_move_14 N  s = some (r, sF)) : V X (cX8_move, RX8, 3, 2, 44, false) (vRet sF (some (.int r)) (some .int)) sF s (G0 X 14 ls []) := by
  unfold J_X8_move_14 at h
  refine v_iconst (-1 : Int32) dX8_move_14 (by decide) ?_
  exact v_iret dX8_move_15 h
theorem vl_X8_move : vCl yX8_move cX8_move 3 (some .int) 2 := ⟨qy_X8_move, qjX8, by decide +kernel, by decide +kernel, by decide +kernel⟩
set_option maxHeartbeats 4000000 in
set_option maxRecDepth 100000 in
theorem c_X8_move {l : Launch} {D : va_G} {ka : Nat → ClassId} (X0 : VX) (N : Nat) (a0 : Nat) (l1 : Int32) (l2 : Int32) (s sF : vS) (r : Int32) (h : F_X8_move N a0 l1 l2 s = some (r, sF)) : isO s a0 8 = true ∧ vMet l D ka (xb X0) yX8_move cX8_move 3 (some .int) 2 44 [.ref (xb X0 + a0), .int l1, .int l2] s sF (some (.int r)) := by
  unfold F_X8_move at h
  unfold rcv at h
  obtain ⟨hO, h⟩ := v_chk h
  refine ⟨hO, vMet.of (ini := false) X0 (plainFor_of_name (by decide +kernel)) (Nat.le_of_ble_eq_true rfl) (fun h => by cases h) (fun X ls hb hl => ?_) rfl⟩
  show V X (cX8_move, RX8, 3, 2, 44, false) (vRet sF (some (.int r)) (some .int)) sF s (G0 X 0 ls [])
  rw [← hb] at hl
  have hl : lv_has ls 3 [(0, .ref (xb X + a0)), (1, .int l1), (2, .int l2)] := hl
  refine v_iload_n dX8_move_0 rfl (lv_at hl 1 rfl) ?_
  refine k_X8_isStore h qmX8_217 (by decide) hl.1 (Nat.le_of_ble_eq_true rfl) dX8_move_1 (fun v1 s h => ?_)
  refine v_if_eq 14 dX8_move_4 (by decide) h (fun h => ?_) (fun h => ?_)
  · exact L_X8_move_14 N  s ls (lv_sub hl [] rfl) h
  · refine v_iload_n dX8_move_7 rfl (lv_at hl 2 rfl) ?_
    refine k_X8_isStore h qmX8_217 (by decide) hl.1 (Nat.le_of_ble_eq_true rfl) dX8_move_8 (fun v2 s h => ?_)
    refine v_if_ne 16 dX8_move_11 (by decide) h (fun h => ?_) (fun h => ?_)
    · refine v_aload_n dX8_move_16 rfl (lv_at hl 0 rfl) ?_
      refine v_getR 8 8 h (by decide) rfl qfX8_72 dX8_move_17 (fun r3 h => ?_)
      refine v_getR 5 0 h (by decide) rfl qfX8_245 dX8_move_20 (fun r4 h => ?_)
      refine v_iload_n dX8_move_23 rfl (lv_at hl 1 rfl) ?_
      refine v_zald dX8_move_24 h (fun v5 h => ?_)
      refine v_if_ne 38 dX8_move_25 (by decide) h (fun h => ?_) (fun h => ?_)
      · refine v_aload_n dX8_move_38 rfl (lv_at hl 0 rfl) ?_
        refine v_getR 8 8 h (by decide) rfl qfX8_72 dX8_move_39 (fun r6 h => ?_)
        refine v_iload_n dX8_move_42 rfl (lv_at hl 2 rfl) ?_
        refine v_aload_n dX8_move_43 rfl (lv_at hl 0 rfl) ?_
        refine v_getR 8 8 h (by decide) rfl qfX8_72 dX8_move_44 (fun r7 h => ?_)
        refine v_getR 5 1 h (by decide) rfl qfX8_235 dX8_move_47 (fun r8 h => ?_)
        refine v_iload_n dX8_move_50 rfl (lv_at hl 1 rfl) ?_
        refine v_aald 5 dX8_move_51 h (fun r9 h => ?_)
        refine k_X5_put h qmX8_231 (by decide) hl.1 (Nat.le_of_ble_eq_true rfl) dX8_move_52 (fun v10 s h => ?_)
        exact v_iret dX8_move_55 h
      · refine v_aload_n dX8_move_28 rfl (lv_at hl 0 rfl) ?_
        refine v_getR 8 8 h (by decide) rfl qfX8_72 dX8_move_29 (fun r11 h => ?_)
        refine v_iload_n dX8_move_32 rfl (lv_at hl 2 rfl) ?_
        refine k_X5_drop h qmX8_242 (by decide) hl.1 (Nat.le_of_ble_eq_true rfl) dX8_move_33 (fun v12 s h => ?_)
        refine v_iconst (0 : Int32) dX8_move_36 (by decide) ?_
        exact v_iret dX8_move_37 h
    · exact L_X8_move_14 N  s ls (lv_sub hl [] rfl) h
theorem k_X8_move {X : VX} {cc : ByteArray} {own : String} {nL fr lo : Nat} {ini : Bool} {E : VX → Prop} {sF s : vS} {ρ : Type} {res : ρ} {pc : Nat} {ls : Array Slot} {rest : List Value} {N index : Nat} {a0 : Nat} {l1 : Int32} {l2 : Int32} {f : Int32 → vS → Option ρ} (h : bnd (F_X8_move N a0 l1 l2 s) f = some res) (hlink : Cond.methodLink own index yX8_move ∈ TT) (hR : 2 + 1 ≤ fr ∧ 8 + (3 + 11) + 44 ≤ lo) (hls : ls.size = nL) (hr : (rest.map fun v => v.category).sum ≤ 8) (hdg : decode cc pc = .ok (.invokevirtual index, 3)) (kk : ∀ r s', f r s' = some res → V X (cc, own, nL, fr, lo, ini) E sF s' (G0 X (pc + 3) ls (.int r :: rest))) : V X (cc, own, nL, fr, lo, ini) E sF s (G0 X pc ls (.int l2 :: .int l1 :: .ref (xb X + a0) :: rest)) := by
  obtain ⟨r, s', e, h⟩ := bnd_some h
  exact v_callV (b := a0) (ci := 8) (As := [.int l1, .int l2]) (rest := rest) (c_X8_move X N a0 l1 l2 s s' r e).2 (c_X8_move (l := xl X) (D := xD X) (ka := xka X) X N a0 l1 l2 s s' r e).1 rfl vl_X8_move qi_X8_move qe_X8_move hlink hR rfl rfl hls hr hdg (kk r s' h)
set_option maxHeartbeats 4000000 in
set_option maxRecDepth 100000 in
theorem L_X8_film_64 {X : VX} {sF : vS} {r : Int32} (N : Nat) : ∀ (n : Nat) (a0 : Nat) (l1 : Int32) (l2 : Int32) (l3 : Int32) (s : vS) (ls : Array Slot), lv_has ls 5 [(0, .ref (xb X + a0)), (1, .int l1), (2, .int l2), (3, .int l3)] → H_X8_film_64 N n a0 l1 l2 l3 s = some (r, sF) → V X (cX8_film, RX8, 5, 4, 98, false) (vRet sF (some (.int r)) (some .int)) sF s (G0 X 64 ls []) := by
  intro n
  induction n with
  | zero => intro a0 l1 l2 l3 s ls hl h; cases h
  | succ n ih =>
   intro a0 l1 l2 l3 s ls hl h
   unfold H_X8_film_64 at h
   refine v_iload_n dX8_film_64 rfl (lv_at hl 3 rfl) ?_
   refine v_aload_n dX8_film_65 rfl (lv_at hl 0 rfl) ?_
   refine v_getR 8 0 h (by decide) rfl qfX8_16 dX8_film_66 (fun r12 h => ?_)
   refine v_getI 1 12 h (by decide) (Or.inl rfl) qfX8_205 dX8_film_69 (fun v13 h => ?_)
   refine v_icmp_ge 139 dX8_film_72 (by decide) h (fun h => ?_) (fun h => ?_)
   · refine v_aload_n dX8_film_139 rfl (lv_at hl 0 rfl) ?_
     refine v_getR 8 8 h (by decide) rfl qfX8_72 dX8_film_140 (fun r14 h => ?_)
     refine v_iload_n dX8_film_143 rfl (lv_at hl 1 rfl) ?_
     refine v_aload_n dX8_film_144 rfl (lv_at hl 0 rfl) ?_
     refine v_getR 8 6 h (by decide) rfl qfX8_58 dX8_film_145 (fun r15 h => ?_)
     refine k_X5_put h qmX8_231 (by decide) hl.1 (Nat.le_of_ble_eq_true rfl) dX8_film_148 (fun v16 s h => ?_)
     exact v_iret dX8_film_151 h
   · refine v_aload_n dX8_film_75 rfl (lv_at hl 0 rfl) ?_
     refine v_getR 8 0 h (by decide) rfl qfX8_16 dX8_film_76 (fun r17 h => ?_)
     refine v_getR 1 11 h (by decide) rfl qfX8_208 dX8_film_79 (fun r18 h => ?_)
     refine v_iload_n dX8_film_82 rfl (lv_at hl 3 rfl) ?_
     refine v_iald dX8_film_83 h (fun v19 h => ?_)
     refine v_istore [(4, .int v19), (0, .ref (xb X + a0)), (1, .int l1), (2, .int l2), (3, .int l3)] dX8_film_84 hl (by decide) rfl (fun ls hl => ?_)
     refine v_aload_n dX8_film_86 rfl (lv_at hl 1 rfl) ?_
     refine v_getR 8 5 h (by decide) rfl qfX8_51 dX8_film_87 (fun r20 h => ?_)
     refine v_aload_n dX8_film_90 rfl (lv_at hl 1 rfl) ?_
     refine v_getR 8 0 h (by decide) rfl qfX8_16 dX8_film_91 (fun r21 h => ?_)
     refine v_getR 1 10 h (by decide) rfl qfX8_292 dX8_film_94 (fun r22 h => ?_)
     refine v_iload dX8_film_97 (lv_at hl 0 rfl) ?_
     refine v_iald dX8_film_99 h (fun v23 h => ?_)
     refine v_i2l dX8_film_100 ?_
     refine v_aload_n dX8_film_101 rfl (lv_at hl 1 rfl) ?_
     refine v_getR 8 0 h (by decide) rfl qfX8_16 dX8_film_102 (fun r24 h => ?_)
     refine v_aload_n dX8_film_105 rfl (lv_at hl 1 rfl) ?_
     refine v_getR 8 7 h (by decide) rfl qfX8_65 dX8_film_106 (fun r25 h => ?_)
     refine v_getI 3 0 h (by decide) (Or.inl rfl) qfX8_160 dX8_film_109 (fun v26 h => ?_)
     refine v_iload_n dX8_film_112 rfl (lv_at hl 3 rfl) ?_
     refine k_X1_setsIn h qmX8_295 (by decide) hl.1 (Nat.le_of_ble_eq_true rfl) dX8_film_113 (fun v27 s h => ?_)
     refine v_i2l dX8_film_116 ?_
     refine k_X2_become h qmX8_152 (by decide) hl.1 (Nat.le_of_ble_eq_true rfl) dX8_film_117 (fun v28 s h => ?_)
     refine v_aload_n dX8_film_120 rfl (lv_at hl 1 rfl) ?_
     refine v_getR 8 6 h (by decide) rfl qfX8_58 dX8_film_121 (fun r29 h => ?_)
     refine v_iload dX8_film_124 (lv_at hl 0 rfl) ?_
     refine v_aload_n dX8_film_126 rfl (lv_at hl 1 rfl) ?_
     refine v_getR 8 5 h (by decide) rfl qfX8_51 dX8_film_127 (fun r30 h => ?_)
     refine k_X6_take h qmX8_298 (by decide) hl.1 (Nat.le_of_ble_eq_true rfl) dX8_film_130 (fun v31 s h => ?_)
     refine v_inc (fun z => [(3, .int z), (4, .int v19), (0, .ref (xb X + a0)), (1, .int l1), (2, .int l2)]) dX8_film_133 h hl (k := 4) rfl (by rfl) (by decide) (fun _ => rfl) (fun l3_32 ls hl h => ?_)
     refine v_goto 64 dX8_film_136 (by decide) ?_
     exact ih a0 l1 l2 l3_32 s ls (lv_sub hl [2, 3, 4, 0] rfl) h
set_option maxHeartbeats 4000000 in
set_option maxRecDepth 100000 in
theorem L_X8_film_18 {X : VX} {sF : vS} {r : Int32} (N : Nat) (s : vS) (ls : Array Slot) (hl : lv_has ls 5 []) (h : J_X8_film_18 N  s = some (r, sF)) : V X (cX8_film, RX8, 5, 4, 98, false) (vRet sF (some (.int r)) (some .int)) sF s (G0 X 18 ls []) := by
  unfold J_X8_film_18 at h
  refine v_iconst (-1 : Int32) dX8_film_18 (by decide) ?_
  exact v_iret dX8_film_19 h
theorem vl_X8_film : vCl yX8_film cX8_film 5 (some .int) 2 := ⟨qy_X8_film, qjX8, by decide +kernel, by decide +kernel, by decide +kernel⟩
set_option maxHeartbeats 4000000 in
set_option maxRecDepth 100000 in
theorem c_X8_film {l : Launch} {D : va_G} {ka : Nat → ClassId} (X0 : VX) (N : Nat) (a0 : Nat) (l1 : Int32) (l2 : Int32) (s sF : vS) (r : Int32) (h : F_X8_film N a0 l1 l2 s = some (r, sF)) : isO s a0 8 = true ∧ vMet l D ka (xb X0) yX8_film cX8_film 5 (some .int) 4 98 [.ref (xb X0 + a0), .int l1, .int l2] s sF (some (.int r)) := by
  unfold F_X8_film at h
  unfold rcv at h
  obtain ⟨hO, h⟩ := v_chk h
  refine ⟨hO, vMet.of (ini := false) X0 (plainFor_of_name (by decide +kernel)) (Nat.le_of_ble_eq_true rfl) (fun h => by cases h) (fun X ls hb hl => ?_) rfl⟩
  show V X (cX8_film, RX8, 5, 4, 98, false) (vRet sF (some (.int r)) (some .int)) sF s (G0 X 0 ls [])
  rw [← hb] at hl
  have hl : lv_has ls 5 [(0, .ref (xb X + a0)), (1, .int l1), (2, .int l2)] := hl
  refine v_iload_n dX8_film_0 rfl (lv_at hl 1 rfl) ?_
  refine k_X8_isStore h qmX8_217 (by decide) hl.1 (Nat.le_of_ble_eq_true rfl) dX8_film_1 (fun v1 s h => ?_)
  refine v_if_eq 18 dX8_film_4 (by decide) h (fun h => ?_) (fun h => ?_)
  · exact L_X8_film_18 N  s ls (lv_sub hl [] rfl) h
  · refine v_aload_n dX8_film_7 rfl (lv_at hl 0 rfl) ?_
    refine v_getR 8 0 h (by decide) rfl qfX8_16 dX8_film_8 (fun r2 h => ?_)
    refine v_iload_n dX8_film_11 rfl (lv_at hl 2 rfl) ?_
    refine k_X1_hasSize h qmX8_122 (by decide) hl.1 (Nat.le_of_ble_eq_true rfl) dX8_film_12 (fun v3 s h => ?_)
    refine v_if_ne 20 dX8_film_15 (by decide) h (fun h => ?_) (fun h => ?_)
    · refine v_aload_n dX8_film_20 rfl (lv_at hl 0 rfl) ?_
      refine v_getR 8 7 h (by decide) rfl qfX8_65 dX8_film_21 (fun r4 h => ?_)
      refine v_getI 3 0 h (by decide) (Or.inl rfl) qfX8_160 dX8_film_24 (fun v5 h => ?_)
      refine v_iload_n dX8_film_27 rfl (lv_at hl 2 rfl) ?_
      refine v_icmp_ge 34 dX8_film_28 (by decide) h (fun h => ?_) (fun h => ?_)
      · refine v_aload_n dX8_film_34 rfl (lv_at hl 0 rfl) ?_
        refine v_getR 8 0 h (by decide) rfl qfX8_16 dX8_film_35 (fun r6 h => ?_)
        refine v_aload_n dX8_film_38 rfl (lv_at hl 0 rfl) ?_
        refine v_getR 8 7 h (by decide) rfl qfX8_65 dX8_film_39 (fun r7 h => ?_)
        refine v_iconst (-1 : Int32) dX8_film_42 (by decide) ?_
        refine v_iload_n dX8_film_43 rfl (lv_at hl 2 rfl) ?_
        refine k_X1_tally h qmX8_198 (by decide) hl.1 (Nat.le_of_ble_eq_true rfl) dX8_film_44 (fun v8 s h => ?_)
        refine v_aload_n dX8_film_47 rfl (lv_at hl 0 rfl) ?_
        refine v_getR 8 6 h (by decide) rfl qfX8_58 dX8_film_48 (fun r9 h => ?_)
        refine k_X6_empty h qmX8_289 (by decide) hl.1 (Nat.le_of_ble_eq_true rfl) dX8_film_51 (fun v10 s h => ?_)
        refine v_aload_n dX8_film_54 rfl (lv_at hl 0 rfl) ?_
        refine v_getR 8 6 h (by decide) rfl qfX8_58 dX8_film_55 (fun r11 h => ?_)
        refine v_iconst (1 : Int32) dX8_film_58 (by decide) ?_
        refine v_putI 6 0 h (by decide) rfl (Or.inl rfl) qfX8_249 dX8_film_59 (fun s h => ?_)
        refine v_iconst (0 : Int32) dX8_film_62 (by decide) ?_
        refine v_istore_n [(3, .int (0 : Int32)), (0, .ref (xb X + a0)), (1, .int l1), (2, .int l2)] dX8_film_63 rfl hl (by decide) rfl (fun ls hl => ?_)
        exact L_X8_film_64 N N a0 l1 l2 (0 : Int32) s ls (lv_sub hl [1, 2, 3, 0] rfl) h
      · refine v_bipush (-3 : Int32) dX8_film_31 (by decide) ?_
        exact v_iret dX8_film_33 h
    · exact L_X8_film_18 N  s ls (lv_sub hl [] rfl) h
theorem k_X8_film {X : VX} {cc : ByteArray} {own : String} {nL fr lo : Nat} {ini : Bool} {E : VX → Prop} {sF s : vS} {ρ : Type} {res : ρ} {pc : Nat} {ls : Array Slot} {rest : List Value} {N index : Nat} {a0 : Nat} {l1 : Int32} {l2 : Int32} {f : Int32 → vS → Option ρ} (h : bnd (F_X8_film N a0 l1 l2 s) f = some res) (hlink : Cond.methodLink own index yX8_film ∈ TT) (hR : 4 + 1 ≤ fr ∧ 8 + (5 + 11) + 98 ≤ lo) (hls : ls.size = nL) (hr : (rest.map fun v => v.category).sum ≤ 8) (hdg : decode cc pc = .ok (.invokevirtual index, 3)) (kk : ∀ r s', f r s' = some res → V X (cc, own, nL, fr, lo, ini) E sF s' (G0 X (pc + 3) ls (.int r :: rest))) : V X (cc, own, nL, fr, lo, ini) E sF s (G0 X pc ls (.int l2 :: .int l1 :: .ref (xb X + a0) :: rest)) := by
  obtain ⟨r, s', e, h⟩ := bnd_some h
  exact v_callV (b := a0) (ci := 8) (As := [.int l1, .int l2]) (rest := rest) (c_X8_film X N a0 l1 l2 s s' r e).2 (c_X8_film (l := xl X) (D := xD X) (ka := xka X) X N a0 l1 l2 s s' r e).1 rfl vl_X8_film qi_X8_film qe_X8_film hlink hR rfl rfl hls hr hdg (kk r s' h)
theorem vl_X8_image : vCl yX8_image cX8_image 1 (some .int) 0 := ⟨qy_X8_image, qjX8, by decide +kernel, by decide +kernel, by decide +kernel⟩
set_option maxHeartbeats 4000000 in
set_option maxRecDepth 100000 in
theorem c_X8_image {l : Launch} {D : va_G} {ka : Nat → ClassId} (X0 : VX) (N : Nat) (a0 : Nat) (s sF : vS) (r : Int32) (h : F_X8_image N a0 s = some (r, sF)) : isO s a0 8 = true ∧ vMet l D ka (xb X0) yX8_image cX8_image 1 (some .int) 2 44 [.ref (xb X0 + a0)] s sF (some (.int r)) := by
  unfold F_X8_image at h
  unfold rcv at h
  obtain ⟨hO, h⟩ := v_chk h
  refine ⟨hO, vMet.of (ini := false) X0 (plainFor_of_name (by decide +kernel)) (Nat.le_of_ble_eq_true rfl) (fun h => by cases h) (fun X ls hb hl => ?_) rfl⟩
  show V X (cX8_image, RX8, 1, 2, 44, false) (vRet sF (some (.int r)) (some .int)) sF s (G0 X 0 ls [])
  rw [← hb] at hl
  have hl : lv_has ls 1 [(0, .ref (xb X + a0))] := hl
  refine v_aload_n dX8_image_0 rfl (lv_at hl 0 rfl) ?_
  refine v_getR 8 9 h (by decide) rfl qfX8_76 dX8_image_1 (fun r1 h => ?_)
  refine v_aload_n dX8_image_4 rfl (lv_at hl 0 rfl) ?_
  refine v_getR 8 7 h (by decide) rfl qfX8_65 dX8_image_5 (fun r2 h => ?_)
  refine k_X3_become h qmX8_302 (by decide) hl.1 (Nat.le_of_ble_eq_true rfl) dX8_image_8 (fun v3 s h => ?_)
  refine v_aload_n dX8_image_11 rfl (lv_at hl 0 rfl) ?_
  refine v_getR 8 10 h (by decide) rfl qfX8_79 dX8_image_12 (fun r4 h => ?_)
  refine v_aload_n dX8_image_15 rfl (lv_at hl 0 rfl) ?_
  refine v_getR 8 8 h (by decide) rfl qfX8_72 dX8_image_16 (fun r5 h => ?_)
  refine k_X5_become h qmX8_305 (by decide) hl.1 (Nat.le_of_ble_eq_true rfl) dX8_image_19 (fun v6 s h => ?_)
  refine v_aload_n dX8_image_22 rfl (lv_at hl 0 rfl) ?_
  refine v_iconst (1 : Int32) dX8_image_23 (by decide) ?_
  refine v_putZ 8 11 h (by decide) rfl (Or.inl rfl) qfX8_82 dX8_image_24 (fun s h => ?_)
  refine v_aload_n dX8_image_27 rfl (lv_at hl 0 rfl) ?_
  refine v_getR 8 7 h (by decide) rfl qfX8_65 dX8_image_28 (fun r7 h => ?_)
  refine v_getI 3 0 h (by decide) (Or.inl rfl) qfX8_160 dX8_image_31 (fun v8 h => ?_)
  exact v_iret dX8_image_34 h
theorem k_X8_image {X : VX} {cc : ByteArray} {own : String} {nL fr lo : Nat} {ini : Bool} {E : VX → Prop} {sF s : vS} {ρ : Type} {res : ρ} {pc : Nat} {ls : Array Slot} {rest : List Value} {N index : Nat} {a0 : Nat} {f : Int32 → vS → Option ρ} (h : bnd (F_X8_image N a0 s) f = some res) (hlink : Cond.methodLink own index yX8_image ∈ TT) (hR : 2 + 1 ≤ fr ∧ 8 + (1 + 11) + 44 ≤ lo) (hls : ls.size = nL) (hr : (rest.map fun v => v.category).sum ≤ 8) (hdg : decode cc pc = .ok (.invokevirtual index, 3)) (kk : ∀ r s', f r s' = some res → V X (cc, own, nL, fr, lo, ini) E sF s' (G0 X (pc + 3) ls (.int r :: rest))) : V X (cc, own, nL, fr, lo, ini) E sF s (G0 X pc ls (.ref (xb X + a0) :: rest)) := by
  obtain ⟨r, s', e, h⟩ := bnd_some h
  exact v_callV (b := a0) (ci := 8) (As := []) (rest := rest) (c_X8_image X N a0 s s' r e).2 (c_X8_image (l := xl X) (D := xD X) (ka := xka X) X N a0 s s' r e).1 rfl vl_X8_image qi_X8_image qe_X8_image hlink hR rfl rfl hls hr hdg (kk r s' h)
theorem vl_X8_back : vCl yX8_back cX8_back 1 (some .int) 0 := ⟨qy_X8_back, qjX8, by decide +kernel, by decide +kernel, by decide +kernel⟩
set_option maxHeartbeats 4000000 in
set_option maxRecDepth 100000 in
theorem c_X8_back {l : Launch} {D : va_G} {ka : Nat → ClassId} (X0 : VX) (N : Nat) (a0 : Nat) (s sF : vS) (r : Int32) (h : F_X8_back N a0 s = some (r, sF)) : isO s a0 8 = true ∧ vMet l D ka (xb X0) yX8_back cX8_back 1 (some .int) 2 44 [.ref (xb X0 + a0)] s sF (some (.int r)) := by
  unfold F_X8_back at h
  unfold rcv at h
  obtain ⟨hO, h⟩ := v_chk h
  refine ⟨hO, vMet.of (ini := false) X0 (plainFor_of_name (by decide +kernel)) (Nat.le_of_ble_eq_true rfl) (fun h => by cases h) (fun X ls hb hl => ?_) rfl⟩
  show V X (cX8_back, RX8, 1, 2, 44, false) (vRet sF (some (.int r)) (some .int)) sF s (G0 X 0 ls [])
  rw [← hb] at hl
  have hl : lv_has ls 1 [(0, .ref (xb X + a0))] := hl
  refine v_aload_n dX8_back_0 rfl (lv_at hl 0 rfl) ?_
  refine v_getI 8 11 h (by decide) (Or.inr rfl) qfX8_82 dX8_back_1 (fun v1 h => ?_)
  refine v_if_ne 10 dX8_back_4 (by decide) h (fun h => ?_) (fun h => ?_)
  · refine v_aload_n dX8_back_10 rfl (lv_at hl 0 rfl) ?_
    refine v_getR 8 7 h (by decide) rfl qfX8_65 dX8_back_11 (fun r2 h => ?_)
    refine v_aload_n dX8_back_14 rfl (lv_at hl 0 rfl) ?_
    refine v_getR 8 9 h (by decide) rfl qfX8_76 dX8_back_15 (fun r3 h => ?_)
    refine k_X3_become h qmX8_302 (by decide) hl.1 (Nat.le_of_ble_eq_true rfl) dX8_back_18 (fun v4 s h => ?_)
    refine v_aload_n dX8_back_21 rfl (lv_at hl 0 rfl) ?_
    refine v_getR 8 8 h (by decide) rfl qfX8_72 dX8_back_22 (fun r5 h => ?_)
    refine v_aload_n dX8_back_25 rfl (lv_at hl 0 rfl) ?_
    refine v_getR 8 10 h (by decide) rfl qfX8_79 dX8_back_26 (fun r6 h => ?_)
    refine k_X5_become h qmX8_305 (by decide) hl.1 (Nat.le_of_ble_eq_true rfl) dX8_back_29 (fun v7 s h => ?_)
    refine v_aload_n dX8_back_32 rfl (lv_at hl 0 rfl) ?_
    refine v_getR 8 7 h (by decide) rfl qfX8_65 dX8_back_33 (fun r8 h => ?_)
    refine v_getI 3 0 h (by decide) (Or.inl rfl) qfX8_160 dX8_back_36 (fun v9 h => ?_)
    exact v_iret dX8_back_39 h
  · refine v_bipush (-3 : Int32) dX8_back_7 (by decide) ?_
    exact v_iret dX8_back_9 h
theorem k_X8_back {X : VX} {cc : ByteArray} {own : String} {nL fr lo : Nat} {ini : Bool} {E : VX → Prop} {sF s : vS} {ρ : Type} {res : ρ} {pc : Nat} {ls : Array Slot} {rest : List Value} {N index : Nat} {a0 : Nat} {f : Int32 → vS → Option ρ} (h : bnd (F_X8_back N a0 s) f = some res) (hlink : Cond.methodLink own index yX8_back ∈ TT) (hR : 2 + 1 ≤ fr ∧ 8 + (1 + 11) + 44 ≤ lo) (hls : ls.size = nL) (hr : (rest.map fun v => v.category).sum ≤ 8) (hdg : decode cc pc = .ok (.invokevirtual index, 3)) (kk : ∀ r s', f r s' = some res → V X (cc, own, nL, fr, lo, ini) E sF s' (G0 X (pc + 3) ls (.int r :: rest))) : V X (cc, own, nL, fr, lo, ini) E sF s (G0 X pc ls (.ref (xb X + a0) :: rest)) := by
  obtain ⟨r, s', e, h⟩ := bnd_some h
  exact v_callV (b := a0) (ci := 8) (As := []) (rest := rest) (c_X8_back X N a0 s s' r e).2 (c_X8_back (l := xl X) (D := xD X) (ka := xka X) X N a0 s s' r e).1 rfl vl_X8_back qi_X8_back qe_X8_back hlink hR rfl rfl hls hr hdg (kk r s' h)
theorem vl_X8_count : vCl yX8_count cX8_count 2 (some .int) 1 := ⟨qy_X8_count, qjX8, by decide +kernel, by decide +kernel, by decide +kernel⟩
set_option maxHeartbeats 4000000 in
set_option maxRecDepth 100000 in
theorem c_X8_count {l : Launch} {D : va_G} {ka : Nat → ClassId} (X0 : VX) (N : Nat) (a0 : Nat) (l1 : Int32) (s sF : vS) (r : Int32) (h : F_X8_count N a0 l1 s = some (r, sF)) : isO s a0 8 = true ∧ vMet l D ka (xb X0) yX8_count cX8_count 2 (some .int) 2 44 [.ref (xb X0 + a0), .int l1] s sF (some (.int r)) := by
  unfold F_X8_count at h
  unfold rcv at h
  obtain ⟨hO, h⟩ := v_chk h
  refine ⟨hO, vMet.of (ini := false) X0 (plainFor_of_name (by decide +kernel)) (Nat.le_of_ble_eq_true rfl) (fun h => by cases h) (fun X ls hb hl => ?_) rfl⟩
  show V X (cX8_count, RX8, 2, 2, 44, false) (vRet sF (some (.int r)) (some .int)) sF s (G0 X 0 ls [])
  rw [← hb] at hl
  have hl : lv_has ls 2 [(0, .ref (xb X + a0)), (1, .int l1)] := hl
  refine v_iload_n dX8_count_0 rfl (lv_at hl 1 rfl) ?_
  refine v_tswc (0 : Int32) 28 dX8_count_1 (by decide) (by decide) (by rfl) (by decide) h (fun h => ?_) (fun h0 h => ?_)
  · refine v_aload_n dX8_count_28 rfl (lv_at hl 0 rfl) ?_
    refine v_getR 8 3 h (by decide) rfl qfX8_35 dX8_count_29 (fun r5 h => ?_)
    refine v_getI 7 3 h (by decide) (Or.inl rfl) qfX8_211 dX8_count_32 (fun v6 h => ?_)
    exact v_iret dX8_count_35 h
  · refine v_tswc (1 : Int32) 36 dX8_count_1 (by decide) (by decide) (by rfl) (by decide) h (fun h => ?_) (fun h1 h => ?_)
    · refine v_aload_n dX8_count_36 rfl (lv_at hl 0 rfl) ?_
      refine v_getR 8 8 h (by decide) rfl qfX8_72 dX8_count_37 (fun r3 h => ?_)
      refine k_X5_held h qmX8_308 (by decide) hl.1 (Nat.le_of_ble_eq_true rfl) dX8_count_40 (fun v4 s h => ?_)
      exact v_iret dX8_count_43 h
    · refine v_tswc (2 : Int32) 44 dX8_count_1 (by decide) (by decide) (by rfl) (by decide) h (fun h => ?_) (fun h2 h => ?_)
      · refine v_aload_n dX8_count_44 rfl (lv_at hl 0 rfl) ?_
        refine v_getR 8 8 h (by decide) rfl qfX8_72 dX8_count_45 (fun r1 h => ?_)
        refine k_X5_terms h qmX8_311 (by decide) hl.1 (Nat.le_of_ble_eq_true rfl) dX8_count_48 (fun v2 s h => ?_)
        exact v_iret dX8_count_51 h
      · have g0 := tsw_ne (c := (0 : Int32)) (i := 0) rfl h0
        have g1 := tsw_ne (c := (1 : Int32)) (i := 1) rfl h1
        have g2 := tsw_ne (c := (2 : Int32)) (i := 2) rfl h2
        refine v_tswd 52 dX8_count_1 (by omega) (by decide) ?_
        refine v_iconst (-1 : Int32) dX8_count_52 (by decide) ?_
        exact v_iret dX8_count_53 h
theorem k_X8_count {X : VX} {cc : ByteArray} {own : String} {nL fr lo : Nat} {ini : Bool} {E : VX → Prop} {sF s : vS} {ρ : Type} {res : ρ} {pc : Nat} {ls : Array Slot} {rest : List Value} {N index : Nat} {a0 : Nat} {l1 : Int32} {f : Int32 → vS → Option ρ} (h : bnd (F_X8_count N a0 l1 s) f = some res) (hlink : Cond.methodLink own index yX8_count ∈ TT) (hR : 2 + 1 ≤ fr ∧ 8 + (2 + 11) + 44 ≤ lo) (hls : ls.size = nL) (hr : (rest.map fun v => v.category).sum ≤ 8) (hdg : decode cc pc = .ok (.invokevirtual index, 3)) (kk : ∀ r s', f r s' = some res → V X (cc, own, nL, fr, lo, ini) E sF s' (G0 X (pc + 3) ls (.int r :: rest))) : V X (cc, own, nL, fr, lo, ini) E sF s (G0 X pc ls (.int l1 :: .ref (xb X + a0) :: rest)) := by
  obtain ⟨r, s', e, h⟩ := bnd_some h
  exact v_callV (b := a0) (ci := 8) (As := [.int l1]) (rest := rest) (c_X8_count X N a0 l1 s s' r e).2 (c_X8_count (l := xl X) (D := xD X) (ka := xka X) X N a0 l1 s s' r e).1 rfl vl_X8_count qi_X8_count qe_X8_count hlink hR rfl rfl hls hr hdg (kk r s' h)
set_option maxHeartbeats 4000000 in
set_option maxRecDepth 100000 in
theorem L_X9_in_15 {X : VX} {sF : vS} {r : Int32} (N : Nat) (k0 : Int32) (s : vS) (ls : Array Slot) (hl : lv_has ls 3 []) (h : J_X9_in_15 N k0 s = some (r, sF)) : V X (cX9_in, RX9, 3, 0, 0, false) (vRet sF (some (.int r)) (some .boolean)) sF s (G0 X 15 ls [.int k0]) := by
  unfold J_X9_in_15 at h
  exact v_zret dX9_in_15 h
set_option maxHeartbeats 4000000 in
set_option maxRecDepth 100000 in
theorem L_X9_in_14 {X : VX} {sF : vS} {r : Int32} (N : Nat) (s : vS) (ls : Array Slot) (hl : lv_has ls 3 []) (h : J_X9_in_14 N  s = some (r, sF)) : V X (cX9_in, RX9, 3, 0, 0, false) (vRet sF (some (.int r)) (some .boolean)) sF s (G0 X 14 ls []) := by
  unfold J_X9_in_14 at h
  refine v_iconst (0 : Int32) dX9_in_14 (by decide) ?_
  exact L_X9_in_15 N (0 : Int32) s ls (lv_sub hl [] rfl) h
theorem vl_X9_in : vCl yX9_in cX9_in 3 (some .boolean) 3 := ⟨qy_X9_in, qjX9, by decide +kernel, by decide +kernel, by decide +kernel⟩
set_option maxHeartbeats 4000000 in
set_option maxRecDepth 100000 in
theorem c_X9_in {l : Launch} {D : va_G} {ka : Nat → ClassId} (X0 : VX) (N : Nat) (l0 : Int32) (l1 : Int32) (l2 : Int32) (s sF : vS) (r : Int32) (h : F_X9_in N l0 l1 l2 s = some (r, sF)) : vMet l D ka (xb X0) yX9_in cX9_in 3 (some .boolean) 0 0 [.int l0, .int l1, .int l2] s sF (some (.int r)) := by
  unfold F_X9_in at h
  refine vMet.of (ini := false) X0 (plainFor_of_name (by decide +kernel)) (Nat.le_of_ble_eq_true rfl) (fun h => by cases h) (fun X ls hb hl => ?_) rfl
  show V X (cX9_in, RX9, 3, 0, 0, false) (vRet sF (some (.int r)) (some .boolean)) sF s (G0 X 0 ls [])
  have hl : lv_has ls 3 [(0, .int l0), (1, .int l1), (2, .int l2)] := hl
  refine v_iload_n dX9_in_0 rfl (lv_at hl 0 rfl) ?_
  refine v_iload_n dX9_in_1 rfl (lv_at hl 1 rfl) ?_
  refine v_icmp_lt 14 dX9_in_2 (by decide) h (fun h => ?_) (fun h => ?_)
  · exact L_X9_in_14 N  s ls (lv_sub hl [] rfl) h
  · refine v_iload_n dX9_in_5 rfl (lv_at hl 0 rfl) ?_
    refine v_iload_n dX9_in_6 rfl (lv_at hl 2 rfl) ?_
    refine v_icmp_gt 14 dX9_in_7 (by decide) h (fun h => ?_) (fun h => ?_)
    · exact L_X9_in_14 N  s ls (lv_sub hl [] rfl) h
    · refine v_iconst (1 : Int32) dX9_in_10 (by decide) ?_
      refine v_goto 15 dX9_in_11 (by decide) ?_
      exact L_X9_in_15 N (1 : Int32) s ls (lv_sub hl [] rfl) h
theorem k_X9_in {X : VX} {cc : ByteArray} {own : String} {nL fr lo : Nat} {ini : Bool} {E : VX → Prop} {sF s : vS} {ρ : Type} {res : ρ} {pc : Nat} {ls : Array Slot} {rest : List Value} {N index : Nat} {l0 : Int32} {l1 : Int32} {l2 : Int32} {f : Int32 → vS → Option ρ} (h : bnd (F_X9_in N l0 l1 l2 s) f = some res) (hlink : Cond.methodLink own index yX9_in ∈ TT) (hR : 0 + 1 ≤ fr ∧ 8 + (3 + 11) + 0 ≤ lo) (hls : ls.size = nL) (hr : (rest.map fun v => v.category).sum ≤ 8) (hdg : decode cc pc = .ok (.invokestatic index, 3)) (kk : ∀ r s', f r s' = some res → V X (cc, own, nL, fr, lo, ini) E sF s' (G0 X (pc + 3) ls (.int r :: rest))) : V X (cc, own, nL, fr, lo, ini) E sF s (G0 X pc ls (.int l2 :: .int l1 :: .int l0 :: rest)) := by
  obtain ⟨r, s', e, h⟩ := bnd_some h
  exact v_callS (As := [.int l0, .int l1, .int l2]) (rest := rest) (c_X9_in X N l0 l1 l2 s s' r e) vl_X9_in qs_X9_in hlink hR rfl rfl hls hr hdg (kk r s' h)
set_option maxHeartbeats 4000000 in
set_option maxRecDepth 100000 in
theorem L_X9_bit_26 {X : VX} {sF : vS} {r : Int32} (N : Nat) (k0 : Int32) (s : vS) (ls : Array Slot) (hl : lv_has ls 2 []) (h : J_X9_bit_26 N k0 s = some (r, sF)) : V X (cX9_bit, RX9, 2, 0, 0, false) (vRet sF (some (.int r)) (some .int)) sF s (G0 X 26 ls [.int k0]) := by
  unfold J_X9_bit_26 at h
  exact v_iret dX9_bit_26 h
theorem vl_X9_bit : vCl yX9_bit cX9_bit 2 (some .int) 2 := ⟨qy_X9_bit, qjX9, by decide +kernel, by decide +kernel, by decide +kernel⟩
set_option maxHeartbeats 4000000 in
set_option maxRecDepth 100000 in
theorem c_X9_bit {l : Launch} {D : va_G} {ka : Nat → ClassId} (X0 : VX) (N : Nat) (l0 : Int32) (l1 : Int32) (s sF : vS) (r : Int32) (h : F_X9_bit N l0 l1 s = some (r, sF)) : vMet l D ka (xb X0) yX9_bit cX9_bit 2 (some .int) 0 0 [.int l0, .int l1] s sF (some (.int r)) := by
  unfold F_X9_bit at h
  refine vMet.of (ini := false) X0 (plainFor_of_name (by decide +kernel)) (Nat.le_of_ble_eq_true rfl) (fun h => by cases h) (fun X ls hb hl => ?_) rfl
  show V X (cX9_bit, RX9, 2, 0, 0, false) (vRet sF (some (.int r)) (some .int)) sF s (G0 X 0 ls [])
  have hl : lv_has ls 2 [(0, .int l0), (1, .int l1)] := hl
  refine v_iload_n dX9_bit_0 rfl (lv_at hl 0 rfl) ?_
  refine v_iload_n dX9_bit_1 rfl (lv_at hl 1 rfl) ?_
  refine v_icmp_ge 17 dX9_bit_2 (by decide) h (fun h => ?_) (fun h => ?_)
  · refine v_iload_n dX9_bit_17 rfl (lv_at hl 0 rfl) ?_
    refine v_iload_n dX9_bit_18 rfl (lv_at hl 0 rfl) ?_
    refine v_iconst (1 : Int32) dX9_bit_19 (by decide) ?_
    refine v_isub dX9_bit_20 ?_
    refine v_imul dX9_bit_21 ?_
    refine v_iconst (2 : Int32) dX9_bit_22 (by decide) ?_
    refine v_idiv dX9_bit_23 h (fun h => ?_)
    refine v_iload_n dX9_bit_24 rfl (lv_at hl 1 rfl) ?_
    refine v_iadd dX9_bit_25 ?_
    exact L_X9_bit_26 N (((l0 * (l0 - (1 : Int32))) / (2 : Int32)) + l1) s ls (lv_sub hl [] rfl) h
  · refine v_iload_n dX9_bit_5 rfl (lv_at hl 1 rfl) ?_
    refine v_iload_n dX9_bit_6 rfl (lv_at hl 1 rfl) ?_
    refine v_iconst (1 : Int32) dX9_bit_7 (by decide) ?_
    refine v_isub dX9_bit_8 ?_
    refine v_imul dX9_bit_9 ?_
    refine v_iconst (2 : Int32) dX9_bit_10 (by decide) ?_
    refine v_idiv dX9_bit_11 h (fun h => ?_)
    refine v_iload_n dX9_bit_12 rfl (lv_at hl 0 rfl) ?_
    refine v_iadd dX9_bit_13 ?_
    refine v_goto 26 dX9_bit_14 (by decide) ?_
    exact L_X9_bit_26 N (((l1 * (l1 - (1 : Int32))) / (2 : Int32)) + l0) s ls (lv_sub hl [] rfl) h
theorem k_X9_bit {X : VX} {cc : ByteArray} {own : String} {nL fr lo : Nat} {ini : Bool} {E : VX → Prop} {sF s : vS} {ρ : Type} {res : ρ} {pc : Nat} {ls : Array Slot} {rest : List Value} {N index : Nat} {l0 : Int32} {l1 : Int32} {f : Int32 → vS → Option ρ} (h : bnd (F_X9_bit N l0 l1 s) f = some res) (hlink : Cond.methodLink own index yX9_bit ∈ TT) (hR : 0 + 1 ≤ fr ∧ 8 + (2 + 11) + 0 ≤ lo) (hls : ls.size = nL) (hr : (rest.map fun v => v.category).sum ≤ 8) (hdg : decode cc pc = .ok (.invokestatic index, 3)) (kk : ∀ r s', f r s' = some res → V X (cc, own, nL, fr, lo, ini) E sF s' (G0 X (pc + 3) ls (.int r :: rest))) : V X (cc, own, nL, fr, lo, ini) E sF s (G0 X pc ls (.int l1 :: .int l0 :: rest)) := by
  obtain ⟨r, s', e, h⟩ := bnd_some h
  exact v_callS (As := [.int l0, .int l1]) (rest := rest) (c_X9_bit X N l0 l1 s s' r e) vl_X9_bit qs_X9_bit hlink hR rfl rfl hls hr hdg (kk r s' h)
theorem vl_X9_codes : vCl yX9_codes cX9_codes 1 (some .int) 1 := ⟨qy_X9_codes, qjX9, by decide +kernel, by decide +kernel, by decide +kernel⟩
set_option maxHeartbeats 4000000 in
set_option maxRecDepth 100000 in
theorem c_X9_codes {l : Launch} {D : va_G} {ka : Nat → ClassId} (X0 : VX) (N : Nat) (l0 : Int32) (s sF : vS) (r : Int32) (h : F_X9_codes N l0 s = some (r, sF)) : vMet l D ka (xb X0) yX9_codes cX9_codes 1 (some .int) 0 0 [.int l0] s sF (some (.int r)) := by
  unfold F_X9_codes at h
  refine vMet.of (ini := false) X0 (plainFor_of_name (by decide +kernel)) (Nat.le_of_ble_eq_true rfl) (fun h => by cases h) (fun X ls hb hl => ?_) rfl
  show V X (cX9_codes, RX9, 1, 0, 0, false) (vRet sF (some (.int r)) (some .int)) sF s (G0 X 0 ls [])
  have hl : lv_has ls 1 [(0, .int l0)] := hl
  refine v_iconst (1 : Int32) dX9_codes_0 (by decide) ?_
  refine v_iload_n dX9_codes_1 rfl (lv_at hl 0 rfl) ?_
  refine v_iload_n dX9_codes_2 rfl (lv_at hl 0 rfl) ?_
  refine v_iconst (1 : Int32) dX9_codes_3 (by decide) ?_
  refine v_isub dX9_codes_4 ?_
  refine v_imul dX9_codes_5 ?_
  refine v_iconst (2 : Int32) dX9_codes_6 (by decide) ?_
  refine v_idiv dX9_codes_7 h (fun h => ?_)
  refine v_ishl dX9_codes_8 ?_
  exact v_iret dX9_codes_9 h
theorem k_X9_codes {X : VX} {cc : ByteArray} {own : String} {nL fr lo : Nat} {ini : Bool} {E : VX → Prop} {sF s : vS} {ρ : Type} {res : ρ} {pc : Nat} {ls : Array Slot} {rest : List Value} {N index : Nat} {l0 : Int32} {f : Int32 → vS → Option ρ} (h : bnd (F_X9_codes N l0 s) f = some res) (hlink : Cond.methodLink own index yX9_codes ∈ TT) (hR : 0 + 1 ≤ fr ∧ 8 + (1 + 11) + 0 ≤ lo) (hls : ls.size = nL) (hr : (rest.map fun v => v.category).sum ≤ 8) (hdg : decode cc pc = .ok (.invokestatic index, 3)) (kk : ∀ r s', f r s' = some res → V X (cc, own, nL, fr, lo, ini) E sF s' (G0 X (pc + 3) ls (.int r :: rest))) : V X (cc, own, nL, fr, lo, ini) E sF s (G0 X pc ls (.int l0 :: rest)) := by
  obtain ⟨r, s', e, h⟩ := bnd_some h
  exact v_callS (As := [.int l0]) (rest := rest) (c_X9_codes X N l0 s s' r e) vl_X9_codes qs_X9_codes hlink hR rfl rfl hls hr hdg (kk r s' h)
set_option maxHeartbeats 4000000 in
set_option maxRecDepth 100000 in
theorem L_X9_isRenaming_82 {X : VX} {sF : vS} {r : Int32} (N : Nat) (k0 : Int32) (s : vS) (ls : Array Slot) (hl : lv_has ls 6 []) (h : J_X9_isRenaming_82 N k0 s = some (r, sF)) : V X (cX9_isRenaming, RX9, 6, 0, 0, false) (vRet sF (some (.int r)) (some .boolean)) sF s (G0 X 82 ls [.int k0]) := by
  unfold J_X9_isRenaming_82 at h
  exact v_zret dX9_isRenaming_82 h
set_option maxHeartbeats 4000000 in
set_option maxRecDepth 100000 in
theorem L_X9_isRenaming_81 {X : VX} {sF : vS} {r : Int32} (N : Nat) (s : vS) (ls : Array Slot) (hl : lv_has ls 6 []) (h : J_X9_isRenaming_81 N  s = some (r, sF)) : V X (cX9_isRenaming, RX9, 6, 0, 0, false) (vRet sF (some (.int r)) (some .boolean)) sF s (G0 X 81 ls []) := by
  unfold J_X9_isRenaming_81 at h
  refine v_iconst (0 : Int32) dX9_isRenaming_81 (by decide) ?_
  exact L_X9_isRenaming_82 N (0 : Int32) s ls (lv_sub hl [] rfl) h
set_option maxHeartbeats 4000000 in
set_option maxRecDepth 100000 in
theorem L_X9_isRenaming_50 {X : VX} {sF : vS} {r : Int32} (N : Nat) (k8 : Nat → Int32 → Int32 → Int32 → Int32 → vS → Option (Int32 × vS)) (hk8 : ∀ (a0 : Nat) (l2 : Int32) (l3 : Int32) (l4 : Int32) (l5 : Int32) (s : vS) (ls : Array Slot), lv_has ls 6 [(0, .ref (xb X + a0)), (2, .int l2), (3, .int l3), (4, .int l4), (5, .int l5)] → k8 a0 l2 l3 l4 l5 s = some (r, sF) → V X (cX9_isRenaming, RX9, 6, 0, 0, false) (vRet sF (some (.int r)) (some .boolean)) sF s (G0 X 8 ls [])) (a0 : Nat) (l2 : Int32) (l3 : Int32) (l5 : Int32) (k0 : Int32) (k1 : Int32) (s : vS) (ls : Array Slot) (hl : lv_has ls 6 [(0, .ref (xb X + a0)), (2, .int l2), (3, .int l3), (5, .int l5)]) (h : J_X9_isRenaming_50 N k8 a0 l2 l3 l5 k0 k1 s = some (r, sF)) : V X (cX9_isRenaming, RX9, 6, 0, 0, false) (vRet sF (some (.int r)) (some .boolean)) sF s (G0 X 50 ls [.int k1, .int k0]) := by
  unfold J_X9_isRenaming_50 at h
  refine v_ior dX9_isRenaming_50 ?_
  refine v_nmI h (fun l4_6 h => ?_)
  refine v_istore [(4, .int l4_6), (0, .ref (xb X + a0)), (2, .int l2), (3, .int l3), (5, .int l5)] dX9_isRenaming_51 hl (by decide) rfl (fun ls hl => ?_)
  refine v_iload_n dX9_isRenaming_53 rfl (lv_at hl 3 rfl) ?_
  refine v_iconst (4 : Int32) dX9_isRenaming_54 (by decide) ?_
  refine v_idiv dX9_isRenaming_55 h (fun h => ?_)
  refine v_nmI h (fun l3_7 h => ?_)
  refine v_istore_n [(3, .int l3_7), (4, .int l4_6), (0, .ref (xb X + a0)), (2, .int l2), (5, .int l5)] dX9_isRenaming_56 rfl hl (by decide) rfl (fun ls hl => ?_)
  refine v_inc (fun z => [(5, .int z), (3, .int l3_7), (4, .int l4_6), (0, .ref (xb X + a0)), (2, .int l2)]) dX9_isRenaming_57 h hl (k := 4) rfl (by rfl) (by decide) (fun _ => rfl) (fun l5_8 ls hl h => ?_)
  refine v_goto 8 dX9_isRenaming_60 (by decide) ?_
  exact hk8 a0 l2 l3_7 l4_6 l5_8 s ls (lv_sub hl [3, 4, 1, 2, 0] rfl) h
set_option maxHeartbeats 4000000 in
set_option maxRecDepth 100000 in
theorem L_X9_isRenaming_8 {X : VX} {sF : vS} {r : Int32} (N : Nat) : ∀ (n : Nat) (a0 : Nat) (l2 : Int32) (l3 : Int32) (l4 : Int32) (l5 : Int32) (s : vS) (ls : Array Slot), lv_has ls 6 [(0, .ref (xb X + a0)), (2, .int l2), (3, .int l3), (4, .int l4), (5, .int l5)] → H_X9_isRenaming_8 N n a0 l2 l3 l4 l5 s = some (r, sF) → V X (cX9_isRenaming, RX9, 6, 0, 0, false) (vRet sF (some (.int r)) (some .boolean)) sF s (G0 X 8 ls []) := by
  intro n
  induction n with
  | zero => intro a0 l2 l3 l4 l5 s ls hl h; cases h
  | succ n ih =>
   intro a0 l2 l3 l4 l5 s ls hl h
   unfold H_X9_isRenaming_8 at h
   refine v_iload dX9_isRenaming_8 (lv_at hl 4 rfl) ?_
   refine v_iload_n dX9_isRenaming_10 rfl (lv_at hl 1 rfl) ?_
   refine v_icmp_ge 63 dX9_isRenaming_11 (by decide) h (fun h => ?_) (fun h => ?_)
   · refine v_iload_n dX9_isRenaming_63 rfl (lv_at hl 2 rfl) ?_
     refine v_if_ne 81 dX9_isRenaming_64 (by decide) h (fun h => ?_) (fun h => ?_)
     · exact L_X9_isRenaming_81 N  s ls (lv_sub hl [] rfl) h
     · refine v_iload dX9_isRenaming_67 (lv_at hl 3 rfl) ?_
       refine v_iconst (1 : Int32) dX9_isRenaming_69 (by decide) ?_
       refine v_iload_n dX9_isRenaming_70 rfl (lv_at hl 1 rfl) ?_
       refine v_ishl dX9_isRenaming_71 ?_
       refine v_iconst (1 : Int32) dX9_isRenaming_72 (by decide) ?_
       refine v_isub dX9_isRenaming_73 ?_
       refine v_icmp_ne 81 dX9_isRenaming_74 (by decide) h (fun h => ?_) (fun h => ?_)
       · exact L_X9_isRenaming_81 N  s ls (lv_sub hl [] rfl) h
       · refine v_iconst (1 : Int32) dX9_isRenaming_77 (by decide) ?_
         refine v_goto 82 dX9_isRenaming_78 (by decide) ?_
         exact L_X9_isRenaming_82 N (1 : Int32) s ls (lv_sub hl [] rfl) h
   · refine v_aload_n dX9_isRenaming_14 rfl (lv_at hl 0 rfl) ?_
     refine v_getR 9 4 h (by decide) rfl qfX9_3 dX9_isRenaming_15 (fun r1 h => ?_)
     refine v_iload dX9_isRenaming_18 (lv_at hl 4 rfl) ?_
     refine v_iload_n dX9_isRenaming_20 rfl (lv_at hl 2 rfl) ?_
     refine v_iconst (4 : Int32) dX9_isRenaming_21 (by decide) ?_
     refine v_irem dX9_isRenaming_22 h (fun h => ?_)
     refine v_iast dX9_isRenaming_23 h (fun s h => ?_)
     refine v_iload dX9_isRenaming_24 (lv_at hl 3 rfl) ?_
     refine v_aload_n dX9_isRenaming_26 rfl (lv_at hl 0 rfl) ?_
     refine v_getR 9 4 h (by decide) rfl qfX9_3 dX9_isRenaming_27 (fun r2 h => ?_)
     refine v_iload dX9_isRenaming_30 (lv_at hl 4 rfl) ?_
     refine v_iald dX9_isRenaming_32 h (fun v3 h => ?_)
     refine v_iload_n dX9_isRenaming_33 rfl (lv_at hl 1 rfl) ?_
     refine v_icmp_ge 49 dX9_isRenaming_34 (by decide) h (fun h => ?_) (fun h => ?_)
     · refine v_iconst (0 : Int32) dX9_isRenaming_49 (by decide) ?_
       exact L_X9_isRenaming_50 N (H_X9_isRenaming_8 N n) ih a0 l2 l3 l5 l4 (0 : Int32) s ls (lv_sub hl [0, 1, 2, 4] rfl) h
     · refine v_iconst (1 : Int32) dX9_isRenaming_37 (by decide) ?_
       refine v_aload_n dX9_isRenaming_38 rfl (lv_at hl 0 rfl) ?_
       refine v_getR 9 4 h (by decide) rfl qfX9_3 dX9_isRenaming_39 (fun r4 h => ?_)
       refine v_iload dX9_isRenaming_42 (lv_at hl 4 rfl) ?_
       refine v_iald dX9_isRenaming_44 h (fun v5 h => ?_)
       refine v_ishl dX9_isRenaming_45 ?_
       refine v_goto 50 dX9_isRenaming_46 (by decide) ?_
       exact L_X9_isRenaming_50 N (H_X9_isRenaming_8 N n) ih a0 l2 l3 l5 l4 ((1 : Int32) <<< (v5 &&& 31)) s ls (lv_sub hl [0, 1, 2, 4] rfl) h
theorem vl_X9_isRenaming : vCl yX9_isRenaming cX9_isRenaming 6 (some .boolean) 2 := ⟨qy_X9_isRenaming, qjX9, by decide +kernel, by decide +kernel, by decide +kernel⟩
set_option maxHeartbeats 4000000 in
set_option maxRecDepth 100000 in
theorem c_X9_isRenaming {l : Launch} {D : va_G} {ka : Nat → ClassId} (X0 : VX) (N : Nat) (a0 : Nat) (l1 : Int32) (l2 : Int32) (s sF : vS) (r : Int32) (h : F_X9_isRenaming N a0 l1 l2 s = some (r, sF)) : isO s a0 9 = true ∧ vMet l D ka (xb X0) yX9_isRenaming cX9_isRenaming 6 (some .boolean) 0 0 [.ref (xb X0 + a0), .int l1, .int l2] s sF (some (.int r)) := by
  unfold F_X9_isRenaming at h
  unfold rcv at h
  obtain ⟨hO, h⟩ := v_chk h
  refine ⟨hO, vMet.of (ini := false) X0 (plainFor_of_name (by decide +kernel)) (Nat.le_of_ble_eq_true rfl) (fun h => by cases h) (fun X ls hb hl => ?_) rfl⟩
  show V X (cX9_isRenaming, RX9, 6, 0, 0, false) (vRet sF (some (.int r)) (some .boolean)) sF s (G0 X 0 ls [])
  rw [← hb] at hl
  have hl : lv_has ls 6 [(0, .ref (xb X + a0)), (1, .int l1), (2, .int l2)] := hl
  refine v_iload_n dX9_isRenaming_0 rfl (lv_at hl 1 rfl) ?_
  refine v_istore_n [(3, .int l1), (0, .ref (xb X + a0)), (1, .int l1), (2, .int l2)] dX9_isRenaming_1 rfl hl (by decide) rfl (fun ls hl => ?_)
  refine v_iconst (0 : Int32) dX9_isRenaming_2 (by decide) ?_
  refine v_istore [(4, .int (0 : Int32)), (3, .int l1), (0, .ref (xb X + a0)), (1, .int l1), (2, .int l2)] dX9_isRenaming_3 hl (by decide) rfl (fun ls hl => ?_)
  refine v_iconst (0 : Int32) dX9_isRenaming_5 (by decide) ?_
  refine v_istore [(5, .int (0 : Int32)), (4, .int (0 : Int32)), (3, .int l1), (0, .ref (xb X + a0)), (1, .int l1), (2, .int l2)] dX9_isRenaming_6 hl (by decide) rfl (fun ls hl => ?_)
  exact L_X9_isRenaming_8 N N a0 l2 l1 (0 : Int32) (0 : Int32) s ls (lv_sub hl [3, 5, 2, 1, 0] rfl) h
theorem k_X9_isRenaming {X : VX} {cc : ByteArray} {own : String} {nL fr lo : Nat} {ini : Bool} {E : VX → Prop} {sF s : vS} {ρ : Type} {res : ρ} {pc : Nat} {ls : Array Slot} {rest : List Value} {N index : Nat} {a0 : Nat} {l1 : Int32} {l2 : Int32} {f : Int32 → vS → Option ρ} (h : bnd (F_X9_isRenaming N a0 l1 l2 s) f = some res) (hlink : Cond.methodLink own index yX9_isRenaming ∈ TT) (hR : 0 + 1 ≤ fr ∧ 8 + (6 + 11) + 0 ≤ lo) (hls : ls.size = nL) (hr : (rest.map fun v => v.category).sum ≤ 8) (hdg : decode cc pc = .ok (.invokevirtual index, 3)) (kk : ∀ r s', f r s' = some res → V X (cc, own, nL, fr, lo, ini) E sF s' (G0 X (pc + 3) ls (.int r :: rest))) : V X (cc, own, nL, fr, lo, ini) E sF s (G0 X pc ls (.int l2 :: .int l1 :: .ref (xb X + a0) :: rest)) := by
  obtain ⟨r, s', e, h⟩ := bnd_some h
  exact v_callV (b := a0) (ci := 9) (As := [.int l1, .int l2]) (rest := rest) (c_X9_isRenaming X N a0 l1 l2 s s' r e).2 (c_X9_isRenaming (l := xl X) (D := xD X) (ka := xka X) X N a0 l1 l2 s s' r e).1 rfl vl_X9_isRenaming qi_X9_isRenaming qe_X9_isRenaming hlink hR rfl rfl hls hr hdg (kk r s' h)
set_option maxHeartbeats 4000000 in
set_option maxRecDepth 100000 in
theorem L_X9_renamedCode_60 {X : VX} {sF : vS} {r : Int32} (N : Nat) (k5 : Nat → Int32 → Int32 → Int32 → Int32 → vS → Option (Int32 × vS)) (k14 : Nat → Int32 → Int32 → Int32 → Int32 → Int32 → vS → Option (Int32 × vS)) (hk5 : ∀ (a0 : Nat) (l1 : Int32) (l2 : Int32) (l3 : Int32) (l4 : Int32) (s : vS) (ls : Array Slot), lv_has ls 6 [(0, .ref (xb X + a0)), (1, .int l1), (2, .int l2), (3, .int l3), (4, .int l4)] → k5 a0 l1 l2 l3 l4 s = some (r, sF) → V X (cX9_renamedCode, RX9, 6, 1, 21, false) (vRet sF (some (.int r)) (some .int)) sF s (G0 X 5 ls [])) (hk14 : ∀ (a0 : Nat) (l1 : Int32) (l2 : Int32) (l3 : Int32) (l4 : Int32) (l5 : Int32) (s : vS) (ls : Array Slot), lv_has ls 6 [(0, .ref (xb X + a0)), (1, .int l1), (2, .int l2), (3, .int l3), (4, .int l4), (5, .int l5)] → k14 a0 l1 l2 l3 l4 l5 s = some (r, sF) → V X (cX9_renamedCode, RX9, 6, 1, 21, false) (vRet sF (some (.int r)) (some .int)) sF s (G0 X 14 ls [])) (a0 : Nat) (l1 : Int32) (l2 : Int32) (l4 : Int32) (l5 : Int32) (k0 : Int32) (k1 : Int32) (s : vS) (ls : Array Slot) (hl : lv_has ls 6 [(0, .ref (xb X + a0)), (1, .int l1), (2, .int l2), (4, .int l4), (5, .int l5)]) (h : J_X9_renamedCode_60 N k5 k14 a0 l1 l2 l4 l5 k0 k1 s = some (r, sF)) : V X (cX9_renamedCode, RX9, 6, 1, 21, false) (vRet sF (some (.int r)) (some .int)) sF s (G0 X 60 ls [.int k1, .int k0]) := by
  unfold J_X9_renamedCode_60 at h
  refine v_ior dX9_renamedCode_60 ?_
  refine v_nmI h (fun l3_8 h => ?_)
  refine v_istore_n [(3, .int l3_8), (0, .ref (xb X + a0)), (1, .int l1), (2, .int l2), (4, .int l4), (5, .int l5)] dX9_renamedCode_61 rfl hl (by decide) rfl (fun ls hl => ?_)
  refine v_inc (fun z => [(5, .int z), (3, .int l3_8), (0, .ref (xb X + a0)), (1, .int l1), (2, .int l2), (4, .int l4)]) dX9_renamedCode_62 h hl (k := 5) rfl (by rfl) (by decide) (fun _ => rfl) (fun l5_9 ls hl h => ?_)
  refine v_goto 14 dX9_renamedCode_65 (by decide) ?_
  exact hk14 a0 l1 l2 l3_8 l4 l5_9 s ls (lv_sub hl [2, 3, 4, 1, 5, 0] rfl) h
set_option maxHeartbeats 4000000 in
set_option maxRecDepth 100000 in
theorem L_X9_renamedCode_14 {X : VX} {sF : vS} {r : Int32} (N : Nat) (k5 : Nat → Int32 → Int32 → Int32 → Int32 → vS → Option (Int32 × vS)) (hk5 : ∀ (a0 : Nat) (l1 : Int32) (l2 : Int32) (l3 : Int32) (l4 : Int32) (s : vS) (ls : Array Slot), lv_has ls 6 [(0, .ref (xb X + a0)), (1, .int l1), (2, .int l2), (3, .int l3), (4, .int l4)] → k5 a0 l1 l2 l3 l4 s = some (r, sF) → V X (cX9_renamedCode, RX9, 6, 1, 21, false) (vRet sF (some (.int r)) (some .int)) sF s (G0 X 5 ls [])) : ∀ (n : Nat) (a0 : Nat) (l1 : Int32) (l2 : Int32) (l3 : Int32) (l4 : Int32) (l5 : Int32) (s : vS) (ls : Array Slot), lv_has ls 6 [(0, .ref (xb X + a0)), (1, .int l1), (2, .int l2), (3, .int l3), (4, .int l4), (5, .int l5)] → H_X9_renamedCode_14 N k5 n a0 l1 l2 l3 l4 l5 s = some (r, sF) → V X (cX9_renamedCode, RX9, 6, 1, 21, false) (vRet sF (some (.int r)) (some .int)) sF s (G0 X 14 ls []) := by
  intro n
  induction n with
  | zero => intro a0 l1 l2 l3 l4 l5 s ls hl h; cases h
  | succ n ih =>
   intro a0 l1 l2 l3 l4 l5 s ls hl h
   unfold H_X9_renamedCode_14 at h
   refine v_iload dX9_renamedCode_14 (lv_at hl 5 rfl) ?_
   refine v_iload dX9_renamedCode_16 (lv_at hl 4 rfl) ?_
   refine v_icmp_ge 68 dX9_renamedCode_18 (by decide) h (fun h => ?_) (fun h => ?_)
   · refine v_inc (fun z => [(4, .int z), (0, .ref (xb X + a0)), (1, .int l1), (2, .int l2), (3, .int l3), (5, .int l5)]) dX9_renamedCode_68 h hl (k := 4) rfl (by rfl) (by decide) (fun _ => rfl) (fun l4_1 ls hl h => ?_)
     refine v_goto 5 dX9_renamedCode_71 (by decide) ?_
     exact hk5 a0 l1 l2 l3 l4_1 s ls (lv_sub hl [1, 2, 3, 4, 0] rfl) h
   · refine v_iload_n dX9_renamedCode_21 rfl (lv_at hl 3 rfl) ?_
     refine v_iload_n dX9_renamedCode_22 rfl (lv_at hl 1 rfl) ?_
     refine v_iload dX9_renamedCode_23 (lv_at hl 5 rfl) ?_
     refine v_iload dX9_renamedCode_25 (lv_at hl 4 rfl) ?_
     refine k_X9_bit h qmX9_9 (by decide) hl.1 (Nat.le_of_ble_eq_true rfl) dX9_renamedCode_27 (fun v2 s h => ?_)
     refine v_ishr dX9_renamedCode_30 ?_
     refine v_iconst (1 : Int32) dX9_renamedCode_31 (by decide) ?_
     refine v_iand dX9_renamedCode_32 ?_
     refine v_iconst (1 : Int32) dX9_renamedCode_33 (by decide) ?_
     refine v_icmp_ne 59 dX9_renamedCode_34 (by decide) h (fun h => ?_) (fun h => ?_)
     · refine v_iconst (0 : Int32) dX9_renamedCode_59 (by decide) ?_
       exact L_X9_renamedCode_60 N k5 (H_X9_renamedCode_14 N k5 n) hk5 ih a0 l1 l2 l4 l5 l3 (0 : Int32) s ls (lv_sub hl [0, 1, 2, 4, 5] rfl) h
     · refine v_iconst (1 : Int32) dX9_renamedCode_37 (by decide) ?_
       refine v_aload_n dX9_renamedCode_38 rfl (lv_at hl 0 rfl) ?_
       refine v_getR 9 4 h (by decide) rfl qfX9_3 dX9_renamedCode_39 (fun r3 h => ?_)
       refine v_iload dX9_renamedCode_42 (lv_at hl 5 rfl) ?_
       refine v_iald dX9_renamedCode_44 h (fun v4 h => ?_)
       refine v_aload_n dX9_renamedCode_45 rfl (lv_at hl 0 rfl) ?_
       refine v_getR 9 4 h (by decide) rfl qfX9_3 dX9_renamedCode_46 (fun r5 h => ?_)
       refine v_iload dX9_renamedCode_49 (lv_at hl 4 rfl) ?_
       refine v_iald dX9_renamedCode_51 h (fun v6 h => ?_)
       refine k_X9_bit h qmX9_9 (by decide) hl.1 (Nat.le_of_ble_eq_true rfl) dX9_renamedCode_52 (fun v7 s h => ?_)
       refine v_ishl dX9_renamedCode_55 ?_
       refine v_goto 60 dX9_renamedCode_56 (by decide) ?_
       exact L_X9_renamedCode_60 N k5 (H_X9_renamedCode_14 N k5 n) hk5 ih a0 l1 l2 l4 l5 l3 ((1 : Int32) <<< (v7 &&& 31)) s ls (lv_sub hl [0, 1, 2, 4, 5] rfl) h
set_option maxHeartbeats 4000000 in
set_option maxRecDepth 100000 in
theorem L_X9_renamedCode_5 {X : VX} {sF : vS} {r : Int32} (N : Nat) : ∀ (n : Nat) (a0 : Nat) (l1 : Int32) (l2 : Int32) (l3 : Int32) (l4 : Int32) (s : vS) (ls : Array Slot), lv_has ls 6 [(0, .ref (xb X + a0)), (1, .int l1), (2, .int l2), (3, .int l3), (4, .int l4)] → H_X9_renamedCode_5 N n a0 l1 l2 l3 l4 s = some (r, sF) → V X (cX9_renamedCode, RX9, 6, 1, 21, false) (vRet sF (some (.int r)) (some .int)) sF s (G0 X 5 ls []) := by
  intro n
  induction n with
  | zero => intro a0 l1 l2 l3 l4 s ls hl h; cases h
  | succ n ih =>
   intro a0 l1 l2 l3 l4 s ls hl h
   unfold H_X9_renamedCode_5 at h
   refine v_iload dX9_renamedCode_5 (lv_at hl 4 rfl) ?_
   refine v_iload_n dX9_renamedCode_7 rfl (lv_at hl 2 rfl) ?_
   refine v_icmp_ge 74 dX9_renamedCode_8 (by decide) h (fun h => ?_) (fun h => ?_)
   · refine v_iload_n dX9_renamedCode_74 rfl (lv_at hl 3 rfl) ?_
     exact v_iret dX9_renamedCode_75 h
   · refine v_iconst (0 : Int32) dX9_renamedCode_11 (by decide) ?_
     refine v_istore [(5, .int (0 : Int32)), (0, .ref (xb X + a0)), (1, .int l1), (2, .int l2), (3, .int l3), (4, .int l4)] dX9_renamedCode_12 hl (by decide) rfl (fun ls hl => ?_)
     exact L_X9_renamedCode_14 N (H_X9_renamedCode_5 N n) ih N a0 l1 l2 l3 l4 (0 : Int32) s ls (lv_sub hl [1, 2, 3, 4, 5, 0] rfl) h
theorem vl_X9_renamedCode : vCl yX9_renamedCode cX9_renamedCode 6 (some .int) 2 := ⟨qy_X9_renamedCode, qjX9, by decide +kernel, by decide +kernel, by decide +kernel⟩
set_option maxHeartbeats 4000000 in
set_option maxRecDepth 100000 in
theorem c_X9_renamedCode {l : Launch} {D : va_G} {ka : Nat → ClassId} (X0 : VX) (N : Nat) (a0 : Nat) (l1 : Int32) (l2 : Int32) (s sF : vS) (r : Int32) (h : F_X9_renamedCode N a0 l1 l2 s = some (r, sF)) : isO s a0 9 = true ∧ vMet l D ka (xb X0) yX9_renamedCode cX9_renamedCode 6 (some .int) 1 21 [.ref (xb X0 + a0), .int l1, .int l2] s sF (some (.int r)) := by
  unfold F_X9_renamedCode at h
  unfold rcv at h
  obtain ⟨hO, h⟩ := v_chk h
  refine ⟨hO, vMet.of (ini := false) X0 (plainFor_of_name (by decide +kernel)) (Nat.le_of_ble_eq_true rfl) (fun h => by cases h) (fun X ls hb hl => ?_) rfl⟩
  show V X (cX9_renamedCode, RX9, 6, 1, 21, false) (vRet sF (some (.int r)) (some .int)) sF s (G0 X 0 ls [])
  rw [← hb] at hl
  have hl : lv_has ls 6 [(0, .ref (xb X + a0)), (1, .int l1), (2, .int l2)] := hl
  refine v_iconst (0 : Int32) dX9_renamedCode_0 (by decide) ?_
  refine v_istore_n [(3, .int (0 : Int32)), (0, .ref (xb X + a0)), (1, .int l1), (2, .int l2)] dX9_renamedCode_1 rfl hl (by decide) rfl (fun ls hl => ?_)
  refine v_iconst (1 : Int32) dX9_renamedCode_2 (by decide) ?_
  refine v_istore [(4, .int (1 : Int32)), (3, .int (0 : Int32)), (0, .ref (xb X + a0)), (1, .int l1), (2, .int l2)] dX9_renamedCode_3 hl (by decide) rfl (fun ls hl => ?_)
  exact L_X9_renamedCode_5 N N a0 l1 l2 (0 : Int32) (1 : Int32) s ls (lv_sub hl [2, 3, 4, 1, 0] rfl) h
theorem k_X9_renamedCode {X : VX} {cc : ByteArray} {own : String} {nL fr lo : Nat} {ini : Bool} {E : VX → Prop} {sF s : vS} {ρ : Type} {res : ρ} {pc : Nat} {ls : Array Slot} {rest : List Value} {N index : Nat} {a0 : Nat} {l1 : Int32} {l2 : Int32} {f : Int32 → vS → Option ρ} (h : bnd (F_X9_renamedCode N a0 l1 l2 s) f = some res) (hlink : Cond.methodLink own index yX9_renamedCode ∈ TT) (hR : 1 + 1 ≤ fr ∧ 8 + (6 + 11) + 21 ≤ lo) (hls : ls.size = nL) (hr : (rest.map fun v => v.category).sum ≤ 8) (hdg : decode cc pc = .ok (.invokevirtual index, 3)) (kk : ∀ r s', f r s' = some res → V X (cc, own, nL, fr, lo, ini) E sF s' (G0 X (pc + 3) ls (.int r :: rest))) : V X (cc, own, nL, fr, lo, ini) E sF s (G0 X pc ls (.int l2 :: .int l1 :: .ref (xb X + a0) :: rest)) := by
  obtain ⟨r, s', e, h⟩ := bnd_some h
  exact v_callV (b := a0) (ci := 9) (As := [.int l1, .int l2]) (rest := rest) (c_X9_renamedCode X N a0 l1 l2 s s' r e).2 (c_X9_renamedCode (l := xl X) (D := xD X) (ka := xka X) X N a0 l1 l2 s s' r e).1 rfl vl_X9_renamedCode qi_X9_renamedCode qe_X9_renamedCode hlink hR rfl rfl hls hr hdg (kk r s' h)
set_option maxHeartbeats 4000000 in
set_option maxRecDepth 100000 in
theorem L_X9_leastCode_61 {X : VX} {sF : vS} {r : Int32} (N : Nat) (k6 : Nat → Int32 → Int32 → Int32 → Int32 → Int32 → vS → Option (Int32 × vS)) (hk6 : ∀ (a0 : Nat) (l1 : Int32) (l2 : Int32) (l3 : Int32) (l4 : Int32) (l5 : Int32) (s : vS) (ls : Array Slot), lv_has ls 7 [(0, .ref (xb X + a0)), (1, .int l1), (2, .int l2), (3, .int l3), (4, .int l4), (5, .int l5)] → k6 a0 l1 l2 l3 l4 l5 s = some (r, sF) → V X (cX9_leastCode, RX9, 7, 2, 46, false) (vRet sF (some (.int r)) (some .int)) sF s (G0 X 6 ls [])) (a0 : Nat) (l1 : Int32) (l2 : Int32) (l3 : Int32) (l4 : Int32) (l5 : Int32) (s : vS) (ls : Array Slot) (hl : lv_has ls 7 [(0, .ref (xb X + a0)), (1, .int l1), (2, .int l2), (3, .int l3), (4, .int l4), (5, .int l5)]) (h : J_X9_leastCode_61 N k6 a0 l1 l2 l3 l4 l5 s = some (r, sF)) : V X (cX9_leastCode, RX9, 7, 2, 46, false) (vRet sF (some (.int r)) (some .int)) sF s (G0 X 61 ls []) := by
  unfold J_X9_leastCode_61 at h
  refine v_inc (fun z => [(5, .int z), (0, .ref (xb X + a0)), (1, .int l1), (2, .int l2), (3, .int l3), (4, .int l4)]) dX9_leastCode_61 h hl (k := 5) rfl (by rfl) (by decide) (fun _ => rfl) (fun l5_4 ls hl h => ?_)
  refine v_goto 6 dX9_leastCode_64 (by decide) ?_
  exact hk6 a0 l1 l2 l3 l4 l5_4 s ls (lv_sub hl [1, 2, 3, 4, 5, 0] rfl) h
set_option maxHeartbeats 4000000 in
set_option maxRecDepth 100000 in
theorem L_X9_leastCode_59 {X : VX} {sF : vS} {r : Int32} (N : Nat) (k6 : Nat → Int32 → Int32 → Int32 → Int32 → Int32 → vS → Option (Int32 × vS)) (hk6 : ∀ (a0 : Nat) (l1 : Int32) (l2 : Int32) (l3 : Int32) (l4 : Int32) (l5 : Int32) (s : vS) (ls : Array Slot), lv_has ls 7 [(0, .ref (xb X + a0)), (1, .int l1), (2, .int l2), (3, .int l3), (4, .int l4), (5, .int l5)] → k6 a0 l1 l2 l3 l4 l5 s = some (r, sF) → V X (cX9_leastCode, RX9, 7, 2, 46, false) (vRet sF (some (.int r)) (some .int)) sF s (G0 X 6 ls [])) (a0 : Nat) (l1 : Int32) (l2 : Int32) (l3 : Int32) (l5 : Int32) (k0 : Int32) (s : vS) (ls : Array Slot) (hl : lv_has ls 7 [(0, .ref (xb X + a0)), (1, .int l1), (2, .int l2), (3, .int l3), (5, .int l5)]) (h : J_X9_leastCode_59 N k6 a0 l1 l2 l3 l5 k0 s = some (r, sF)) : V X (cX9_leastCode, RX9, 7, 2, 46, false) (vRet sF (some (.int r)) (some .int)) sF s (G0 X 59 ls [.int k0]) := by
  unfold J_X9_leastCode_59 at h
  refine v_istore [(4, .int k0), (0, .ref (xb X + a0)), (1, .int l1), (2, .int l2), (3, .int l3), (5, .int l5)] dX9_leastCode_59 hl (by decide) rfl (fun ls hl => ?_)
  exact L_X9_leastCode_61 N k6 hk6 a0 l1 l2 l3 k0 l5 s ls (lv_sub hl [1, 2, 3, 4, 0, 5] rfl) h
set_option maxHeartbeats 4000000 in
set_option maxRecDepth 100000 in
theorem L_X9_leastCode_37 {X : VX} {sF : vS} {r : Int32} (N : Nat) (k6 : Nat → Int32 → Int32 → Int32 → Int32 → Int32 → vS → Option (Int32 × vS)) (hk6 : ∀ (a0 : Nat) (l1 : Int32) (l2 : Int32) (l3 : Int32) (l4 : Int32) (l5 : Int32) (s : vS) (ls : Array Slot), lv_has ls 7 [(0, .ref (xb X + a0)), (1, .int l1), (2, .int l2), (3, .int l3), (4, .int l4), (5, .int l5)] → k6 a0 l1 l2 l3 l4 l5 s = some (r, sF) → V X (cX9_leastCode, RX9, 7, 2, 46, false) (vRet sF (some (.int r)) (some .int)) sF s (G0 X 6 ls [])) (a0 : Nat) (l1 : Int32) (l2 : Int32) (l3 : Int32) (l4 : Int32) (l5 : Int32) (s : vS) (ls : Array Slot) (hl : lv_has ls 7 [(0, .ref (xb X + a0)), (1, .int l1), (2, .int l2), (3, .int l3), (4, .int l4), (5, .int l5)]) (h : J_X9_leastCode_37 N k6 a0 l1 l2 l3 l4 l5 s = some (r, sF)) : V X (cX9_leastCode, RX9, 7, 2, 46, false) (vRet sF (some (.int r)) (some .int)) sF s (G0 X 37 ls []) := by
  unfold J_X9_leastCode_37 at h
  refine v_aload_n dX9_leastCode_37 rfl (lv_at hl 0 rfl) ?_
  refine v_iload_n dX9_leastCode_38 rfl (lv_at hl 1 rfl) ?_
  refine v_iload_n dX9_leastCode_39 rfl (lv_at hl 2 rfl) ?_
  refine k_X9_renamedCode h qmX9_17 (by decide) hl.1 (Nat.le_of_ble_eq_true rfl) dX9_leastCode_40 (fun v5 s h => ?_)
  refine v_istore [(6, .int v5), (0, .ref (xb X + a0)), (1, .int l1), (2, .int l2), (3, .int l3), (4, .int l4), (5, .int l5)] dX9_leastCode_43 hl (by decide) rfl (fun ls hl => ?_)
  refine v_iload dX9_leastCode_45 (lv_at hl 0 rfl) ?_
  refine v_iload dX9_leastCode_47 (lv_at hl 5 rfl) ?_
  refine v_icmp_ge 57 dX9_leastCode_49 (by decide) h (fun h => ?_) (fun h => ?_)
  · refine v_iload dX9_leastCode_57 (lv_at hl 5 rfl) ?_
    exact L_X9_leastCode_59 N k6 hk6 a0 l1 l2 l3 l5 l4 s ls (lv_sub hl [1, 2, 3, 4, 6] rfl) h
  · refine v_iload dX9_leastCode_52 (lv_at hl 0 rfl) ?_
    refine v_goto 59 dX9_leastCode_54 (by decide) ?_
    exact L_X9_leastCode_59 N k6 hk6 a0 l1 l2 l3 l5 v5 s ls (lv_sub hl [1, 2, 3, 4, 6] rfl) h
set_option maxHeartbeats 4000000 in
set_option maxRecDepth 100000 in
theorem L_X9_leastCode_6 {X : VX} {sF : vS} {r : Int32} (N : Nat) : ∀ (n : Nat) (a0 : Nat) (l1 : Int32) (l2 : Int32) (l3 : Int32) (l4 : Int32) (l5 : Int32) (s : vS) (ls : Array Slot), lv_has ls 7 [(0, .ref (xb X + a0)), (1, .int l1), (2, .int l2), (3, .int l3), (4, .int l4), (5, .int l5)] → H_X9_leastCode_6 N n a0 l1 l2 l3 l4 l5 s = some (r, sF) → V X (cX9_leastCode, RX9, 7, 2, 46, false) (vRet sF (some (.int r)) (some .int)) sF s (G0 X 6 ls []) := by
  intro n
  induction n with
  | zero => intro a0 l1 l2 l3 l4 l5 s ls hl h; cases h
  | succ n ih =>
   intro a0 l1 l2 l3 l4 l5 s ls hl h
   unfold H_X9_leastCode_6 at h
   refine v_iload dX9_leastCode_6 (lv_at hl 5 rfl) ?_
   refine v_sipush (256 : Int32) dX9_leastCode_8 (by decide) ?_
   refine v_icmp_ge 67 dX9_leastCode_11 (by decide) h (fun h => ?_) (fun h => ?_)
   · refine v_iload dX9_leastCode_67 (lv_at hl 4 rfl) ?_
     exact v_iret dX9_leastCode_69 h
   · refine v_aload_n dX9_leastCode_14 rfl (lv_at hl 0 rfl) ?_
     refine v_iload dX9_leastCode_15 (lv_at hl 5 rfl) ?_
     refine v_iload_n dX9_leastCode_17 rfl (lv_at hl 2 rfl) ?_
     refine k_X9_isRenaming h qmX9_13 (by decide) hl.1 (Nat.le_of_ble_eq_true rfl) dX9_leastCode_18 (fun v1 s h => ?_)
     refine v_if_eq 61 dX9_leastCode_21 (by decide) h (fun h => ?_) (fun h => ?_)
     · exact L_X9_leastCode_61 N (H_X9_leastCode_6 N n) ih a0 l1 l2 l3 l4 l5 s ls (lv_sub hl [0, 1, 2, 3, 4, 5] rfl) h
     · refine v_iload_n dX9_leastCode_24 rfl (lv_at hl 3 rfl) ?_
       refine v_if_eq 37 dX9_leastCode_25 (by decide) h (fun h => ?_) (fun h => ?_)
       · exact L_X9_leastCode_37 N (H_X9_leastCode_6 N n) ih a0 l1 l2 l3 l4 l5 s ls (lv_sub hl [0, 1, 2, 3, 4, 5] rfl) h
       · refine v_aload_n dX9_leastCode_28 rfl (lv_at hl 0 rfl) ?_
         refine v_getR 9 4 h (by decide) rfl qfX9_3 dX9_leastCode_29 (fun r2 h => ?_)
         refine v_iconst (0 : Int32) dX9_leastCode_32 (by decide) ?_
         refine v_iald dX9_leastCode_33 h (fun v3 h => ?_)
         refine v_if_ne 61 dX9_leastCode_34 (by decide) h (fun h => ?_) (fun h => ?_)
         · exact L_X9_leastCode_61 N (H_X9_leastCode_6 N n) ih a0 l1 l2 l3 l4 l5 s ls (lv_sub hl [0, 1, 2, 3, 4, 5] rfl) h
         · exact L_X9_leastCode_37 N (H_X9_leastCode_6 N n) ih a0 l1 l2 l3 l4 l5 s ls (lv_sub hl [0, 1, 2, 3, 4, 5] rfl) h
theorem vl_X9_leastCode : vCl yX9_leastCode cX9_leastCode 7 (some .int) 3 := ⟨qy_X9_leastCode, qjX9, by decide +kernel, by decide +kernel, by decide +kernel⟩
set_option maxHeartbeats 4000000 in
set_option maxRecDepth 100000 in
theorem c_X9_leastCode {l : Launch} {D : va_G} {ka : Nat → ClassId} (X0 : VX) (N : Nat) (a0 : Nat) (l1 : Int32) (l2 : Int32) (l3 : Int32) (s sF : vS) (r : Int32) (h : F_X9_leastCode N a0 l1 l2 l3 s = some (r, sF)) : isO s a0 9 = true ∧ vMet l D ka (xb X0) yX9_leastCode cX9_leastCode 7 (some .int) 2 46 [.ref (xb X0 + a0), .int l1, .int l2, .int l3] s sF (some (.int r)) := by
  unfold F_X9_leastCode at h
  unfold rcv at h
  obtain ⟨hO, h⟩ := v_chk h
  refine ⟨hO, vMet.of (ini := false) X0 (plainFor_of_name (by decide +kernel)) (Nat.le_of_ble_eq_true rfl) (fun h => by cases h) (fun X ls hb hl => ?_) rfl⟩
  show V X (cX9_leastCode, RX9, 7, 2, 46, false) (vRet sF (some (.int r)) (some .int)) sF s (G0 X 0 ls [])
  rw [← hb] at hl
  have hl : lv_has ls 7 [(0, .ref (xb X + a0)), (1, .int l1), (2, .int l2), (3, .int l3)] := hl
  refine v_iload_n dX9_leastCode_0 rfl (lv_at hl 1 rfl) ?_
  refine v_istore [(4, .int l1), (0, .ref (xb X + a0)), (1, .int l1), (2, .int l2), (3, .int l3)] dX9_leastCode_1 hl (by decide) rfl (fun ls hl => ?_)
  refine v_iconst (0 : Int32) dX9_leastCode_3 (by decide) ?_
  refine v_istore [(5, .int (0 : Int32)), (4, .int l1), (0, .ref (xb X + a0)), (1, .int l1), (2, .int l2), (3, .int l3)] dX9_leastCode_4 hl (by decide) rfl (fun ls hl => ?_)
  exact L_X9_leastCode_6 N N a0 l1 l2 l3 l1 (0 : Int32) s ls (lv_sub hl [2, 3, 4, 5, 1, 0] rfl) h
theorem k_X9_leastCode {X : VX} {cc : ByteArray} {own : String} {nL fr lo : Nat} {ini : Bool} {E : VX → Prop} {sF s : vS} {ρ : Type} {res : ρ} {pc : Nat} {ls : Array Slot} {rest : List Value} {N index : Nat} {a0 : Nat} {l1 : Int32} {l2 : Int32} {l3 : Int32} {f : Int32 → vS → Option ρ} (h : bnd (F_X9_leastCode N a0 l1 l2 l3 s) f = some res) (hlink : Cond.methodLink own index yX9_leastCode ∈ TT) (hR : 2 + 1 ≤ fr ∧ 8 + (7 + 11) + 46 ≤ lo) (hls : ls.size = nL) (hr : (rest.map fun v => v.category).sum ≤ 8) (hdg : decode cc pc = .ok (.invokevirtual index, 3)) (kk : ∀ r s', f r s' = some res → V X (cc, own, nL, fr, lo, ini) E sF s' (G0 X (pc + 3) ls (.int r :: rest))) : V X (cc, own, nL, fr, lo, ini) E sF s (G0 X pc ls (.int l3 :: .int l2 :: .int l1 :: .ref (xb X + a0) :: rest)) := by
  obtain ⟨r, s', e, h⟩ := bnd_some h
  exact v_callV (b := a0) (ci := 9) (As := [.int l1, .int l2, .int l3]) (rest := rest) (c_X9_leastCode X N a0 l1 l2 l3 s s' r e).2 (c_X9_leastCode (l := xl X) (D := xD X) (ka := xka X) X N a0 l1 l2 l3 s s' r e).1 rfl vl_X9_leastCode qi_X9_leastCode qe_X9_leastCode hlink hR rfl rfl hls hr hdg (kk r s' h)
set_option maxHeartbeats 4000000 in
set_option maxRecDepth 100000 in
theorem L_X9_layTables_162 {X : VX} {sF : vS} {r : Unit} (N : Nat) (k100 : Nat → Int32 → Int32 → vS → Option (Unit × vS)) (k107 : Nat → Int32 → Int32 → Int32 → vS → Option (Unit × vS)) (hk100 : ∀ (a0 : Nat) (l1 : Int32) (l2 : Int32) (s : vS) (ls : Array Slot), lv_has ls 5 [(0, .ref (xb X + a0)), (1, .int l1), (2, .int l2)] → k100 a0 l1 l2 s = some (r, sF) → V X (cX9_layTables, RX9, 5, 3, 72, false) (vRet sF none none) sF s (G0 X 100 ls [])) (hk107 : ∀ (a0 : Nat) (l1 : Int32) (l2 : Int32) (l3 : Int32) (s : vS) (ls : Array Slot), lv_has ls 5 [(0, .ref (xb X + a0)), (1, .int l1), (2, .int l2), (3, .int l3)] → k107 a0 l1 l2 l3 s = some (r, sF) → V X (cX9_layTables, RX9, 5, 3, 72, false) (vRet sF none none) sF s (G0 X 107 ls [])) (a0 : Nat) (l1 : Int32) (l2 : Int32) (l3 : Int32) (l4 : Int32) (s : vS) (ls : Array Slot) (hl : lv_has ls 5 [(0, .ref (xb X + a0)), (1, .int l1), (2, .int l2), (3, .int l3), (4, .int l4)]) (h : J_X9_layTables_162 N k100 k107 a0 l1 l2 l3 l4 s = some (r, sF)) : V X (cX9_layTables, RX9, 5, 3, 72, false) (vRet sF none none) sF s (G0 X 162 ls []) := by
  unfold J_X9_layTables_162 at h
  refine v_aload_n dX9_layTables_162 rfl (lv_at hl 0 rfl) ?_
  refine v_getR 9 3 h (by decide) rfl qfX9_37 dX9_layTables_163 (fun r19 h => ?_)
  refine v_bipush (64 : Int32) dX9_layTables_166 (by decide) ?_
  refine v_iload_n dX9_layTables_168 rfl (lv_at hl 2 rfl) ?_
  refine v_imul dX9_layTables_169 ?_
  refine v_iload_n dX9_layTables_170 rfl (lv_at hl 3 rfl) ?_
  refine v_iadd dX9_layTables_171 ?_
  refine v_aload_n dX9_layTables_172 rfl (lv_at hl 0 rfl) ?_
  refine v_getR 9 3 h (by decide) rfl qfX9_37 dX9_layTables_173 (fun r20 h => ?_)
  refine v_bipush (64 : Int32) dX9_layTables_176 (by decide) ?_
  refine v_iload_n dX9_layTables_178 rfl (lv_at hl 2 rfl) ?_
  refine v_imul dX9_layTables_179 ?_
  refine v_iload dX9_layTables_180 (lv_at hl 4 rfl) ?_
  refine v_iadd dX9_layTables_182 ?_
  refine v_iald dX9_layTables_183 h (fun v21 h => ?_)
  refine v_iast dX9_layTables_184 h (fun s h => ?_)
  refine v_inc (fun z => [(3, .int z), (0, .ref (xb X + a0)), (1, .int l1), (2, .int l2), (4, .int l4)]) dX9_layTables_185 h hl (k := 3) rfl (by rfl) (by decide) (fun _ => rfl) (fun l3_22 ls hl h => ?_)
  refine v_goto 107 dX9_layTables_188 (by decide) ?_
  exact hk107 a0 l1 l2 l3_22 s ls (lv_sub hl [1, 2, 3, 0] rfl) h
set_option maxHeartbeats 4000000 in
set_option maxRecDepth 100000 in
theorem L_X9_layTables_107 {X : VX} {sF : vS} {r : Unit} (N : Nat) (k100 : Nat → Int32 → Int32 → vS → Option (Unit × vS)) (hk100 : ∀ (a0 : Nat) (l1 : Int32) (l2 : Int32) (s : vS) (ls : Array Slot), lv_has ls 5 [(0, .ref (xb X + a0)), (1, .int l1), (2, .int l2)] → k100 a0 l1 l2 s = some (r, sF) → V X (cX9_layTables, RX9, 5, 3, 72, false) (vRet sF none none) sF s (G0 X 100 ls [])) : ∀ (n : Nat) (a0 : Nat) (l1 : Int32) (l2 : Int32) (l3 : Int32) (s : vS) (ls : Array Slot), lv_has ls 5 [(0, .ref (xb X + a0)), (1, .int l1), (2, .int l2), (3, .int l3)] → H_X9_layTables_107 N k100 n a0 l1 l2 l3 s = some (r, sF) → V X (cX9_layTables, RX9, 5, 3, 72, false) (vRet sF none none) sF s (G0 X 107 ls []) := by
  intro n
  induction n with
  | zero => intro a0 l1 l2 l3 s ls hl h; cases h
  | succ n ih =>
   intro a0 l1 l2 l3 s ls hl h
   unfold H_X9_layTables_107 at h
   refine v_iload_n dX9_layTables_107 rfl (lv_at hl 3 rfl) ?_
   refine v_iload_n dX9_layTables_108 rfl (lv_at hl 2 rfl) ?_
   refine k_X9_codes h qmX9_20 (by decide) hl.1 (Nat.le_of_ble_eq_true rfl) dX9_layTables_109 (fun v8 s h => ?_)
   refine v_icmp_ge 191 dX9_layTables_112 (by decide) h (fun h => ?_) (fun h => ?_)
   · refine v_inc (fun z => [(2, .int z), (0, .ref (xb X + a0)), (1, .int l1), (3, .int l3)]) dX9_layTables_191 h hl (k := 2) rfl (by rfl) (by decide) (fun _ => rfl) (fun l2_9 ls hl h => ?_)
     refine v_goto 100 dX9_layTables_194 (by decide) ?_
     exact hk100 a0 l1 l2_9 s ls (lv_sub hl [1, 2, 0] rfl) h
   · refine v_aload_n dX9_layTables_115 rfl (lv_at hl 0 rfl) ?_
     refine v_iload_n dX9_layTables_116 rfl (lv_at hl 3 rfl) ?_
     refine v_iload_n dX9_layTables_117 rfl (lv_at hl 2 rfl) ?_
     refine v_iconst (1 : Int32) dX9_layTables_118 (by decide) ?_
     refine k_X9_leastCode h qmX9_24 (by decide) hl.1 (Nat.le_of_ble_eq_true rfl) dX9_layTables_119 (fun v10 s h => ?_)
     refine v_istore [(4, .int v10), (0, .ref (xb X + a0)), (1, .int l1), (2, .int l2), (3, .int l3)] dX9_layTables_122 hl (by decide) rfl (fun ls hl => ?_)
     refine v_iload dX9_layTables_124 (lv_at hl 0 rfl) ?_
     refine v_iload_n dX9_layTables_126 rfl (lv_at hl 4 rfl) ?_
     refine v_icmp_ne 162 dX9_layTables_127 (by decide) h (fun h => ?_) (fun h => ?_)
     · exact L_X9_layTables_162 N k100 (H_X9_layTables_107 N k100 n) hk100 ih a0 l1 l2 l3 v10 s ls (lv_sub hl [1, 2, 3, 4, 0] rfl) h
     · refine v_aload_n dX9_layTables_130 rfl (lv_at hl 1 rfl) ?_
       refine v_getR 9 0 h (by decide) rfl qfX9_28 dX9_layTables_131 (fun r11 h => ?_)
       refine v_iload_n dX9_layTables_134 rfl (lv_at hl 2 rfl) ?_
       refine v_iload_n dX9_layTables_135 rfl (lv_at hl 3 rfl) ?_
       refine v_iast dX9_layTables_136 h (fun s h => ?_)
       refine v_aload_n dX9_layTables_137 rfl (lv_at hl 1 rfl) ?_
       refine v_getR 9 1 h (by decide) rfl qfX9_31 dX9_layTables_138 (fun r12 h => ?_)
       refine v_iload_n dX9_layTables_141 rfl (lv_at hl 2 rfl) ?_
       refine v_iload_n dX9_layTables_142 rfl (lv_at hl 4 rfl) ?_
       refine v_iast dX9_layTables_143 h (fun s h => ?_)
       refine v_aload_n dX9_layTables_144 rfl (lv_at hl 1 rfl) ?_
       refine v_getR 9 3 h (by decide) rfl qfX9_37 dX9_layTables_145 (fun r13 h => ?_)
       refine v_bipush (64 : Int32) dX9_layTables_148 (by decide) ?_
       refine v_iload_n dX9_layTables_150 rfl (lv_at hl 3 rfl) ?_
       refine v_imul dX9_layTables_151 ?_
       refine v_iload_n dX9_layTables_152 rfl (lv_at hl 4 rfl) ?_
       refine v_iadd dX9_layTables_153 ?_
       refine v_iload_n dX9_layTables_154 rfl (lv_at hl 2 rfl) ?_
       refine v_bipush (19 : Int32) dX9_layTables_155 (by decide) ?_
       refine v_isub dX9_layTables_157 ?_
       refine v_iast dX9_layTables_158 h (fun s h => ?_)
       refine v_inc (fun z => [(1, .int z), (4, .int v10), (0, .ref (xb X + a0)), (2, .int l2), (3, .int l3)]) dX9_layTables_159 h hl (k := 2) rfl (by rfl) (by decide) (fun _ => rfl) (fun l1_14 ls hl h => ?_)
       exact L_X9_layTables_162 N k100 (H_X9_layTables_107 N k100 n) hk100 ih a0 l1_14 l2 l3 v10 s ls (lv_sub hl [2, 0, 3, 4, 1] rfl) h
set_option maxHeartbeats 4000000 in
set_option maxRecDepth 100000 in
theorem L_X9_layTables_100 {X : VX} {sF : vS} {r : Unit} (N : Nat) : ∀ (n : Nat) (a0 : Nat) (l1 : Int32) (l2 : Int32) (s : vS) (ls : Array Slot), lv_has ls 5 [(0, .ref (xb X + a0)), (1, .int l1), (2, .int l2)] → H_X9_layTables_100 N n a0 l1 l2 s = some (r, sF) → V X (cX9_layTables, RX9, 5, 3, 72, false) (vRet sF none none) sF s (G0 X 100 ls []) := by
  intro n
  induction n with
  | zero => intro a0 l1 l2 s ls hl h; cases h
  | succ n ih =>
   intro a0 l1 l2 s ls hl h
   unfold H_X9_layTables_100 at h
   refine v_iload_n dX9_layTables_100 rfl (lv_at hl 2 rfl) ?_
   refine v_iconst (5 : Int32) dX9_layTables_101 (by decide) ?_
   refine v_icmp_ge 197 dX9_layTables_102 (by decide) h (fun h => ?_) (fun h => ?_)
   · exact v_vret dX9_layTables_197 h
   · refine v_iconst (0 : Int32) dX9_layTables_105 (by decide) ?_
     refine v_istore_n [(3, .int (0 : Int32)), (0, .ref (xb X + a0)), (1, .int l1), (2, .int l2)] dX9_layTables_106 rfl hl (by decide) rfl (fun ls hl => ?_)
     exact L_X9_layTables_107 N (H_X9_layTables_100 N n) ih N a0 l1 l2 (0 : Int32) s ls (lv_sub hl [1, 2, 3, 0] rfl) h
set_option maxHeartbeats 4000000 in
set_option maxRecDepth 100000 in
theorem L_X9_layTables_63 {X : VX} {sF : vS} {r : Unit} (N : Nat) (k4 : Nat → Int32 → Int32 → vS → Option (Unit × vS)) (k11 : Nat → Int32 → Int32 → Int32 → vS → Option (Unit × vS)) (hk4 : ∀ (a0 : Nat) (l1 : Int32) (l2 : Int32) (s : vS) (ls : Array Slot), lv_has ls 5 [(0, .ref (xb X + a0)), (1, .int l1), (2, .int l2)] → k4 a0 l1 l2 s = some (r, sF) → V X (cX9_layTables, RX9, 5, 3, 72, false) (vRet sF none none) sF s (G0 X 4 ls [])) (hk11 : ∀ (a0 : Nat) (l1 : Int32) (l2 : Int32) (l3 : Int32) (s : vS) (ls : Array Slot), lv_has ls 5 [(0, .ref (xb X + a0)), (1, .int l1), (2, .int l2), (3, .int l3)] → k11 a0 l1 l2 l3 s = some (r, sF) → V X (cX9_layTables, RX9, 5, 3, 72, false) (vRet sF none none) sF s (G0 X 11 ls [])) (a0 : Nat) (l1 : Int32) (l2 : Int32) (l3 : Int32) (l4 : Int32) (s : vS) (ls : Array Slot) (hl : lv_has ls 5 [(0, .ref (xb X + a0)), (1, .int l1), (2, .int l2), (3, .int l3), (4, .int l4)]) (h : J_X9_layTables_63 N k4 k11 a0 l1 l2 l3 l4 s = some (r, sF)) : V X (cX9_layTables, RX9, 5, 3, 72, false) (vRet sF none none) sF s (G0 X 63 ls []) := by
  unfold J_X9_layTables_63 at h
  refine v_aload_n dX9_layTables_63 rfl (lv_at hl 0 rfl) ?_
  refine v_getR 9 2 h (by decide) rfl qfX9_34 dX9_layTables_64 (fun r15 h => ?_)
  refine v_bipush (64 : Int32) dX9_layTables_67 (by decide) ?_
  refine v_iload_n dX9_layTables_69 rfl (lv_at hl 2 rfl) ?_
  refine v_imul dX9_layTables_70 ?_
  refine v_iload_n dX9_layTables_71 rfl (lv_at hl 3 rfl) ?_
  refine v_iadd dX9_layTables_72 ?_
  refine v_aload_n dX9_layTables_73 rfl (lv_at hl 0 rfl) ?_
  refine v_getR 9 2 h (by decide) rfl qfX9_34 dX9_layTables_74 (fun r16 h => ?_)
  refine v_bipush (64 : Int32) dX9_layTables_77 (by decide) ?_
  refine v_iload_n dX9_layTables_79 rfl (lv_at hl 2 rfl) ?_
  refine v_imul dX9_layTables_80 ?_
  refine v_iload dX9_layTables_81 (lv_at hl 4 rfl) ?_
  refine v_iadd dX9_layTables_83 ?_
  refine v_iald dX9_layTables_84 h (fun v17 h => ?_)
  refine v_iast dX9_layTables_85 h (fun s h => ?_)
  refine v_inc (fun z => [(3, .int z), (0, .ref (xb X + a0)), (1, .int l1), (2, .int l2), (4, .int l4)]) dX9_layTables_86 h hl (k := 3) rfl (by rfl) (by decide) (fun _ => rfl) (fun l3_18 ls hl h => ?_)
  refine v_goto 11 dX9_layTables_89 (by decide) ?_
  exact hk11 a0 l1 l2 l3_18 s ls (lv_sub hl [1, 2, 3, 0] rfl) h
set_option maxHeartbeats 4000000 in
set_option maxRecDepth 100000 in
theorem L_X9_layTables_11 {X : VX} {sF : vS} {r : Unit} (N : Nat) (k4 : Nat → Int32 → Int32 → vS → Option (Unit × vS)) (hk4 : ∀ (a0 : Nat) (l1 : Int32) (l2 : Int32) (s : vS) (ls : Array Slot), lv_has ls 5 [(0, .ref (xb X + a0)), (1, .int l1), (2, .int l2)] → k4 a0 l1 l2 s = some (r, sF) → V X (cX9_layTables, RX9, 5, 3, 72, false) (vRet sF none none) sF s (G0 X 4 ls [])) : ∀ (n : Nat) (a0 : Nat) (l1 : Int32) (l2 : Int32) (l3 : Int32) (s : vS) (ls : Array Slot), lv_has ls 5 [(0, .ref (xb X + a0)), (1, .int l1), (2, .int l2), (3, .int l3)] → H_X9_layTables_11 N k4 n a0 l1 l2 l3 s = some (r, sF) → V X (cX9_layTables, RX9, 5, 3, 72, false) (vRet sF none none) sF s (G0 X 11 ls []) := by
  intro n
  induction n with
  | zero => intro a0 l1 l2 l3 s ls hl h; cases h
  | succ n ih =>
   intro a0 l1 l2 l3 s ls hl h
   unfold H_X9_layTables_11 at h
   refine v_iload_n dX9_layTables_11 rfl (lv_at hl 3 rfl) ?_
   refine v_iload_n dX9_layTables_12 rfl (lv_at hl 2 rfl) ?_
   refine k_X9_codes h qmX9_20 (by decide) hl.1 (Nat.le_of_ble_eq_true rfl) dX9_layTables_13 (fun v1 s h => ?_)
   refine v_icmp_ge 92 dX9_layTables_16 (by decide) h (fun h => ?_) (fun h => ?_)
   · refine v_inc (fun z => [(2, .int z), (0, .ref (xb X + a0)), (1, .int l1), (3, .int l3)]) dX9_layTables_92 h hl (k := 2) rfl (by rfl) (by decide) (fun _ => rfl) (fun l2_2 ls hl h => ?_)
     refine v_goto 4 dX9_layTables_95 (by decide) ?_
     exact hk4 a0 l1 l2_2 s ls (lv_sub hl [1, 2, 0] rfl) h
   · refine v_aload_n dX9_layTables_19 rfl (lv_at hl 0 rfl) ?_
     refine v_iload_n dX9_layTables_20 rfl (lv_at hl 3 rfl) ?_
     refine v_iload_n dX9_layTables_21 rfl (lv_at hl 2 rfl) ?_
     refine v_iconst (0 : Int32) dX9_layTables_22 (by decide) ?_
     refine k_X9_leastCode h qmX9_24 (by decide) hl.1 (Nat.le_of_ble_eq_true rfl) dX9_layTables_23 (fun v3 s h => ?_)
     refine v_istore [(4, .int v3), (0, .ref (xb X + a0)), (1, .int l1), (2, .int l2), (3, .int l3)] dX9_layTables_26 hl (by decide) rfl (fun ls hl => ?_)
     refine v_iload dX9_layTables_28 (lv_at hl 0 rfl) ?_
     refine v_iload_n dX9_layTables_30 rfl (lv_at hl 4 rfl) ?_
     refine v_icmp_ne 63 dX9_layTables_31 (by decide) h (fun h => ?_) (fun h => ?_)
     · exact L_X9_layTables_63 N k4 (H_X9_layTables_11 N k4 n) hk4 ih a0 l1 l2 l3 v3 s ls (lv_sub hl [1, 2, 3, 4, 0] rfl) h
     · refine v_aload_n dX9_layTables_34 rfl (lv_at hl 1 rfl) ?_
       refine v_getR 9 0 h (by decide) rfl qfX9_28 dX9_layTables_35 (fun r4 h => ?_)
       refine v_iload_n dX9_layTables_38 rfl (lv_at hl 2 rfl) ?_
       refine v_iload_n dX9_layTables_39 rfl (lv_at hl 3 rfl) ?_
       refine v_iast dX9_layTables_40 h (fun s h => ?_)
       refine v_aload_n dX9_layTables_41 rfl (lv_at hl 1 rfl) ?_
       refine v_getR 9 1 h (by decide) rfl qfX9_31 dX9_layTables_42 (fun r5 h => ?_)
       refine v_iload_n dX9_layTables_45 rfl (lv_at hl 2 rfl) ?_
       refine v_iload_n dX9_layTables_46 rfl (lv_at hl 4 rfl) ?_
       refine v_iast dX9_layTables_47 h (fun s h => ?_)
       refine v_aload_n dX9_layTables_48 rfl (lv_at hl 1 rfl) ?_
       refine v_getR 9 2 h (by decide) rfl qfX9_34 dX9_layTables_49 (fun r6 h => ?_)
       refine v_bipush (64 : Int32) dX9_layTables_52 (by decide) ?_
       refine v_iload_n dX9_layTables_54 rfl (lv_at hl 3 rfl) ?_
       refine v_imul dX9_layTables_55 ?_
       refine v_iload_n dX9_layTables_56 rfl (lv_at hl 4 rfl) ?_
       refine v_iadd dX9_layTables_57 ?_
       refine v_iload_n dX9_layTables_58 rfl (lv_at hl 2 rfl) ?_
       refine v_iast dX9_layTables_59 h (fun s h => ?_)
       refine v_inc (fun z => [(1, .int z), (4, .int v3), (0, .ref (xb X + a0)), (2, .int l2), (3, .int l3)]) dX9_layTables_60 h hl (k := 2) rfl (by rfl) (by decide) (fun _ => rfl) (fun l1_7 ls hl h => ?_)
       exact L_X9_layTables_63 N k4 (H_X9_layTables_11 N k4 n) hk4 ih a0 l1_7 l2 l3 v3 s ls (lv_sub hl [2, 0, 3, 4, 1] rfl) h
set_option maxHeartbeats 4000000 in
set_option maxRecDepth 100000 in
theorem L_X9_layTables_4 {X : VX} {sF : vS} {r : Unit} (N : Nat) : ∀ (n : Nat) (a0 : Nat) (l1 : Int32) (l2 : Int32) (s : vS) (ls : Array Slot), lv_has ls 5 [(0, .ref (xb X + a0)), (1, .int l1), (2, .int l2)] → H_X9_layTables_4 N n a0 l1 l2 s = some (r, sF) → V X (cX9_layTables, RX9, 5, 3, 72, false) (vRet sF none none) sF s (G0 X 4 ls []) := by
  intro n
  induction n with
  | zero => intro a0 l1 l2 s ls hl h; cases h
  | succ n ih =>
   intro a0 l1 l2 s ls hl h
   unfold H_X9_layTables_4 at h
   refine v_iload_n dX9_layTables_4 rfl (lv_at hl 2 rfl) ?_
   refine v_iconst (5 : Int32) dX9_layTables_5 (by decide) ?_
   refine v_icmp_ge 98 dX9_layTables_6 (by decide) h (fun h => ?_) (fun h => ?_)
   · refine v_iconst (1 : Int32) dX9_layTables_98 (by decide) ?_
     refine v_istore_n [(2, .int (1 : Int32)), (0, .ref (xb X + a0)), (1, .int l1)] dX9_layTables_99 rfl hl (by decide) rfl (fun ls hl => ?_)
     exact L_X9_layTables_100 N N a0 l1 (1 : Int32) s ls (lv_sub hl [1, 2, 0] rfl) h
   · refine v_iconst (0 : Int32) dX9_layTables_9 (by decide) ?_
     refine v_istore_n [(3, .int (0 : Int32)), (0, .ref (xb X + a0)), (1, .int l1), (2, .int l2)] dX9_layTables_10 rfl hl (by decide) rfl (fun ls hl => ?_)
     exact L_X9_layTables_11 N (H_X9_layTables_4 N n) ih N a0 l1 l2 (0 : Int32) s ls (lv_sub hl [1, 2, 3, 0] rfl) h
theorem vl_X9_layTables : vCl yX9_layTables cX9_layTables 5 none 0 := ⟨qy_X9_layTables, qjX9, by decide +kernel, by decide +kernel, by decide +kernel⟩
set_option maxHeartbeats 4000000 in
set_option maxRecDepth 100000 in
theorem c_X9_layTables {l : Launch} {D : va_G} {ka : Nat → ClassId} (X0 : VX) (N : Nat) (a0 : Nat) (s sF : vS) (r : Unit) (h : F_X9_layTables N a0 s = some (r, sF)) : isO s a0 9 = true ∧ vMet l D ka (xb X0) yX9_layTables cX9_layTables 5 none 3 72 [.ref (xb X0 + a0)] s sF none := by
  unfold F_X9_layTables at h
  unfold rcv at h
  obtain ⟨hO, h⟩ := v_chk h
  refine ⟨hO, vMet.of (ini := false) X0 (plainFor_of_name (by decide +kernel)) (Nat.le_of_ble_eq_true rfl) (fun h => by cases h) (fun X ls hb hl => ?_) rfl⟩
  show V X (cX9_layTables, RX9, 5, 3, 72, false) (vRet sF none none) sF s (G0 X 0 ls [])
  rw [← hb] at hl
  have hl : lv_has ls 5 [(0, .ref (xb X + a0))] := hl
  refine v_iconst (0 : Int32) dX9_layTables_0 (by decide) ?_
  refine v_istore_n [(1, .int (0 : Int32)), (0, .ref (xb X + a0))] dX9_layTables_1 rfl hl (by decide) rfl (fun ls hl => ?_)
  refine v_iconst (0 : Int32) dX9_layTables_2 (by decide) ?_
  refine v_istore_n [(2, .int (0 : Int32)), (1, .int (0 : Int32)), (0, .ref (xb X + a0))] dX9_layTables_3 rfl hl (by decide) rfl (fun ls hl => ?_)
  exact L_X9_layTables_4 N N a0 (0 : Int32) (0 : Int32) s ls (lv_sub hl [2, 1, 0] rfl) h
theorem k_X9_layTables {X : VX} {cc : ByteArray} {own : String} {nL fr lo : Nat} {ini : Bool} {E : VX → Prop} {sF s : vS} {ρ : Type} {res : ρ} {pc : Nat} {ls : Array Slot} {rest : List Value} {N index : Nat} {a0 : Nat} {f : Unit → vS → Option ρ} (h : bnd (F_X9_layTables N a0 s) f = some res) (hlink : Cond.methodLink own index yX9_layTables ∈ TT) (hR : 3 + 1 ≤ fr ∧ 8 + (5 + 11) + 72 ≤ lo) (hls : ls.size = nL) (hr : (rest.map fun v => v.category).sum ≤ 8) (hdg : decode cc pc = .ok (.invokevirtual index, 3)) (kk : ∀ r s', f r s' = some res → V X (cc, own, nL, fr, lo, ini) E sF s' (G0 X (pc + 3) ls (rest))) : V X (cc, own, nL, fr, lo, ini) E sF s (G0 X pc ls (.ref (xb X + a0) :: rest)) := by
  obtain ⟨r, s', e, h⟩ := bnd_some h
  exact v_callV (b := a0) (ci := 9) (As := []) (rest := rest) (c_X9_layTables X N a0 s s' r e).2 (c_X9_layTables (l := xl X) (D := xD X) (ka := xka X) X N a0 s s' r e).1 rfl vl_X9_layTables qi_X9_layTables qe_X9_layTables hlink hR rfl rfl hls hr hdg (kk r s' h)
theorem vl_X9_init : vCl yX9_init cX9_init 1 none 0 := ⟨qy_X9_init, qjX9, by decide +kernel, by decide +kernel, by decide +kernel⟩
set_option maxHeartbeats 4000000 in
set_option maxRecDepth 100000 in
theorem c_X9_init {l : Launch} {D : va_G} {ka : Nat → ClassId} (X0 : VX) (N : Nat) (a0 : Nat) (s sF : vS) (r : Unit) (h : F_X9_init N a0 s = some (r, sF)) : isO s a0 9 = true ∧ vMet l D ka (xb X0) yX9_init cX9_init 1 none 4 96 [.ref (xb X0 + a0)] s sF none := by
  unfold F_X9_init at h
  unfold rcv at h
  obtain ⟨hO, h⟩ := v_chk h
  refine ⟨hO, vMet.of (ini := true) X0 (plainFor_of_name (by decide +kernel)) (Nat.le_of_ble_eq_true rfl) (fun _ => rfl) (fun X ls hb hl => ?_) rfl⟩
  show V X (cX9_init, RX9, 1, 4, 96, true) (vRet sF none none) sF s (G0 X 0 ls [])
  rw [← hb] at hl
  have hl : lv_has ls 1 [(0, .ref (xb X + a0))] := hl
  refine v_aload_n dX9_init_0 rfl (lv_at hl 0 rfl) ?_
  refine v_objI qmX9_40 qo_in qo_code hl.1 ⟨by decide, Nat.le_of_ble_eq_true rfl⟩ dX9_init_1 ?_
  refine v_aload_n dX9_init_4 rfl (lv_at hl 0 rfl) ?_
  refine v_bipush (48 : Int32) dX9_init_5 (by decide) ?_
  refine v_newa 1 h (by decide) qa_int dX9_init_7 (fun q1 s h => ?_)
  refine v_putR 9 0 h (by decide) rfl (Or.inr ⟨rfl, rfl, rfl⟩) qfX9_28 dX9_init_9 (fun s h => ?_)
  refine v_aload_n dX9_init_12 rfl (lv_at hl 0 rfl) ?_
  refine v_bipush (48 : Int32) dX9_init_13 (by decide) ?_
  refine v_newa 1 h (by decide) qa_int dX9_init_15 (fun q2 s h => ?_)
  refine v_putR 9 1 h (by decide) rfl (Or.inr ⟨rfl, rfl, rfl⟩) qfX9_31 dX9_init_17 (fun s h => ?_)
  refine v_aload_n dX9_init_20 rfl (lv_at hl 0 rfl) ?_
  refine v_sipush (320 : Int32) dX9_init_21 (by decide) ?_
  refine v_newa 1 h (by decide) qa_int dX9_init_24 (fun q3 s h => ?_)
  refine v_putR 9 2 h (by decide) rfl (Or.inr ⟨rfl, rfl, rfl⟩) qfX9_34 dX9_init_26 (fun s h => ?_)
  refine v_aload_n dX9_init_29 rfl (lv_at hl 0 rfl) ?_
  refine v_sipush (320 : Int32) dX9_init_30 (by decide) ?_
  refine v_newa 1 h (by decide) qa_int dX9_init_33 (fun q4 s h => ?_)
  refine v_putR 9 3 h (by decide) rfl (Or.inr ⟨rfl, rfl, rfl⟩) qfX9_37 dX9_init_35 (fun s h => ?_)
  refine v_aload_n dX9_init_38 rfl (lv_at hl 0 rfl) ?_
  refine v_iconst (4 : Int32) dX9_init_39 (by decide) ?_
  refine v_newa 1 h (by decide) qa_int dX9_init_40 (fun q5 s h => ?_)
  refine v_putR 9 4 h (by decide) rfl (Or.inr ⟨rfl, rfl, rfl⟩) qfX9_3 dX9_init_42 (fun s h => ?_)
  refine v_aload_n dX9_init_45 rfl (lv_at hl 0 rfl) ?_
  refine v_bipush (8 : Int32) dX9_init_46 (by decide) ?_
  refine v_newa 1 h (by decide) qa_int dX9_init_48 (fun q6 s h => ?_)
  refine v_putR 9 6 h (by decide) rfl (Or.inr ⟨rfl, rfl, rfl⟩) qfX9_46 dX9_init_50 (fun s h => ?_)
  refine v_aload_n dX9_init_53 rfl (lv_at hl 0 rfl) ?_
  refine v_bipush (8 : Int32) dX9_init_54 (by decide) ?_
  refine v_newa 1 h (by decide) qa_int dX9_init_56 (fun q7 s h => ?_)
  refine v_putR 9 8 h (by decide) rfl (Or.inr ⟨rfl, rfl, rfl⟩) qfX9_49 dX9_init_58 (fun s h => ?_)
  refine v_aload_n dX9_init_61 rfl (lv_at hl 0 rfl) ?_
  refine v_iconst (4 : Int32) dX9_init_62 (by decide) ?_
  refine v_newa 3 h (by decide) qa_boolean dX9_init_63 (fun q8 s h => ?_)
  refine v_putR 9 9 h (by decide) rfl (Or.inr ⟨rfl, rfl, rfl⟩) qfX9_52 dX9_init_65 (fun s h => ?_)
  refine v_aload_n dX9_init_68 rfl (lv_at hl 0 rfl) ?_
  refine v_bipush (16 : Int32) dX9_init_69 (by decide) ?_
  refine v_newa 1 h (by decide) qa_int dX9_init_71 (fun q9 s h => ?_)
  refine v_putR 9 10 h (by decide) rfl (Or.inr ⟨rfl, rfl, rfl⟩) qfX9_56 dX9_init_73 (fun s h => ?_)
  refine v_aload_n dX9_init_76 rfl (lv_at hl 0 rfl) ?_
  refine v_sipush (464 : Int32) dX9_init_77 (by decide) ?_
  refine v_newa 2 h (by decide) qa_long dX9_init_80 (fun q10 s h => ?_)
  refine v_putR 9 11 h (by decide) rfl (Or.inr ⟨rfl, rfl, rfl⟩) qfX9_59 dX9_init_82 (fun s h => ?_)
  refine v_aload_n dX9_init_85 rfl (lv_at hl 0 rfl) ?_
  refine v_sipush (464 : Int32) dX9_init_86 (by decide) ?_
  refine v_newa 2 h (by decide) qa_long dX9_init_89 (fun q11 s h => ?_)
  refine v_putR 9 12 h (by decide) rfl (Or.inr ⟨rfl, rfl, rfl⟩) qfX9_63 dX9_init_91 (fun s h => ?_)
  refine v_aload_n dX9_init_94 rfl (lv_at hl 0 rfl) ?_
  refine v_bipush (60 : Int32) dX9_init_95 (by decide) ?_
  refine v_newa 1 h (by decide) qa_int dX9_init_97 (fun q12 s h => ?_)
  refine v_putR 9 14 h (by decide) rfl (Or.inr ⟨rfl, rfl, rfl⟩) qfX9_66 dX9_init_99 (fun s h => ?_)
  refine v_aload_n dX9_init_102 rfl (lv_at hl 0 rfl) ?_
  refine v_bipush (8 : Int32) dX9_init_103 (by decide) ?_
  refine v_newa 1 h (by decide) qa_int dX9_init_105 (fun q13 s h => ?_)
  refine v_putR 9 17 h (by decide) rfl (Or.inr ⟨rfl, rfl, rfl⟩) qfX9_69 dX9_init_107 (fun s h => ?_)
  refine v_aload_n dX9_init_110 rfl (lv_at hl 0 rfl) ?_
  refine v_iconst (4 : Int32) dX9_init_111 (by decide) ?_
  refine v_newa 3 h (by decide) qa_boolean dX9_init_112 (fun q14 s h => ?_)
  refine v_putR 9 18 h (by decide) rfl (Or.inr ⟨rfl, rfl, rfl⟩) qfX9_72 dX9_init_114 (fun s h => ?_)
  refine v_aload_n dX9_init_117 rfl (lv_at hl 0 rfl) ?_
  refine v_iconst (4 : Int32) dX9_init_118 (by decide) ?_
  refine v_newa 1 h (by decide) qa_int dX9_init_119 (fun q15 s h => ?_)
  refine v_putR 9 19 h (by decide) rfl (Or.inr ⟨rfl, rfl, rfl⟩) qfX9_75 dX9_init_121 (fun s h => ?_)
  refine v_aload_n dX9_init_124 rfl (lv_at hl 0 rfl) ?_
  refine v_bipush (116 : Int32) dX9_init_125 (by decide) ?_
  refine v_newa 2 h (by decide) qa_long dX9_init_127 (fun q16 s h => ?_)
  refine v_putR 9 20 h (by decide) rfl (Or.inr ⟨rfl, rfl, rfl⟩) qfX9_78 dX9_init_129 (fun s h => ?_)
  refine v_aload_n dX9_init_132 rfl (lv_at hl 0 rfl) ?_
  refine v_bipush (116 : Int32) dX9_init_133 (by decide) ?_
  refine v_newa 2 h (by decide) qa_long dX9_init_135 (fun q17 s h => ?_)
  refine v_putR 9 21 h (by decide) rfl (Or.inr ⟨rfl, rfl, rfl⟩) qfX9_81 dX9_init_137 (fun s h => ?_)
  refine v_aload_n dX9_init_140 rfl (lv_at hl 0 rfl) ?_
  refine v_bipush (8 : Int32) dX9_init_141 (by decide) ?_
  refine v_newa 1 h (by decide) qa_int dX9_init_143 (fun q18 s h => ?_)
  refine v_putR 9 22 h (by decide) rfl (Or.inr ⟨rfl, rfl, rfl⟩) qfX9_84 dX9_init_145 (fun s h => ?_)
  refine v_aload_n dX9_init_148 rfl (lv_at hl 0 rfl) ?_
  refine v_bipush (16 : Int32) dX9_init_149 (by decide) ?_
  refine v_newa 1 h (by decide) qa_int dX9_init_151 (fun q19 s h => ?_)
  refine v_putR 9 26 h (by decide) rfl (Or.inr ⟨rfl, rfl, rfl⟩) qfX9_87 dX9_init_153 (fun s h => ?_)
  refine v_aload_n dX9_init_156 rfl (lv_at hl 0 rfl) ?_
  refine v_bipush (19 : Int32) dX9_init_157 (by decide) ?_
  refine v_newa 1 h (by decide) qa_int dX9_init_159 (fun q20 s h => ?_)
  refine v_putR 9 27 h (by decide) rfl (Or.inr ⟨rfl, rfl, rfl⟩) qfX9_90 dX9_init_161 (fun s h => ?_)
  refine v_aload_n dX9_init_164 rfl (lv_at hl 0 rfl) ?_
  refine v_bipush (11 : Int32) dX9_init_165 (by decide) ?_
  refine v_newa 1 h (by decide) qa_int dX9_init_167 (fun q21 s h => ?_)
  refine v_putR 9 28 h (by decide) rfl (Or.inr ⟨rfl, rfl, rfl⟩) qfX9_93 dX9_init_169 (fun s h => ?_)
  refine v_aload_n dX9_init_172 rfl (lv_at hl 0 rfl) ?_
  refine v_bipush (60 : Int32) dX9_init_173 (by decide) ?_
  refine v_newa 1 h (by decide) qa_int dX9_init_175 (fun q22 s h => ?_)
  refine v_putR 9 31 h (by decide) rfl (Or.inr ⟨rfl, rfl, rfl⟩) qfX9_96 dX9_init_177 (fun s h => ?_)
  refine v_aload_n dX9_init_180 rfl (lv_at hl 0 rfl) ?_
  refine v_bipush (60 : Int32) dX9_init_181 (by decide) ?_
  refine v_newa 1 h (by decide) qa_int dX9_init_183 (fun q23 s h => ?_)
  refine v_putR 9 32 h (by decide) rfl (Or.inr ⟨rfl, rfl, rfl⟩) qfX9_99 dX9_init_185 (fun s h => ?_)
  refine v_aload_n dX9_init_188 rfl (lv_at hl 0 rfl) ?_
  refine v_bipush (60 : Int32) dX9_init_189 (by decide) ?_
  refine v_newa 1 h (by decide) qa_int dX9_init_191 (fun q24 s h => ?_)
  refine v_putR 9 33 h (by decide) rfl (Or.inr ⟨rfl, rfl, rfl⟩) qfX9_102 dX9_init_193 (fun s h => ?_)
  refine v_aload_n dX9_init_196 rfl (lv_at hl 0 rfl) ?_
  refine v_bipush (60 : Int32) dX9_init_197 (by decide) ?_
  refine v_newa 1 h (by decide) qa_int dX9_init_199 (fun q25 s h => ?_)
  refine v_putR 9 34 h (by decide) rfl (Or.inr ⟨rfl, rfl, rfl⟩) qfX9_105 dX9_init_201 (fun s h => ?_)
  refine v_aload_n dX9_init_204 rfl (lv_at hl 0 rfl) ?_
  refine v_iconst (3 : Int32) dX9_init_205 (by decide) ?_
  refine v_newa 1 h (by decide) qa_int dX9_init_206 (fun q26 s h => ?_)
  refine v_putR 9 36 h (by decide) rfl (Or.inr ⟨rfl, rfl, rfl⟩) qfX9_108 dX9_init_208 (fun s h => ?_)
  refine v_aload_n dX9_init_211 rfl (lv_at hl 0 rfl) ?_
  refine v_iconst (4 : Int32) dX9_init_212 (by decide) ?_
  refine v_newa 3 h (by decide) qa_boolean dX9_init_213 (fun q27 s h => ?_)
  refine v_putR 9 38 h (by decide) rfl (Or.inr ⟨rfl, rfl, rfl⟩) qfX9_111 dX9_init_215 (fun s h => ?_)
  refine v_aload_n dX9_init_218 rfl (lv_at hl 0 rfl) ?_
  refine v_iconst (4 : Int32) dX9_init_219 (by decide) ?_
  refine v_newa 3 h (by decide) qa_boolean dX9_init_220 (fun q28 s h => ?_)
  refine v_putR 9 39 h (by decide) rfl (Or.inr ⟨rfl, rfl, rfl⟩) qfX9_114 dX9_init_222 (fun s h => ?_)
  refine v_aload_n dX9_init_225 rfl (lv_at hl 0 rfl) ?_
  refine v_iconst (4 : Int32) dX9_init_226 (by decide) ?_
  refine v_newa 1 h (by decide) qa_int dX9_init_227 (fun q29 s h => ?_)
  refine v_putR 9 40 h (by decide) rfl (Or.inr ⟨rfl, rfl, rfl⟩) qfX9_117 dX9_init_229 (fun s h => ?_)
  refine v_aload_n dX9_init_232 rfl (lv_at hl 0 rfl) ?_
  refine v_iconst (4 : Int32) dX9_init_233 (by decide) ?_
  refine v_newa 1 h (by decide) qa_int dX9_init_234 (fun q30 s h => ?_)
  refine v_putR 9 41 h (by decide) rfl (Or.inr ⟨rfl, rfl, rfl⟩) qfX9_120 dX9_init_236 (fun s h => ?_)
  refine v_aload_n dX9_init_239 rfl (lv_at hl 0 rfl) ?_
  refine v_iconst (4 : Int32) dX9_init_240 (by decide) ?_
  refine v_newa 1 h (by decide) qa_int dX9_init_241 (fun q31 s h => ?_)
  refine v_putR 9 42 h (by decide) rfl (Or.inr ⟨rfl, rfl, rfl⟩) qfX9_123 dX9_init_243 (fun s h => ?_)
  refine v_aload_n dX9_init_246 rfl (lv_at hl 0 rfl) ?_
  refine k_X9_layTables h qmX9_126 (by decide) hl.1 (Nat.le_of_ble_eq_true rfl) dX9_init_247 (fun v32 s h => ?_)
  exact v_vret dX9_init_250 h
theorem k_X9_init {X : VX} {cc : ByteArray} {own : String} {nL fr lo : Nat} {ini : Bool} {E : VX → Prop} {sF s : vS} {ρ : Type} {res : ρ} {pc : Nat} {ls : Array Slot} {rest : List Value} {N index : Nat} {a0 : Nat} {f : Unit → vS → Option ρ} (h : bnd (F_X9_init N a0 s) f = some res) (hlink : Cond.methodLink own index yX9_init ∈ TT) (hR : 4 + 1 ≤ fr ∧ 8 + (1 + 11) + 96 ≤ lo) (hls : ls.size = nL) (hr : (rest.map fun v => v.category).sum ≤ 8) (hdg : decode cc pc = .ok (.invokespecial index, 3)) (kk : ∀ r s', f r s' = some res → V X (cc, own, nL, fr, lo, ini) E sF s' (G0 X (pc + 3) ls (rest))) : V X (cc, own, nL, fr, lo, ini) E sF s (G0 X pc ls (.ref (xb X + a0) :: rest)) := by
  obtain ⟨r, s', e, h⟩ := bnd_some h
  exact v_callI (b := a0) (As := []) (rest := rest) (c_X9_init X N a0 s s' r e).2 rfl vl_X9_init qi_X9_init hlink hR rfl rfl hls hr hdg (kk r s' h)
theorem vl_X9_isFlag : vCl yX9_isFlag cX9_isFlag 1 (some .boolean) 1 := ⟨qy_X9_isFlag, qjX9, by decide +kernel, by decide +kernel, by decide +kernel⟩
set_option maxHeartbeats 4000000 in
set_option maxRecDepth 100000 in
theorem c_X9_isFlag {l : Launch} {D : va_G} {ka : Nat → ClassId} (X0 : VX) (N : Nat) (l0 : Int32) (s sF : vS) (r : Int32) (h : F_X9_isFlag N l0 s = some (r, sF)) : vMet l D ka (xb X0) yX9_isFlag cX9_isFlag 1 (some .boolean) 1 22 [.int l0] s sF (some (.int r)) := by
  unfold F_X9_isFlag at h
  refine vMet.of (ini := false) X0 (plainFor_of_name (by decide +kernel)) (Nat.le_of_ble_eq_true rfl) (fun h => by cases h) (fun X ls hb hl => ?_) rfl
  show V X (cX9_isFlag, RX9, 1, 1, 22, false) (vRet sF (some (.int r)) (some .boolean)) sF s (G0 X 0 ls [])
  have hl : lv_has ls 1 [(0, .int l0)] := hl
  refine v_iload_n dX9_isFlag_0 rfl (lv_at hl 0 rfl) ?_
  refine v_iconst (0 : Int32) dX9_isFlag_1 (by decide) ?_
  refine v_bipush (18 : Int32) dX9_isFlag_2 (by decide) ?_
  refine k_X9_in h qmX9_129 (by decide) hl.1 (Nat.le_of_ble_eq_true rfl) dX9_isFlag_4 (fun v1 s h => ?_)
  exact v_zret dX9_isFlag_7 h
theorem k_X9_isFlag {X : VX} {cc : ByteArray} {own : String} {nL fr lo : Nat} {ini : Bool} {E : VX → Prop} {sF s : vS} {ρ : Type} {res : ρ} {pc : Nat} {ls : Array Slot} {rest : List Value} {N index : Nat} {l0 : Int32} {f : Int32 → vS → Option ρ} (h : bnd (F_X9_isFlag N l0 s) f = some res) (hlink : Cond.methodLink own index yX9_isFlag ∈ TT) (hR : 1 + 1 ≤ fr ∧ 8 + (1 + 11) + 22 ≤ lo) (hls : ls.size = nL) (hr : (rest.map fun v => v.category).sum ≤ 8) (hdg : decode cc pc = .ok (.invokestatic index, 3)) (kk : ∀ r s', f r s' = some res → V X (cc, own, nL, fr, lo, ini) E sF s' (G0 X (pc + 3) ls (.int r :: rest))) : V X (cc, own, nL, fr, lo, ini) E sF s (G0 X pc ls (.int l0 :: rest)) := by
  obtain ⟨r, s', e, h⟩ := bnd_some h
  exact v_callS (As := [.int l0]) (rest := rest) (c_X9_isFlag X N l0 s s' r e) vl_X9_isFlag qs_X9_isFlag hlink hR rfl rfl hls hr hdg (kk r s' h)
theorem vl_X9_isRooted : vCl yX9_isRooted cX9_isRooted 1 (some .boolean) 1 := ⟨qy_X9_isRooted, qjX9, by decide +kernel, by decide +kernel, by decide +kernel⟩
set_option maxHeartbeats 4000000 in
set_option maxRecDepth 100000 in
theorem c_X9_isRooted {l : Launch} {D : va_G} {ka : Nat → ClassId} (X0 : VX) (N : Nat) (l0 : Int32) (s sF : vS) (r : Int32) (h : F_X9_isRooted N l0 s = some (r, sF)) : vMet l D ka (xb X0) yX9_isRooted cX9_isRooted 1 (some .boolean) 1 22 [.int l0] s sF (some (.int r)) := by
  unfold F_X9_isRooted at h
  refine vMet.of (ini := false) X0 (plainFor_of_name (by decide +kernel)) (Nat.le_of_ble_eq_true rfl) (fun h => by cases h) (fun X ls hb hl => ?_) rfl
  show V X (cX9_isRooted, RX9, 1, 1, 22, false) (vRet sF (some (.int r)) (some .boolean)) sF s (G0 X 0 ls [])
  have hl : lv_has ls 1 [(0, .int l0)] := hl
  refine v_iload_n dX9_isRooted_0 rfl (lv_at hl 0 rfl) ?_
  refine v_iconst (0 : Int32) dX9_isRooted_1 (by decide) ?_
  refine v_bipush (28 : Int32) dX9_isRooted_2 (by decide) ?_
  refine k_X9_in h qmX9_129 (by decide) hl.1 (Nat.le_of_ble_eq_true rfl) dX9_isRooted_4 (fun v1 s h => ?_)
  exact v_zret dX9_isRooted_7 h
theorem k_X9_isRooted {X : VX} {cc : ByteArray} {own : String} {nL fr lo : Nat} {ini : Bool} {E : VX → Prop} {sF s : vS} {ρ : Type} {res : ρ} {pc : Nat} {ls : Array Slot} {rest : List Value} {N index : Nat} {l0 : Int32} {f : Int32 → vS → Option ρ} (h : bnd (F_X9_isRooted N l0 s) f = some res) (hlink : Cond.methodLink own index yX9_isRooted ∈ TT) (hR : 1 + 1 ≤ fr ∧ 8 + (1 + 11) + 22 ≤ lo) (hls : ls.size = nL) (hr : (rest.map fun v => v.category).sum ≤ 8) (hdg : decode cc pc = .ok (.invokestatic index, 3)) (kk : ∀ r s', f r s' = some res → V X (cc, own, nL, fr, lo, ini) E sF s' (G0 X (pc + 3) ls (.int r :: rest))) : V X (cc, own, nL, fr, lo, ini) E sF s (G0 X pc ls (.int l0 :: rest)) := by
  obtain ⟨r, s', e, h⟩ := bnd_some h
  exact v_callS (As := [.int l0]) (rest := rest) (c_X9_isRooted X N l0 s s' r e) vl_X9_isRooted qs_X9_isRooted hlink hR rfl rfl hls hr hdg (kk r s' h)
set_option maxHeartbeats 4000000 in
set_option maxRecDepth 100000 in
theorem L_X9_ones_4 {X : VX} {sF : vS} {r : Int32} (N : Nat) : ∀ (n : Nat) (l1 : Int32) (l2 : Int32) (s : vS) (ls : Array Slot), lv_has ls 3 [(1, .int l1), (2, .int l2)] → H_X9_ones_4 N n l1 l2 s = some (r, sF) → V X (cX9_ones, RX9, 3, 0, 0, false) (vRet sF (some (.int r)) (some .int)) sF s (G0 X 4 ls []) := by
  intro n
  induction n with
  | zero => intro l1 l2 s ls hl h; cases h
  | succ n ih =>
   intro l1 l2 s ls hl h
   unfold H_X9_ones_4 at h
   refine v_iload_n dX9_ones_4 rfl (lv_at hl 1 rfl) ?_
   refine v_if_le 21 dX9_ones_5 (by decide) h (fun h => ?_) (fun h => ?_)
   · refine v_iload_n dX9_ones_21 rfl (lv_at hl 0 rfl) ?_
     exact v_iret dX9_ones_22 h
   · refine v_iload_n dX9_ones_8 rfl (lv_at hl 0 rfl) ?_
     refine v_iload_n dX9_ones_9 rfl (lv_at hl 1 rfl) ?_
     refine v_iconst (2 : Int32) dX9_ones_10 (by decide) ?_
     refine v_irem dX9_ones_11 h (fun h => ?_)
     refine v_iadd dX9_ones_12 ?_
     refine v_nmI h (fun l1_1 h => ?_)
     refine v_istore_n [(1, .int l1_1), (2, .int l2)] dX9_ones_13 rfl hl (by decide) rfl (fun ls hl => ?_)
     refine v_iload_n dX9_ones_14 rfl (lv_at hl 1 rfl) ?_
     refine v_iconst (2 : Int32) dX9_ones_15 (by decide) ?_
     refine v_idiv dX9_ones_16 h (fun h => ?_)
     refine v_nmI h (fun l2_2 h => ?_)
     refine v_istore_n [(2, .int l2_2), (1, .int l1_1)] dX9_ones_17 rfl hl (by decide) rfl (fun ls hl => ?_)
     refine v_goto 4 dX9_ones_18 (by decide) ?_
     exact ih l1_1 l2_2 s ls (lv_sub hl [1, 0] rfl) h
theorem vl_X9_ones : vCl yX9_ones cX9_ones 3 (some .int) 1 := ⟨qy_X9_ones, qjX9, by decide +kernel, by decide +kernel, by decide +kernel⟩
set_option maxHeartbeats 4000000 in
set_option maxRecDepth 100000 in
theorem c_X9_ones {l : Launch} {D : va_G} {ka : Nat → ClassId} (X0 : VX) (N : Nat) (l0 : Int32) (s sF : vS) (r : Int32) (h : F_X9_ones N l0 s = some (r, sF)) : vMet l D ka (xb X0) yX9_ones cX9_ones 3 (some .int) 0 0 [.int l0] s sF (some (.int r)) := by
  unfold F_X9_ones at h
  refine vMet.of (ini := false) X0 (plainFor_of_name (by decide +kernel)) (Nat.le_of_ble_eq_true rfl) (fun h => by cases h) (fun X ls hb hl => ?_) rfl
  show V X (cX9_ones, RX9, 3, 0, 0, false) (vRet sF (some (.int r)) (some .int)) sF s (G0 X 0 ls [])
  have hl : lv_has ls 3 [(0, .int l0)] := hl
  refine v_iconst (0 : Int32) dX9_ones_0 (by decide) ?_
  refine v_istore_n [(1, .int (0 : Int32)), (0, .int l0)] dX9_ones_1 rfl hl (by decide) rfl (fun ls hl => ?_)
  refine v_iload_n dX9_ones_2 rfl (lv_at hl 1 rfl) ?_
  refine v_istore_n [(2, .int l0), (1, .int (0 : Int32)), (0, .int l0)] dX9_ones_3 rfl hl (by decide) rfl (fun ls hl => ?_)
  exact L_X9_ones_4 N N (0 : Int32) l0 s ls (lv_sub hl [1, 0] rfl) h
