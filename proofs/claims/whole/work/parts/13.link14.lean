theorem k_X9_sum {X : VX} {cc : ByteArray} {own : String} {nL fr lo : Nat} {ini : Bool} {E : VX → Prop} {sF s : vS} {ρ : Type} {res : ρ} {pc : Nat} {ls : Array Slot} {rest : List Value} {N index : Nat} {a0 : Nat} {l1 : Int32} {l2 : Int32} {f : Int32 → vS → Option ρ} (h : bnd (F_X9_sum N a0 l1 l2 s) f = some res) (hlink : Cond.methodLink own index yX9_sum ∈ TT) (hR : 3 + 1 ≤ fr ∧ 8 + (3 + 11) + 67 ≤ lo) (hls : ls.size = nL) (hr : (rest.map fun v => v.category).sum ≤ 8) (hdg : decode cc pc = .ok (.invokevirtual index, 3)) (kk : ∀ r s', f r s' = some res → V X (cc, own, nL, fr, lo, ini) E sF s' (G0 X (pc + 3) ls (.int r :: rest))) : V X (cc, own, nL, fr, lo, ini) E sF s (G0 X pc ls (.int l2 :: .int l1 :: .ref (xb X + a0) :: rest)) := by
  obtain ⟨r, s', e, h⟩ := bnd_some h
  exact v_callV (b := a0) (ci := 9) (As := [.int l1, .int l2]) (rest := rest) (c_X9_sum X N a0 l1 l2 s s' r e).2 (c_X9_sum (l := xl X) (D := xD X) (ka := xka X) X N a0 l1 l2 s s' r e).1 rfl vl_X9_sum qi_X9_sum qe_X9_sum hlink hR rfl rfl hls hr hdg (kk r s' h)
set_option maxHeartbeats 4000000 in
set_option maxRecDepth 100000 in
theorem L_X9_termAt_33 {X : VX} {sF : vS} {r : Int32} (N : Nat) (k5 : Nat → Int32 → Int32 → Int32 → Int32 → vS → Option (Int32 × vS)) (hk5 : ∀ (a0 : Nat) (l1 : Int32) (l2 : Int32) (l3 : Int32) (l4 : Int32) (s : vS) (ls : Array Slot), lv_has ls 5 [(0, .ref (xb X + a0)), (1, .int l1), (2, .int l2), (3, .int l3), (4, .int l4)] → k5 a0 l1 l2 l3 l4 s = some (r, sF) → V X (cX9_termAt, RX9, 5, 1, 22, false) (vRet sF (some (.int r)) (some .int)) sF s (G0 X 5 ls [])) (a0 : Nat) (l1 : Int32) (l2 : Int32) (l3 : Int32) (l4 : Int32) (s : vS) (ls : Array Slot) (hl : lv_has ls 5 [(0, .ref (xb X + a0)), (1, .int l1), (2, .int l2), (3, .int l3), (4, .int l4)]) (h : J_X9_termAt_33 N k5 a0 l1 l2 l3 l4 s = some (r, sF)) : V X (cX9_termAt, RX9, 5, 1, 22, false) (vRet sF (some (.int r)) (some .int)) sF s (G0 X 33 ls []) := by
  unfold J_X9_termAt_33 at h
  refine v_inc (fun z => [(4, .int z), (0, .ref (xb X + a0)), (1, .int l1), (2, .int l2), (3, .int l3)]) dX9_termAt_33 h hl (k := 4) rfl (by rfl) (by decide) (fun _ => rfl) (fun l4_3 ls hl h => ?_)
  refine v_goto 5 dX9_termAt_36 (by decide) ?_
  exact hk5 a0 l1 l2 l3 l4_3 s ls (lv_sub hl [1, 2, 3, 4, 0] rfl) h
set_option maxHeartbeats 4000000 in
set_option maxRecDepth 100000 in
theorem L_X9_termAt_5 {X : VX} {sF : vS} {r : Int32} (N : Nat) : ∀ (n : Nat) (a0 : Nat) (l1 : Int32) (l2 : Int32) (l3 : Int32) (l4 : Int32) (s : vS) (ls : Array Slot), lv_has ls 5 [(0, .ref (xb X + a0)), (1, .int l1), (2, .int l2), (3, .int l3), (4, .int l4)] → H_X9_termAt_5 N n a0 l1 l2 l3 l4 s = some (r, sF) → V X (cX9_termAt, RX9, 5, 1, 22, false) (vRet sF (some (.int r)) (some .int)) sF s (G0 X 5 ls []) := by
  intro n
  induction n with
  | zero => intro a0 l1 l2 l3 l4 s ls hl h; cases h
  | succ n ih =>
   intro a0 l1 l2 l3 l4 s ls hl h
   unfold H_X9_termAt_5 at h
   refine v_iload dX9_termAt_5 (lv_at hl 4 rfl) ?_
   refine v_bipush (29 : Int32) dX9_termAt_7 (by decide) ?_
   refine v_icmp_ge 39 dX9_termAt_9 (by decide) h (fun h => ?_) (fun h => ?_)
   · refine v_iconst (-1 : Int32) dX9_termAt_39 (by decide) ?_
     exact v_iret dX9_termAt_40 h
   · refine v_aload_n dX9_termAt_12 rfl (lv_at hl 0 rfl) ?_
     refine v_iload_n dX9_termAt_13 rfl (lv_at hl 1 rfl) ?_
     refine v_iload dX9_termAt_14 (lv_at hl 4 rfl) ?_
     refine k_X9_isTerm h qmX9_179 (by decide) hl.1 (Nat.le_of_ble_eq_true rfl) dX9_termAt_16 (fun v1 s h => ?_)
     refine v_if_eq 33 dX9_termAt_19 (by decide) h (fun h => ?_) (fun h => ?_)
     · exact L_X9_termAt_33 N (H_X9_termAt_5 N n) ih a0 l1 l2 l3 l4 s ls (lv_sub hl [0, 1, 2, 3, 4] rfl) h
     · refine v_iload_n dX9_termAt_22 rfl (lv_at hl 3 rfl) ?_
       refine v_iload_n dX9_termAt_23 rfl (lv_at hl 2 rfl) ?_
       refine v_icmp_ne 30 dX9_termAt_24 (by decide) h (fun h => ?_) (fun h => ?_)
       · refine v_inc (fun z => [(3, .int z), (0, .ref (xb X + a0)), (1, .int l1), (2, .int l2), (4, .int l4)]) dX9_termAt_30 h hl (k := 3) rfl (by rfl) (by decide) (fun _ => rfl) (fun l3_2 ls hl h => ?_)
         exact L_X9_termAt_33 N (H_X9_termAt_5 N n) ih a0 l1 l2 l3_2 l4 s ls (lv_sub hl [1, 2, 3, 0, 4] rfl) h
       · refine v_iload dX9_termAt_27 (lv_at hl 4 rfl) ?_
         exact v_iret dX9_termAt_29 h
theorem vl_X9_termAt : vCl yX9_termAt cX9_termAt 5 (some .int) 2 := ⟨qy_X9_termAt, qjX9, by decide +kernel, by decide +kernel, by decide +kernel⟩
set_option maxHeartbeats 4000000 in
set_option maxRecDepth 100000 in
theorem c_X9_termAt {l : Launch} {D : va_G} {ka : Nat → ClassId} (X0 : VX) (N : Nat) (a0 : Nat) (l1 : Int32) (l2 : Int32) (s sF : vS) (r : Int32) (h : F_X9_termAt N a0 l1 l2 s = some (r, sF)) : isO s a0 9 = true ∧ vMet l D ka (xb X0) yX9_termAt cX9_termAt 5 (some .int) 1 22 [.ref (xb X0 + a0), .int l1, .int l2] s sF (some (.int r)) := by
  unfold F_X9_termAt at h
  unfold rcv at h
  obtain ⟨hO, h⟩ := v_chk h
  refine ⟨hO, vMet.of (ini := false) X0 (plainFor_of_name (by decide +kernel)) (Nat.le_of_ble_eq_true rfl) (fun h => by cases h) (fun X ls hb hl => ?_) rfl⟩
  show V X (cX9_termAt, RX9, 5, 1, 22, false) (vRet sF (some (.int r)) (some .int)) sF s (G0 X 0 ls [])
  rw [← hb] at hl
  have hl : lv_has ls 5 [(0, .ref (xb X + a0)), (1, .int l1), (2, .int l2)] := hl
  refine v_iconst (0 : Int32) dX9_termAt_0 (by decide) ?_
  refine v_istore_n [(3, .int (0 : Int32)), (0, .ref (xb X + a0)), (1, .int l1), (2, .int l2)] dX9_termAt_1 rfl hl (by decide) rfl (fun ls hl => ?_)
  refine v_iconst (0 : Int32) dX9_termAt_2 (by decide) ?_
  refine v_istore [(4, .int (0 : Int32)), (3, .int (0 : Int32)), (0, .ref (xb X + a0)), (1, .int l1), (2, .int l2)] dX9_termAt_3 hl (by decide) rfl (fun ls hl => ?_)
  exact L_X9_termAt_5 N N a0 l1 l2 (0 : Int32) (0 : Int32) s ls (lv_sub hl [2, 3, 4, 1, 0] rfl) h
theorem k_X9_termAt {X : VX} {cc : ByteArray} {own : String} {nL fr lo : Nat} {ini : Bool} {E : VX → Prop} {sF s : vS} {ρ : Type} {res : ρ} {pc : Nat} {ls : Array Slot} {rest : List Value} {N index : Nat} {a0 : Nat} {l1 : Int32} {l2 : Int32} {f : Int32 → vS → Option ρ} (h : bnd (F_X9_termAt N a0 l1 l2 s) f = some res) (hlink : Cond.methodLink own index yX9_termAt ∈ TT) (hR : 1 + 1 ≤ fr ∧ 8 + (5 + 11) + 22 ≤ lo) (hls : ls.size = nL) (hr : (rest.map fun v => v.category).sum ≤ 8) (hdg : decode cc pc = .ok (.invokevirtual index, 3)) (kk : ∀ r s', f r s' = some res → V X (cc, own, nL, fr, lo, ini) E sF s' (G0 X (pc + 3) ls (.int r :: rest))) : V X (cc, own, nL, fr, lo, ini) E sF s (G0 X pc ls (.int l2 :: .int l1 :: .ref (xb X + a0) :: rest)) := by
  obtain ⟨r, s', e, h⟩ := bnd_some h
  exact v_callV (b := a0) (ci := 9) (As := [.int l1, .int l2]) (rest := rest) (c_X9_termAt X N a0 l1 l2 s s' r e).2 (c_X9_termAt (l := xl X) (D := xD X) (ka := xka X) X N a0 l1 l2 s s' r e).1 rfl vl_X9_termAt qi_X9_termAt qe_X9_termAt hlink hR rfl rfl hls hr hdg (kk r s' h)
set_option maxHeartbeats 4000000 in
set_option maxRecDepth 100000 in
theorem L_X9_term_33 {X : VX} {sF : vS} {r : Int32} (N : Nat) (k0 : Int32) (s : vS) (ls : Array Slot) (hl : lv_has ls 3 []) (h : J_X9_term_33 N k0 s = some (r, sF)) : V X (cX9_term, RX9, 3, 2, 46, false) (vRet sF (some (.int r)) (some .int)) sF s (G0 X 33 ls [.int k0]) := by
  unfold J_X9_term_33 at h
  exact v_iret dX9_term_33 h
set_option maxHeartbeats 4000000 in
set_option maxRecDepth 100000 in
theorem L_X9_term_11 {X : VX} {sF : vS} {r : Int32} (N : Nat) (s : vS) (ls : Array Slot) (hl : lv_has ls 3 []) (h : J_X9_term_11 N  s = some (r, sF)) : V X (cX9_term, RX9, 3, 2, 46, false) (vRet sF (some (.int r)) (some .int)) sF s (G0 X 11 ls []) := by
  unfold J_X9_term_11 at h
  refine v_iconst (-1 : Int32) dX9_term_11 (by decide) ?_
  exact v_iret dX9_term_12 h
theorem vl_X9_term : vCl yX9_term cX9_term 3 (some .int) 2 := ⟨qy_X9_term, qjX9, by decide +kernel, by decide +kernel, by decide +kernel⟩
set_option maxHeartbeats 4000000 in
set_option maxRecDepth 100000 in
theorem c_X9_term {l : Launch} {D : va_G} {ka : Nat → ClassId} (X0 : VX) (N : Nat) (a0 : Nat) (l1 : Int32) (l2 : Int32) (s sF : vS) (r : Int32) (h : F_X9_term N a0 l1 l2 s = some (r, sF)) : isO s a0 9 = true ∧ vMet l D ka (xb X0) yX9_term cX9_term 3 (some .int) 2 46 [.ref (xb X0 + a0), .int l1, .int l2] s sF (some (.int r)) := by
  unfold F_X9_term at h
  unfold rcv at h
  obtain ⟨hO, h⟩ := v_chk h
  refine ⟨hO, vMet.of (ini := false) X0 (plainFor_of_name (by decide +kernel)) (Nat.le_of_ble_eq_true rfl) (fun h => by cases h) (fun X ls hb hl => ?_) rfl⟩
  show V X (cX9_term, RX9, 3, 2, 46, false) (vRet sF (some (.int r)) (some .int)) sF s (G0 X 0 ls [])
  rw [← hb] at hl
  have hl : lv_has ls 3 [(0, .ref (xb X + a0)), (1, .int l1), (2, .int l2)] := hl
  refine v_iload_n dX9_term_0 rfl (lv_at hl 1 rfl) ?_
  refine k_X9_isStore h qmX9_335 (by decide) hl.1 (Nat.le_of_ble_eq_true rfl) dX9_term_1 (fun v1 s h => ?_)
  refine v_if_eq 11 dX9_term_4 (by decide) h (fun h => ?_) (fun h => ?_)
  · exact L_X9_term_11 N  s ls (lv_sub hl [] rfl) h
  · refine v_iload_n dX9_term_7 rfl (lv_at hl 2 rfl) ?_
    refine v_if_ge 13 dX9_term_8 (by decide) h (fun h => ?_) (fun h => ?_)
    · refine v_aload_n dX9_term_13 rfl (lv_at hl 0 rfl) ?_
      refine v_getR 9 9 h (by decide) rfl qfX9_52 dX9_term_14 (fun r2 h => ?_)
      refine v_iload_n dX9_term_17 rfl (lv_at hl 1 rfl) ?_
      refine v_zald dX9_term_18 h (fun v3 h => ?_)
      refine v_if_eq 31 dX9_term_19 (by decide) h (fun h => ?_) (fun h => ?_)
      · refine v_bipush (-3 : Int32) dX9_term_31 (by decide) ?_
        exact L_X9_term_33 N (-3 : Int32) s ls (lv_sub hl [] rfl) h
      · refine v_aload_n dX9_term_22 rfl (lv_at hl 0 rfl) ?_
        refine v_iload_n dX9_term_23 rfl (lv_at hl 1 rfl) ?_
        refine v_iload_n dX9_term_24 rfl (lv_at hl 2 rfl) ?_
        refine k_X9_termAt h qmX9_347 (by decide) hl.1 (Nat.le_of_ble_eq_true rfl) dX9_term_25 (fun v4 s h => ?_)
        refine v_goto 33 dX9_term_28 (by decide) ?_
        exact L_X9_term_33 N v4 s ls (lv_sub hl [] rfl) h
    · exact L_X9_term_11 N  s ls (lv_sub hl [] rfl) h
theorem k_X9_term {X : VX} {cc : ByteArray} {own : String} {nL fr lo : Nat} {ini : Bool} {E : VX → Prop} {sF s : vS} {ρ : Type} {res : ρ} {pc : Nat} {ls : Array Slot} {rest : List Value} {N index : Nat} {a0 : Nat} {l1 : Int32} {l2 : Int32} {f : Int32 → vS → Option ρ} (h : bnd (F_X9_term N a0 l1 l2 s) f = some res) (hlink : Cond.methodLink own index yX9_term ∈ TT) (hR : 2 + 1 ≤ fr ∧ 8 + (3 + 11) + 46 ≤ lo) (hls : ls.size = nL) (hr : (rest.map fun v => v.category).sum ≤ 8) (hdg : decode cc pc = .ok (.invokevirtual index, 3)) (kk : ∀ r s', f r s' = some res → V X (cc, own, nL, fr, lo, ini) E sF s' (G0 X (pc + 3) ls (.int r :: rest))) : V X (cc, own, nL, fr, lo, ini) E sF s (G0 X pc ls (.int l2 :: .int l1 :: .ref (xb X + a0) :: rest)) := by
  obtain ⟨r, s', e, h⟩ := bnd_some h
  exact v_callV (b := a0) (ci := 9) (As := [.int l1, .int l2]) (rest := rest) (c_X9_term X N a0 l1 l2 s s' r e).2 (c_X9_term (l := xl X) (D := xD X) (ka := xka X) X N a0 l1 l2 s s' r e).1 rfl vl_X9_term qi_X9_term qe_X9_term hlink hR rfl rfl hls hr hdg (kk r s' h)
set_option maxHeartbeats 4000000 in
set_option maxRecDepth 100000 in
theorem L_X9_coefficient_72 {X : VX} {sF : vS} {r : Int64} (N : Nat) (k0 : Int64) (s : vS) (ls : Array Slot) (hl : lv_has ls 5 []) (h : J_X9_coefficient_72 N k0 s = some (r, sF)) : V X (cX9_coefficient, RX9, 5, 2, 46, false) (vRet sF (some (.long r)) (some .long)) sF s (G0 X 72 ls [.long k0]) := by
  unfold J_X9_coefficient_72 at h
  exact v_lret dX9_coefficient_72 h
set_option maxHeartbeats 4000000 in
set_option maxRecDepth 100000 in
theorem L_X9_coefficient_34 {X : VX} {sF : vS} {r : Int64} (N : Nat) (s : vS) (ls : Array Slot) (hl : lv_has ls 5 []) (h : J_X9_coefficient_34 N  s = some (r, sF)) : V X (cX9_coefficient, RX9, 5, 2, 46, false) (vRet sF (some (.long r)) (some .long)) sF s (G0 X 34 ls []) := by
  unfold J_X9_coefficient_34 at h
  refine v_ldc2 qkX9_166 dX9_coefficient_34 ?_
  exact v_lret dX9_coefficient_37 h
theorem vl_X9_coefficient : vCl yX9_coefficient cX9_coefficient 5 (some .long) 3 := ⟨qy_X9_coefficient, qjX9, by decide +kernel, by decide +kernel, by decide +kernel⟩
set_option maxHeartbeats 4000000 in
set_option maxRecDepth 100000 in
theorem c_X9_coefficient {l : Launch} {D : va_G} {ka : Nat → ClassId} (X0 : VX) (N : Nat) (a0 : Nat) (l1 : Int32) (l2 : Int32) (l3 : Int32) (s sF : vS) (r : Int64) (h : F_X9_coefficient N a0 l1 l2 l3 s = some (r, sF)) : isO s a0 9 = true ∧ vMet l D ka (xb X0) yX9_coefficient cX9_coefficient 5 (some .long) 2 46 [.ref (xb X0 + a0), .int l1, .int l2, .int l3] s sF (some (.long r)) := by
  unfold F_X9_coefficient at h
  unfold rcv at h
  obtain ⟨hO, h⟩ := v_chk h
  refine ⟨hO, vMet.of (ini := false) X0 (plainFor_of_name (by decide +kernel)) (Nat.le_of_ble_eq_true rfl) (fun h => by cases h) (fun X ls hb hl => ?_) rfl⟩
  show V X (cX9_coefficient, RX9, 5, 2, 46, false) (vRet sF (some (.long r)) (some .long)) sF s (G0 X 0 ls [])
  rw [← hb] at hl
  have hl : lv_has ls 5 [(0, .ref (xb X + a0)), (1, .int l1), (2, .int l2), (3, .int l3)] := hl
  refine v_iload_n dX9_coefficient_0 rfl (lv_at hl 1 rfl) ?_
  refine k_X9_isStore h qmX9_335 (by decide) hl.1 (Nat.le_of_ble_eq_true rfl) dX9_coefficient_1 (fun v1 s h => ?_)
  refine v_if_eq 34 dX9_coefficient_4 (by decide) h (fun h => ?_) (fun h => ?_)
  · exact L_X9_coefficient_34 N  s ls (lv_sub hl [] rfl) h
  · refine v_iload_n dX9_coefficient_7 rfl (lv_at hl 3 rfl) ?_
    refine v_iconst (0 : Int32) dX9_coefficient_8 (by decide) ?_
    refine v_iconst (1 : Int32) dX9_coefficient_9 (by decide) ?_
    refine k_X9_in h qmX9_129 (by decide) hl.1 (Nat.le_of_ble_eq_true rfl) dX9_coefficient_10 (fun v2 s h => ?_)
    refine v_if_eq 34 dX9_coefficient_13 (by decide) h (fun h => ?_) (fun h => ?_)
    · exact L_X9_coefficient_34 N  s ls (lv_sub hl [] rfl) h
    · refine v_aload_n dX9_coefficient_16 rfl (lv_at hl 0 rfl) ?_
      refine v_getR 9 9 h (by decide) rfl qfX9_52 dX9_coefficient_17 (fun r3 h => ?_)
      refine v_iload_n dX9_coefficient_20 rfl (lv_at hl 1 rfl) ?_
      refine v_zald dX9_coefficient_21 h (fun v4 h => ?_)
      refine v_if_eq 34 dX9_coefficient_22 (by decide) h (fun h => ?_) (fun h => ?_)
      · exact L_X9_coefficient_34 N  s ls (lv_sub hl [] rfl) h
      · refine v_aload_n dX9_coefficient_25 rfl (lv_at hl 0 rfl) ?_
        refine v_iload_n dX9_coefficient_26 rfl (lv_at hl 1 rfl) ?_
        refine v_iload_n dX9_coefficient_27 rfl (lv_at hl 2 rfl) ?_
        refine k_X9_termAt h qmX9_347 (by decide) hl.1 (Nat.le_of_ble_eq_true rfl) dX9_coefficient_28 (fun v5 s h => ?_)
        refine v_if_ge 38 dX9_coefficient_31 (by decide) h (fun h => ?_) (fun h => ?_)
        · refine v_bipush (29 : Int32) dX9_coefficient_38 (by decide) ?_
          refine v_iload_n dX9_coefficient_40 rfl (lv_at hl 1 rfl) ?_
          refine v_imul dX9_coefficient_41 ?_
          refine v_aload_n dX9_coefficient_42 rfl (lv_at hl 0 rfl) ?_
          refine v_iload_n dX9_coefficient_43 rfl (lv_at hl 1 rfl) ?_
          refine v_iload_n dX9_coefficient_44 rfl (lv_at hl 2 rfl) ?_
          refine k_X9_termAt h qmX9_347 (by decide) hl.1 (Nat.le_of_ble_eq_true rfl) dX9_coefficient_45 (fun v6 s h => ?_)
          refine v_iadd dX9_coefficient_48 ?_
          refine v_nmI h (fun l4_7 h => ?_)
          refine v_istore [(4, .int l4_7), (0, .ref (xb X + a0)), (1, .int l1), (2, .int l2), (3, .int l3)] dX9_coefficient_49 hl (by decide) rfl (fun ls hl => ?_)
          refine v_iload_n dX9_coefficient_51 rfl (lv_at hl 4 rfl) ?_
          refine v_if_ne 65 dX9_coefficient_52 (by decide) h (fun h => ?_) (fun h => ?_)
          · refine v_aload_n dX9_coefficient_65 rfl (lv_at hl 1 rfl) ?_
            refine v_getR 9 12 h (by decide) rfl qfX9_63 dX9_coefficient_66 (fun r8 h => ?_)
            refine v_iload dX9_coefficient_69 (lv_at hl 0 rfl) ?_
            refine v_lald dX9_coefficient_71 h (fun v9 h => ?_)
            exact L_X9_coefficient_72 N v9 s ls (lv_sub hl [] rfl) h
          · refine v_aload_n dX9_coefficient_55 rfl (lv_at hl 1 rfl) ?_
            refine v_getR 9 11 h (by decide) rfl qfX9_59 dX9_coefficient_56 (fun r10 h => ?_)
            refine v_iload dX9_coefficient_59 (lv_at hl 0 rfl) ?_
            refine v_lald dX9_coefficient_61 h (fun v11 h => ?_)
            refine v_goto 72 dX9_coefficient_62 (by decide) ?_
            exact L_X9_coefficient_72 N v11 s ls (lv_sub hl [] rfl) h
        · exact L_X9_coefficient_34 N  s ls (lv_sub hl [] rfl) h
theorem k_X9_coefficient {X : VX} {cc : ByteArray} {own : String} {nL fr lo : Nat} {ini : Bool} {E : VX → Prop} {sF s : vS} {ρ : Type} {res : ρ} {pc : Nat} {ls : Array Slot} {rest : List Value} {N index : Nat} {a0 : Nat} {l1 : Int32} {l2 : Int32} {l3 : Int32} {f : Int64 → vS → Option ρ} (h : bnd (F_X9_coefficient N a0 l1 l2 l3 s) f = some res) (hlink : Cond.methodLink own index yX9_coefficient ∈ TT) (hR : 2 + 1 ≤ fr ∧ 8 + (5 + 11) + 46 ≤ lo) (hls : ls.size = nL) (hr : (rest.map fun v => v.category).sum ≤ 8) (hdg : decode cc pc = .ok (.invokevirtual index, 3)) (kk : ∀ r s', f r s' = some res → V X (cc, own, nL, fr, lo, ini) E sF s' (G0 X (pc + 3) ls (.long r :: rest))) : V X (cc, own, nL, fr, lo, ini) E sF s (G0 X pc ls (.int l3 :: .int l2 :: .int l1 :: .ref (xb X + a0) :: rest)) := by
  obtain ⟨r, s', e, h⟩ := bnd_some h
  exact v_callV (b := a0) (ci := 9) (As := [.int l1, .int l2, .int l3]) (rest := rest) (c_X9_coefficient X N a0 l1 l2 l3 s s' r e).2 (c_X9_coefficient (l := xl X) (D := xD X) (ka := xka X) X N a0 l1 l2 l3 s s' r e).1 rfl vl_X9_coefficient qi_X9_coefficient qe_X9_coefficient hlink hR rfl rfl hls hr hdg (kk r s' h)
set_option maxHeartbeats 4000000 in
set_option maxRecDepth 100000 in
theorem L_X9_makes_124 {X : VX} {sF : vS} {r : Int32} (N : Nat) (a0 : Nat) (l4 : Int32) (s : vS) (ls : Array Slot) (hl : lv_has ls 5 [(0, .ref (xb X + a0)), (4, .int l4)]) (h : J_X9_makes_124 N a0 l4 s = some (r, sF)) : V X (cX9_makes, RX9, 5, 6, 174, false) (vRet sF (some (.int r)) (some .int)) sF s (G0 X 124 ls []) := by
  unfold J_X9_makes_124 at h
  refine v_aload_n dX9_makes_124 rfl (lv_at hl 0 rfl) ?_
  refine v_getI 9 25 h (by decide) (Or.inr rfl) qfX9_168 dX9_makes_125 (fun v13 h => ?_)
  refine v_if_eq 134 dX9_makes_128 (by decide) h (fun h => ?_) (fun h => ?_)
  · refine v_aload_n dX9_makes_134 rfl (lv_at hl 0 rfl) ?_
    refine v_bipush (13 : Int32) dX9_makes_135 (by decide) ?_
    refine v_iload dX9_makes_137 (lv_at hl 1 rfl) ?_
    refine k_X9_copy h qmX9_182 (by decide) hl.1 (Nat.le_of_ble_eq_true rfl) dX9_makes_139 (fun v14 s h => ?_)
    refine v_aload_n dX9_makes_142 rfl (lv_at hl 0 rfl) ?_
    refine v_getR 9 9 h (by decide) rfl qfX9_52 dX9_makes_143 (fun r15 h => ?_)
    refine v_iload dX9_makes_146 (lv_at hl 1 rfl) ?_
    refine v_iconst (1 : Int32) dX9_makes_148 (by decide) ?_
    refine v_zast dX9_makes_149 h (fun s h => ?_)
    refine v_aload_n dX9_makes_150 rfl (lv_at hl 0 rfl) ?_
    refine v_iload dX9_makes_151 (lv_at hl 1 rfl) ?_
    refine k_X9_terms h qmX9_196 (by decide) hl.1 (Nat.le_of_ble_eq_true rfl) dX9_makes_153 (fun v16 s h => ?_)
    exact v_iret dX9_makes_156 h
  · refine v_bipush (-6 : Int32) dX9_makes_131 (by decide) ?_
    exact v_iret dX9_makes_133 h
set_option maxHeartbeats 4000000 in
set_option maxRecDepth 100000 in
theorem L_X9_makes_119 {X : VX} {sF : vS} {r : Int32} (N : Nat) (a0 : Nat) (l4 : Int32) (k0 : Nat) (k1 : Int32) (k2 : Int32) (k3 : Int64) (s : vS) (ls : Array Slot) (hl : lv_has ls 5 [(0, .ref (xb X + a0)), (4, .int l4)]) (h : J_X9_makes_119 N a0 l4 k0 k1 k2 k3 s = some (r, sF)) : V X (cX9_makes, RX9, 5, 6, 174, false) (vRet sF (some (.int r)) (some .int)) sF s (G0 X 119 ls [.long k3, .int k2, .int k1, .ref (xb X + k0)]) := by
  unfold J_X9_makes_119 at h
  refine v_bipush (13 : Int32) dX9_makes_119 (by decide) ?_
  refine k_X9_sumUp h qmX9_310 (by decide) hl.1 (Nat.le_of_ble_eq_true rfl) dX9_makes_121 (fun v12 s h => ?_)
  exact L_X9_makes_124 N a0 l4 s ls (lv_sub hl [0, 1] rfl) h
set_option maxHeartbeats 4000000 in
set_option maxRecDepth 100000 in
theorem L_X9_makes_83 {X : VX} {sF : vS} {r : Int32} (N : Nat) (a0 : Nat) (l1 : Int32) (l2 : Int32) (l3 : Int32) (l4 : Int32) (s : vS) (ls : Array Slot) (hl : lv_has ls 5 [(0, .ref (xb X + a0)), (1, .int l1), (2, .int l2), (3, .int l3), (4, .int l4)]) (h : J_X9_makes_83 N a0 l1 l2 l3 l4 s = some (r, sF)) : V X (cX9_makes, RX9, 5, 6, 174, false) (vRet sF (some (.int r)) (some .int)) sF s (G0 X 83 ls []) := by
  unfold J_X9_makes_83 at h
  refine v_aload_n dX9_makes_83 rfl (lv_at hl 0 rfl) ?_
  refine v_iconst (0 : Int32) dX9_makes_84 (by decide) ?_
  refine v_putZ 9 25 h (by decide) rfl (Or.inl rfl) qfX9_168 dX9_makes_85 (fun s h => ?_)
  refine v_iload_n dX9_makes_88 rfl (lv_at hl 3 rfl) ?_
  refine v_iconst (2 : Int32) dX9_makes_89 (by decide) ?_
  refine v_icmp_ne 104 dX9_makes_90 (by decide) h (fun h => ?_) (fun h => ?_)
  · refine v_aload_n dX9_makes_104 rfl (lv_at hl 0 rfl) ?_
    refine v_iload_n dX9_makes_105 rfl (lv_at hl 1 rfl) ?_
    refine v_iload_n dX9_makes_106 rfl (lv_at hl 2 rfl) ?_
    refine v_iload_n dX9_makes_107 rfl (lv_at hl 3 rfl) ?_
    refine v_iconst (1 : Int32) dX9_makes_108 (by decide) ?_
    refine v_icmp_ne 118 dX9_makes_109 (by decide) h (fun h => ?_) (fun h => ?_)
    · refine v_lconst (1 : Int64) dX9_makes_118 (by decide) ?_
      exact L_X9_makes_119 N a0 l4 a0 l1 l2 (1 : Int64) s ls (lv_sub hl [0, 4] rfl) h
    · refine v_ldc2 qkX9_164 dX9_makes_112 ?_
      refine v_goto 119 dX9_makes_115 (by decide) ?_
      exact L_X9_makes_119 N a0 l4 a0 l1 l2 (-1 : Int64) s ls (lv_sub hl [0, 4] rfl) h
  · refine v_aload_n dX9_makes_93 rfl (lv_at hl 0 rfl) ?_
    refine v_iload_n dX9_makes_94 rfl (lv_at hl 1 rfl) ?_
    refine v_iload_n dX9_makes_95 rfl (lv_at hl 2 rfl) ?_
    refine v_bipush (13 : Int32) dX9_makes_96 (by decide) ?_
    refine k_X9_multiply h qmX9_307 (by decide) hl.1 (Nat.le_of_ble_eq_true rfl) dX9_makes_98 (fun v11 s h => ?_)
    refine v_goto 124 dX9_makes_101 (by decide) ?_
    exact L_X9_makes_124 N a0 l4 s ls (lv_sub hl [0, 4] rfl) h
set_option maxHeartbeats 4000000 in
set_option maxRecDepth 100000 in
theorem L_X9_makes_51 {X : VX} {sF : vS} {r : Int32} (N : Nat) (s : vS) (ls : Array Slot) (hl : lv_has ls 5 []) (h : J_X9_makes_51 N  s = some (r, sF)) : V X (cX9_makes, RX9, 5, 6, 174, false) (vRet sF (some (.int r)) (some .int)) sF s (G0 X 51 ls []) := by
  unfold J_X9_makes_51 at h
  refine v_bipush (-3 : Int32) dX9_makes_51 (by decide) ?_
  exact v_iret dX9_makes_53 h
set_option maxHeartbeats 4000000 in
set_option maxRecDepth 100000 in
theorem L_X9_makes_31 {X : VX} {sF : vS} {r : Int32} (N : Nat) (s : vS) (ls : Array Slot) (hl : lv_has ls 5 []) (h : J_X9_makes_31 N  s = some (r, sF)) : V X (cX9_makes, RX9, 5, 6, 174, false) (vRet sF (some (.int r)) (some .int)) sF s (G0 X 31 ls []) := by
  unfold J_X9_makes_31 at h
  refine v_iconst (-1 : Int32) dX9_makes_31 (by decide) ?_
  exact v_iret dX9_makes_32 h
theorem vl_X9_makes : vCl yX9_makes cX9_makes 5 (some .int) 4 := ⟨qy_X9_makes, qjX9, by decide +kernel, by decide +kernel, by decide +kernel⟩
set_option maxHeartbeats 4000000 in
set_option maxRecDepth 100000 in
theorem c_X9_makes {l : Launch} {D : va_G} {ka : Nat → ClassId} (X0 : VX) (N : Nat) (a0 : Nat) (l1 : Int32) (l2 : Int32) (l3 : Int32) (l4 : Int32) (s sF : vS) (r : Int32) (h : F_X9_makes N a0 l1 l2 l3 l4 s = some (r, sF)) : isO s a0 9 = true ∧ vMet l D ka (xb X0) yX9_makes cX9_makes 5 (some .int) 6 174 [.ref (xb X0 + a0), .int l1, .int l2, .int l3, .int l4] s sF (some (.int r)) := by
  unfold F_X9_makes at h
  unfold rcv at h
  obtain ⟨hO, h⟩ := v_chk h
  refine ⟨hO, vMet.of (ini := false) X0 (plainFor_of_name (by decide +kernel)) (Nat.le_of_ble_eq_true rfl) (fun h => by cases h) (fun X ls hb hl => ?_) rfl⟩
  show V X (cX9_makes, RX9, 5, 6, 174, false) (vRet sF (some (.int r)) (some .int)) sF s (G0 X 0 ls [])
  rw [← hb] at hl
  have hl : lv_has ls 5 [(0, .ref (xb X + a0)), (1, .int l1), (2, .int l2), (3, .int l3), (4, .int l4)] := hl
  refine v_iload_n dX9_makes_0 rfl (lv_at hl 1 rfl) ?_
  refine k_X9_isStore h qmX9_335 (by decide) hl.1 (Nat.le_of_ble_eq_true rfl) dX9_makes_1 (fun v1 s h => ?_)
  refine v_if_eq 31 dX9_makes_4 (by decide) h (fun h => ?_) (fun h => ?_)
  · exact L_X9_makes_31 N  s ls (lv_sub hl [] rfl) h
  · refine v_iload_n dX9_makes_7 rfl (lv_at hl 2 rfl) ?_
    refine k_X9_isStore h qmX9_335 (by decide) hl.1 (Nat.le_of_ble_eq_true rfl) dX9_makes_8 (fun v2 s h => ?_)
    refine v_if_eq 31 dX9_makes_11 (by decide) h (fun h => ?_) (fun h => ?_)
    · exact L_X9_makes_31 N  s ls (lv_sub hl [] rfl) h
    · refine v_iload_n dX9_makes_14 rfl (lv_at hl 3 rfl) ?_
      refine v_iconst (0 : Int32) dX9_makes_15 (by decide) ?_
      refine v_iconst (2 : Int32) dX9_makes_16 (by decide) ?_
      refine k_X9_in h qmX9_129 (by decide) hl.1 (Nat.le_of_ble_eq_true rfl) dX9_makes_17 (fun v3 s h => ?_)
      refine v_if_eq 31 dX9_makes_20 (by decide) h (fun h => ?_) (fun h => ?_)
      · exact L_X9_makes_31 N  s ls (lv_sub hl [] rfl) h
      · refine v_iload dX9_makes_23 (lv_at hl 4 rfl) ?_
        refine k_X9_isStore h qmX9_335 (by decide) hl.1 (Nat.le_of_ble_eq_true rfl) dX9_makes_25 (fun v4 s h => ?_)
        refine v_if_ne 33 dX9_makes_28 (by decide) h (fun h => ?_) (fun h => ?_)
        · refine v_aload_n dX9_makes_33 rfl (lv_at hl 0 rfl) ?_
          refine v_getR 9 9 h (by decide) rfl qfX9_52 dX9_makes_34 (fun r5 h => ?_)
          refine v_iload_n dX9_makes_37 rfl (lv_at hl 1 rfl) ?_
          refine v_zald dX9_makes_38 h (fun v6 h => ?_)
          refine v_if_eq 51 dX9_makes_39 (by decide) h (fun h => ?_) (fun h => ?_)
          · exact L_X9_makes_51 N  s ls (lv_sub hl [] rfl) h
          · refine v_aload_n dX9_makes_42 rfl (lv_at hl 0 rfl) ?_
            refine v_getR 9 9 h (by decide) rfl qfX9_52 dX9_makes_43 (fun r7 h => ?_)
            refine v_iload_n dX9_makes_46 rfl (lv_at hl 2 rfl) ?_
            refine v_zald dX9_makes_47 h (fun v8 h => ?_)
            refine v_if_ne 54 dX9_makes_48 (by decide) h (fun h => ?_) (fun h => ?_)
            · refine v_aload_n dX9_makes_54 rfl (lv_at hl 0 rfl) ?_
              refine v_iload_n dX9_makes_55 rfl (lv_at hl 1 rfl) ?_
              refine v_iload_n dX9_makes_56 rfl (lv_at hl 2 rfl) ?_
              refine k_X9_areUnlike h qmX9_298 (by decide) hl.1 (Nat.le_of_ble_eq_true rfl) dX9_makes_57 (fun v9 s h => ?_)
              refine v_if_eq 66 dX9_makes_60 (by decide) h (fun h => ?_) (fun h => ?_)
              · refine v_iload_n dX9_makes_66 rfl (lv_at hl 3 rfl) ?_
                refine v_iconst (2 : Int32) dX9_makes_67 (by decide) ?_
                refine v_icmp_ne 83 dX9_makes_68 (by decide) h (fun h => ?_) (fun h => ?_)
                · exact L_X9_makes_83 N a0 l1 l2 l3 l4 s ls (lv_sub hl [0, 1, 2, 3, 4] rfl) h
                · refine v_aload_n dX9_makes_71 rfl (lv_at hl 0 rfl) ?_
                  refine v_iload_n dX9_makes_72 rfl (lv_at hl 1 rfl) ?_
                  refine v_iload_n dX9_makes_73 rfl (lv_at hl 2 rfl) ?_
                  refine k_X9_isTooGreat h qmX9_304 (by decide) hl.1 (Nat.le_of_ble_eq_true rfl) dX9_makes_74 (fun v10 s h => ?_)
                  refine v_if_eq 83 dX9_makes_77 (by decide) h (fun h => ?_) (fun h => ?_)
                  · exact L_X9_makes_83 N a0 l1 l2 l3 l4 s ls (lv_sub hl [0, 1, 2, 3, 4] rfl) h
                  · refine v_bipush (-4 : Int32) dX9_makes_80 (by decide) ?_
                    exact v_iret dX9_makes_82 h
              · refine v_bipush (-2 : Int32) dX9_makes_63 (by decide) ?_
                exact v_iret dX9_makes_65 h
            · exact L_X9_makes_51 N  s ls (lv_sub hl [] rfl) h
        · exact L_X9_makes_31 N  s ls (lv_sub hl [] rfl) h
theorem k_X9_makes {X : VX} {cc : ByteArray} {own : String} {nL fr lo : Nat} {ini : Bool} {E : VX → Prop} {sF s : vS} {ρ : Type} {res : ρ} {pc : Nat} {ls : Array Slot} {rest : List Value} {N index : Nat} {a0 : Nat} {l1 : Int32} {l2 : Int32} {l3 : Int32} {l4 : Int32} {f : Int32 → vS → Option ρ} (h : bnd (F_X9_makes N a0 l1 l2 l3 l4 s) f = some res) (hlink : Cond.methodLink own index yX9_makes ∈ TT) (hR : 6 + 1 ≤ fr ∧ 8 + (5 + 11) + 174 ≤ lo) (hls : ls.size = nL) (hr : (rest.map fun v => v.category).sum ≤ 8) (hdg : decode cc pc = .ok (.invokevirtual index, 3)) (kk : ∀ r s', f r s' = some res → V X (cc, own, nL, fr, lo, ini) E sF s' (G0 X (pc + 3) ls (.int r :: rest))) : V X (cc, own, nL, fr, lo, ini) E sF s (G0 X pc ls (.int l4 :: .int l3 :: .int l2 :: .int l1 :: .ref (xb X + a0) :: rest)) := by
  obtain ⟨r, s', e, h⟩ := bnd_some h
  exact v_callV (b := a0) (ci := 9) (As := [.int l1, .int l2, .int l3, .int l4]) (rest := rest) (c_X9_makes X N a0 l1 l2 l3 l4 s s' r e).2 (c_X9_makes (l := xl X) (D := xD X) (ka := xka X) X N a0 l1 l2 l3 l4 s s' r e).1 rfl vl_X9_makes qi_X9_makes qe_X9_makes hlink hR rfl rfl hls hr hdg (kk r s' h)
set_option maxHeartbeats 4000000 in
set_option maxRecDepth 100000 in
theorem L_X9_lift_16 {X : VX} {sF : vS} {r : Int32} (N : Nat) (s : vS) (ls : Array Slot) (hl : lv_has ls 3 []) (h : J_X9_lift_16 N  s = some (r, sF)) : V X (cX9_lift, RX9, 3, 5, 142, false) (vRet sF (some (.int r)) (some .int)) sF s (G0 X 16 ls []) := by
  unfold J_X9_lift_16 at h
  refine v_iconst (-1 : Int32) dX9_lift_16 (by decide) ?_
  exact v_iret dX9_lift_17 h
theorem vl_X9_lift : vCl yX9_lift cX9_lift 3 (some .int) 2 := ⟨qy_X9_lift, qjX9, by decide +kernel, by decide +kernel, by decide +kernel⟩
set_option maxHeartbeats 4000000 in
set_option maxRecDepth 100000 in
theorem c_X9_lift {l : Launch} {D : va_G} {ka : Nat → ClassId} (X0 : VX) (N : Nat) (a0 : Nat) (l1 : Int32) (l2 : Int32) (s sF : vS) (r : Int32) (h : F_X9_lift N a0 l1 l2 s = some (r, sF)) : isO s a0 9 = true ∧ vMet l D ka (xb X0) yX9_lift cX9_lift 3 (some .int) 5 142 [.ref (xb X0 + a0), .int l1, .int l2] s sF (some (.int r)) := by
  unfold F_X9_lift at h
  unfold rcv at h
  obtain ⟨hO, h⟩ := v_chk h
  refine ⟨hO, vMet.of (ini := false) X0 (plainFor_of_name (by decide +kernel)) (Nat.le_of_ble_eq_true rfl) (fun h => by cases h) (fun X ls hb hl => ?_) rfl⟩
  show V X (cX9_lift, RX9, 3, 5, 142, false) (vRet sF (some (.int r)) (some .int)) sF s (G0 X 0 ls [])
  rw [← hb] at hl
  have hl : lv_has ls 3 [(0, .ref (xb X + a0)), (1, .int l1), (2, .int l2)] := hl
  refine v_iload_n dX9_lift_0 rfl (lv_at hl 1 rfl) ?_
  refine k_X9_isStore h qmX9_335 (by decide) hl.1 (Nat.le_of_ble_eq_true rfl) dX9_lift_1 (fun v1 s h => ?_)
  refine v_if_eq 16 dX9_lift_4 (by decide) h (fun h => ?_) (fun h => ?_)
  · exact L_X9_lift_16 N  s ls (lv_sub hl [] rfl) h
  · refine v_iload_n dX9_lift_7 rfl (lv_at hl 2 rfl) ?_
    refine v_iconst (0 : Int32) dX9_lift_8 (by decide) ?_
    refine v_iconst (4 : Int32) dX9_lift_9 (by decide) ?_
    refine k_X9_in h qmX9_129 (by decide) hl.1 (Nat.le_of_ble_eq_true rfl) dX9_lift_10 (fun v2 s h => ?_)
    refine v_if_ne 18 dX9_lift_13 (by decide) h (fun h => ?_) (fun h => ?_)
    · refine v_aload_n dX9_lift_18 rfl (lv_at hl 0 rfl) ?_
      refine v_getR 9 9 h (by decide) rfl qfX9_52 dX9_lift_19 (fun r3 h => ?_)
      refine v_iload_n dX9_lift_22 rfl (lv_at hl 1 rfl) ?_
      refine v_zald dX9_lift_23 h (fun v4 h => ?_)
      refine v_if_ne 30 dX9_lift_24 (by decide) h (fun h => ?_) (fun h => ?_)
      · refine v_aload_n dX9_lift_30 rfl (lv_at hl 0 rfl) ?_
        refine v_iload_n dX9_lift_31 rfl (lv_at hl 1 rfl) ?_
        refine k_X9_greatest h qmX9_344 (by decide) hl.1 (Nat.le_of_ble_eq_true rfl) dX9_lift_32 (fun v5 s h => ?_)
        refine v_iload_n dX9_lift_35 rfl (lv_at hl 2 rfl) ?_
        refine v_icmp_le 42 dX9_lift_36 (by decide) h (fun h => ?_) (fun h => ?_)
        · refine v_aload_n dX9_lift_42 rfl (lv_at hl 0 rfl) ?_
          refine v_iconst (0 : Int32) dX9_lift_43 (by decide) ?_
          refine v_putZ 9 25 h (by decide) rfl (Or.inl rfl) qfX9_168 dX9_lift_44 (fun s h => ?_)
          refine v_aload_n dX9_lift_47 rfl (lv_at hl 0 rfl) ?_
          refine v_iload_n dX9_lift_48 rfl (lv_at hl 1 rfl) ?_
          refine v_iload_n dX9_lift_49 rfl (lv_at hl 2 rfl) ?_
          refine v_bipush (13 : Int32) dX9_lift_50 (by decide) ?_
          refine k_X9_liftTo h qmX9_350 (by decide) hl.1 (Nat.le_of_ble_eq_true rfl) dX9_lift_52 (fun v6 s h => ?_)
          refine v_aload_n dX9_lift_55 rfl (lv_at hl 0 rfl) ?_
          refine v_getI 9 25 h (by decide) (Or.inr rfl) qfX9_168 dX9_lift_56 (fun v7 h => ?_)
          refine v_if_eq 65 dX9_lift_59 (by decide) h (fun h => ?_) (fun h => ?_)
          · refine v_aload_n dX9_lift_65 rfl (lv_at hl 0 rfl) ?_
            refine v_bipush (13 : Int32) dX9_lift_66 (by decide) ?_
            refine v_iload_n dX9_lift_68 rfl (lv_at hl 1 rfl) ?_
            refine k_X9_copy h qmX9_182 (by decide) hl.1 (Nat.le_of_ble_eq_true rfl) dX9_lift_69 (fun v8 s h => ?_)
            refine v_aload_n dX9_lift_72 rfl (lv_at hl 0 rfl) ?_
            refine v_iload_n dX9_lift_73 rfl (lv_at hl 1 rfl) ?_
            refine k_X9_terms h qmX9_196 (by decide) hl.1 (Nat.le_of_ble_eq_true rfl) dX9_lift_74 (fun v9 s h => ?_)
            exact v_iret dX9_lift_77 h
          · refine v_bipush (-6 : Int32) dX9_lift_62 (by decide) ?_
            exact v_iret dX9_lift_64 h
        · refine v_bipush (-2 : Int32) dX9_lift_39 (by decide) ?_
          exact v_iret dX9_lift_41 h
      · refine v_bipush (-3 : Int32) dX9_lift_27 (by decide) ?_
        exact v_iret dX9_lift_29 h
    · exact L_X9_lift_16 N  s ls (lv_sub hl [] rfl) h
theorem k_X9_lift {X : VX} {cc : ByteArray} {own : String} {nL fr lo : Nat} {ini : Bool} {E : VX → Prop} {sF s : vS} {ρ : Type} {res : ρ} {pc : Nat} {ls : Array Slot} {rest : List Value} {N index : Nat} {a0 : Nat} {l1 : Int32} {l2 : Int32} {f : Int32 → vS → Option ρ} (h : bnd (F_X9_lift N a0 l1 l2 s) f = some res) (hlink : Cond.methodLink own index yX9_lift ∈ TT) (hR : 5 + 1 ≤ fr ∧ 8 + (3 + 11) + 142 ≤ lo) (hls : ls.size = nL) (hr : (rest.map fun v => v.category).sum ≤ 8) (hdg : decode cc pc = .ok (.invokevirtual index, 3)) (kk : ∀ r s', f r s' = some res → V X (cc, own, nL, fr, lo, ini) E sF s' (G0 X (pc + 3) ls (.int r :: rest))) : V X (cc, own, nL, fr, lo, ini) E sF s (G0 X pc ls (.int l2 :: .int l1 :: .ref (xb X + a0) :: rest)) := by
  obtain ⟨r, s', e, h⟩ := bnd_some h
  exact v_callV (b := a0) (ci := 9) (As := [.int l1, .int l2]) (rest := rest) (c_X9_lift X N a0 l1 l2 s s' r e).2 (c_X9_lift (l := xl X) (D := xD X) (ka := xka X) X N a0 l1 l2 s s' r e).1 rfl vl_X9_lift qi_X9_lift qe_X9_lift hlink hR rfl rfl hls hr hdg (kk r s' h)
theorem vl_X9_average : vCl yX9_average cX9_average 2 (some .int) 1 := ⟨qy_X9_average, qjX9, by decide +kernel, by decide +kernel, by decide +kernel⟩
set_option maxHeartbeats 4000000 in
set_option maxRecDepth 100000 in
theorem c_X9_average {l : Launch} {D : va_G} {ka : Nat → ClassId} (X0 : VX) (N : Nat) (a0 : Nat) (l1 : Int32) (s sF : vS) (r : Int32) (h : F_X9_average N a0 l1 s = some (r, sF)) : isO s a0 9 = true ∧ vMet l D ka (xb X0) yX9_average cX9_average 2 (some .int) 5 139 [.ref (xb X0 + a0), .int l1] s sF (some (.int r)) := by
  unfold F_X9_average at h
  unfold rcv at h
  obtain ⟨hO, h⟩ := v_chk h
  refine ⟨hO, vMet.of (ini := false) X0 (plainFor_of_name (by decide +kernel)) (Nat.le_of_ble_eq_true rfl) (fun h => by cases h) (fun X ls hb hl => ?_) rfl⟩
  show V X (cX9_average, RX9, 2, 5, 139, false) (vRet sF (some (.int r)) (some .int)) sF s (G0 X 0 ls [])
  rw [← hb] at hl
  have hl : lv_has ls 2 [(0, .ref (xb X + a0)), (1, .int l1)] := hl
  refine v_iload_n dX9_average_0 rfl (lv_at hl 1 rfl) ?_
  refine k_X9_isStore h qmX9_335 (by decide) hl.1 (Nat.le_of_ble_eq_true rfl) dX9_average_1 (fun v1 s h => ?_)
  refine v_if_ne 9 dX9_average_4 (by decide) h (fun h => ?_) (fun h => ?_)
  · refine v_aload_n dX9_average_9 rfl (lv_at hl 0 rfl) ?_
    refine v_getR 9 9 h (by decide) rfl qfX9_52 dX9_average_10 (fun r2 h => ?_)
    refine v_iload_n dX9_average_13 rfl (lv_at hl 1 rfl) ?_
    refine v_zald dX9_average_14 h (fun v3 h => ?_)
    refine v_if_ne 21 dX9_average_15 (by decide) h (fun h => ?_) (fun h => ?_)
    · refine v_aload_n dX9_average_21 rfl (lv_at hl 0 rfl) ?_
      refine v_getR 9 10 h (by decide) rfl qfX9_56 dX9_average_22 (fun r4 h => ?_)
      refine v_iload_n dX9_average_25 rfl (lv_at hl 1 rfl) ?_
      refine v_iald dX9_average_26 h (fun v5 h => ?_)
      refine v_if_ne 33 dX9_average_27 (by decide) h (fun h => ?_) (fun h => ?_)
      · refine v_aload_n dX9_average_33 rfl (lv_at hl 0 rfl) ?_
        refine v_iconst (0 : Int32) dX9_average_34 (by decide) ?_
        refine v_putZ 9 25 h (by decide) rfl (Or.inl rfl) qfX9_168 dX9_average_35 (fun s h => ?_)
        refine v_aload_n dX9_average_38 rfl (lv_at hl 0 rfl) ?_
        refine v_iload_n dX9_average_39 rfl (lv_at hl 1 rfl) ?_
        refine v_bipush (13 : Int32) dX9_average_40 (by decide) ?_
        refine k_X9_averageTo h qmX9_317 (by decide) hl.1 (Nat.le_of_ble_eq_true rfl) dX9_average_42 (fun v6 s h => ?_)
        refine v_aload_n dX9_average_45 rfl (lv_at hl 0 rfl) ?_
        refine v_getI 9 25 h (by decide) (Or.inr rfl) qfX9_168 dX9_average_46 (fun v7 h => ?_)
        refine v_if_eq 55 dX9_average_49 (by decide) h (fun h => ?_) (fun h => ?_)
        · refine v_aload_n dX9_average_55 rfl (lv_at hl 0 rfl) ?_
          refine v_bipush (13 : Int32) dX9_average_56 (by decide) ?_
          refine v_iload_n dX9_average_58 rfl (lv_at hl 1 rfl) ?_
          refine k_X9_copy h qmX9_182 (by decide) hl.1 (Nat.le_of_ble_eq_true rfl) dX9_average_59 (fun v8 s h => ?_)
          refine v_aload_n dX9_average_62 rfl (lv_at hl 0 rfl) ?_
          refine v_iload_n dX9_average_63 rfl (lv_at hl 1 rfl) ?_
          refine k_X9_terms h qmX9_196 (by decide) hl.1 (Nat.le_of_ble_eq_true rfl) dX9_average_64 (fun v9 s h => ?_)
          exact v_iret dX9_average_67 h
        · refine v_bipush (-6 : Int32) dX9_average_52 (by decide) ?_
          exact v_iret dX9_average_54 h
      · refine v_bipush (-2 : Int32) dX9_average_30 (by decide) ?_
        exact v_iret dX9_average_32 h
    · refine v_bipush (-3 : Int32) dX9_average_18 (by decide) ?_
      exact v_iret dX9_average_20 h
  · refine v_iconst (-1 : Int32) dX9_average_7 (by decide) ?_
    exact v_iret dX9_average_8 h
theorem k_X9_average {X : VX} {cc : ByteArray} {own : String} {nL fr lo : Nat} {ini : Bool} {E : VX → Prop} {sF s : vS} {ρ : Type} {res : ρ} {pc : Nat} {ls : Array Slot} {rest : List Value} {N index : Nat} {a0 : Nat} {l1 : Int32} {f : Int32 → vS → Option ρ} (h : bnd (F_X9_average N a0 l1 s) f = some res) (hlink : Cond.methodLink own index yX9_average ∈ TT) (hR : 5 + 1 ≤ fr ∧ 8 + (2 + 11) + 139 ≤ lo) (hls : ls.size = nL) (hr : (rest.map fun v => v.category).sum ≤ 8) (hdg : decode cc pc = .ok (.invokevirtual index, 3)) (kk : ∀ r s', f r s' = some res → V X (cc, own, nL, fr, lo, ini) E sF s' (G0 X (pc + 3) ls (.int r :: rest))) : V X (cc, own, nL, fr, lo, ini) E sF s (G0 X pc ls (.int l1 :: .ref (xb X + a0) :: rest)) := by
  obtain ⟨r, s', e, h⟩ := bnd_some h
  exact v_callV (b := a0) (ci := 9) (As := [.int l1]) (rest := rest) (c_X9_average X N a0 l1 s s' r e).2 (c_X9_average (l := xl X) (D := xD X) (ka := xka X) X N a0 l1 s s' r e).1 rfl vl_X9_average qi_X9_average qe_X9_average hlink hR rfl rfl hls hr hdg (kk r s' h)
set_option maxHeartbeats 4000000 in
set_option maxRecDepth 100000 in
theorem L_X9_isLess_174 {X : VX} {sF : vS} {r : Int32} (N : Nat) (k17 : Int64 → Int64 → Int64 → Int64 → Int32 → vS → Option (Int32 × vS)) (hk17 : ∀ (l8 : Int64) (l10 : Int64) (l12 : Int64) (l14 : Int64) (l16 : Int32) (s : vS) (ls : Array Slot), lv_has ls 25 [(8, .long l8), (10, .long l10), (12, .long l12), (14, .long l14), (16, .int l16)] → k17 l8 l10 l12 l14 l16 s = some (r, sF) → V X (cX9_isLess, RX9, 25, 1, 25, false) (vRet sF (some (.int r)) (some .boolean)) sF s (G0 X 17 ls [])) (l8 : Int64) (l10 : Int64) (l12 : Int64) (l14 : Int64) (k0 : Int32) (s : vS) (ls : Array Slot) (hl : lv_has ls 25 [(8, .long l8), (10, .long l10), (12, .long l12), (14, .long l14)]) (h : J_X9_isLess_174 N k17 l8 l10 l12 l14 k0 s = some (r, sF)) : V X (cX9_isLess, RX9, 25, 1, 25, false) (vRet sF (some (.int r)) (some .boolean)) sF s (G0 X 174 ls [.int k0]) := by
  unfold J_X9_isLess_174 at h
  refine v_istore [(16, .int k0), (8, .long l8), (10, .long l10), (12, .long l12), (14, .long l14)] dX9_isLess_174 hl (by decide) rfl (fun ls hl => ?_)
  refine v_goto 17 dX9_isLess_176 (by decide) ?_
  exact hk17 l8 l10 l12 l14 k0 s ls (lv_sub hl [1, 2, 3, 4, 0] rfl) h
set_option maxHeartbeats 4000000 in
set_option maxRecDepth 100000 in
theorem L_X9_isLess_147 {X : VX} {sF : vS} {r : Int32} (N : Nat) (k0 : Int32) (s : vS) (ls : Array Slot) (hl : lv_has ls 25 []) (h : J_X9_isLess_147 N k0 s = some (r, sF)) : V X (cX9_isLess, RX9, 25, 1, 25, false) (vRet sF (some (.int r)) (some .boolean)) sF s (G0 X 147 ls [.int k0]) := by
  unfold J_X9_isLess_147 at h
  exact v_zret dX9_isLess_147 h
set_option maxHeartbeats 4000000 in
set_option maxRecDepth 100000 in
theorem L_X9_isLess_146 {X : VX} {sF : vS} {r : Int32} (N : Nat) (s : vS) (ls : Array Slot) (hl : lv_has ls 25 []) (h : J_X9_isLess_146 N  s = some (r, sF)) : V X (cX9_isLess, RX9, 25, 1, 25, false) (vRet sF (some (.int r)) (some .boolean)) sF s (G0 X 146 ls []) := by
  unfold J_X9_isLess_146 at h
  refine v_iconst (0 : Int32) dX9_isLess_146 (by decide) ?_
  exact L_X9_isLess_147 N (0 : Int32) s ls (lv_sub hl [] rfl) h
set_option maxHeartbeats 4000000 in
set_option maxRecDepth 100000 in
theorem L_X9_isLess_124 {X : VX} {sF : vS} {r : Int32} (N : Nat) (s : vS) (ls : Array Slot) (hl : lv_has ls 25 []) (h : J_X9_isLess_124 N  s = some (r, sF)) : V X (cX9_isLess, RX9, 25, 1, 25, false) (vRet sF (some (.int r)) (some .boolean)) sF s (G0 X 124 ls []) := by
  unfold J_X9_isLess_124 at h
  refine v_iconst (0 : Int32) dX9_isLess_124 (by decide) ?_
  refine v_goto 147 dX9_isLess_125 (by decide) ?_
  exact L_X9_isLess_147 N (0 : Int32) s ls (lv_sub hl [] rfl) h
set_option maxHeartbeats 4000000 in
set_option maxRecDepth 100000 in
theorem L_X9_isLess_101 {X : VX} {sF : vS} {r : Int32} (N : Nat) (l16 : Int32) (l21 : Int64) (l23 : Int64) (s : vS) (ls : Array Slot) (hl : lv_has ls 25 [(16, .int l16), (21, .long l21), (23, .long l23)]) (h : J_X9_isLess_101 N l16 l21 l23 s = some (r, sF)) : V X (cX9_isLess, RX9, 25, 1, 25, false) (vRet sF (some (.int r)) (some .boolean)) sF s (G0 X 101 ls []) := by
  unfold J_X9_isLess_101 at h
  refine v_iload dX9_isLess_101 (lv_at hl 0 rfl) ?_
  refine v_if_eq 128 dX9_isLess_103 (by decide) h (fun h => ?_) (fun h => ?_)
  · refine v_lload dX9_isLess_128 (lv_at hl 1 rfl) ?_
    refine v_lconst (0 : Int64) dX9_isLess_130 (by decide) ?_
    refine v_lcmp dX9_isLess_131 ?_
    refine v_if_ne 146 dX9_isLess_132 (by decide) h (fun h => ?_) (fun h => ?_)
    · exact L_X9_isLess_146 N  s ls (lv_sub hl [] rfl) h
    · refine v_lload dX9_isLess_135 (lv_at hl 2 rfl) ?_
      refine v_lconst (0 : Int64) dX9_isLess_137 (by decide) ?_
      refine v_lcmp dX9_isLess_138 ?_
      refine v_if_eq 146 dX9_isLess_139 (by decide) h (fun h => ?_) (fun h => ?_)
      · exact L_X9_isLess_146 N  s ls (lv_sub hl [] rfl) h
      · refine v_iconst (1 : Int32) dX9_isLess_142 (by decide) ?_
        refine v_goto 147 dX9_isLess_143 (by decide) ?_
        exact L_X9_isLess_147 N (1 : Int32) s ls (lv_sub hl [] rfl) h
  · refine v_lload dX9_isLess_106 (lv_at hl 1 rfl) ?_
    refine v_lconst (0 : Int64) dX9_isLess_108 (by decide) ?_
    refine v_lcmp dX9_isLess_109 ?_
    refine v_if_eq 124 dX9_isLess_110 (by decide) h (fun h => ?_) (fun h => ?_)
    · exact L_X9_isLess_124 N  s ls (lv_sub hl [] rfl) h
    · refine v_lload dX9_isLess_113 (lv_at hl 2 rfl) ?_
      refine v_lconst (0 : Int64) dX9_isLess_115 (by decide) ?_
      refine v_lcmp dX9_isLess_116 ?_
      refine v_if_ne 124 dX9_isLess_117 (by decide) h (fun h => ?_) (fun h => ?_)
      · exact L_X9_isLess_124 N  s ls (lv_sub hl [] rfl) h
      · refine v_iconst (1 : Int32) dX9_isLess_120 (by decide) ?_
        refine v_goto 147 dX9_isLess_121 (by decide) ?_
        exact L_X9_isLess_147 N (1 : Int32) s ls (lv_sub hl [] rfl) h
set_option maxHeartbeats 4000000 in
set_option maxRecDepth 100000 in
theorem L_X9_isLess_66 {X : VX} {sF : vS} {r : Int32} (N : Nat) (k0 : Int32) (s : vS) (ls : Array Slot) (hl : lv_has ls 25 []) (h : J_X9_isLess_66 N k0 s = some (r, sF)) : V X (cX9_isLess, RX9, 25, 1, 25, false) (vRet sF (some (.int r)) (some .boolean)) sF s (G0 X 66 ls [.int k0]) := by
  unfold J_X9_isLess_66 at h
  exact v_zret dX9_isLess_66 h
set_option maxHeartbeats 4000000 in
set_option maxRecDepth 100000 in
theorem L_X9_isLess_56 {X : VX} {sF : vS} {r : Int32} (N : Nat) (l16 : Int32) (k0 : Int32) (s : vS) (ls : Array Slot) (hl : lv_has ls 25 [(16, .int l16)]) (h : J_X9_isLess_56 N l16 k0 s = some (r, sF)) : V X (cX9_isLess, RX9, 25, 1, 25, false) (vRet sF (some (.int r)) (some .boolean)) sF s (G0 X 56 ls [.int k0]) := by
  unfold J_X9_isLess_56 at h
  refine v_iload dX9_isLess_56 (lv_at hl 0 rfl) ?_
  refine v_icmp_eq 65 dX9_isLess_58 (by decide) h (fun h => ?_) (fun h => ?_)
  · refine v_iconst (0 : Int32) dX9_isLess_65 (by decide) ?_
    exact L_X9_isLess_66 N (0 : Int32) s ls (lv_sub hl [] rfl) h
  · refine v_iconst (1 : Int32) dX9_isLess_61 (by decide) ?_
    refine v_goto 66 dX9_isLess_62 (by decide) ?_
    exact L_X9_isLess_66 N (1 : Int32) s ls (lv_sub hl [] rfl) h
set_option maxHeartbeats 4000000 in
set_option maxRecDepth 100000 in
theorem L_X9_isLess_17 {X : VX} {sF : vS} {r : Int32} (N : Nat) : ∀ (n : Nat) (l8 : Int64) (l10 : Int64) (l12 : Int64) (l14 : Int64) (l16 : Int32) (s : vS) (ls : Array Slot), lv_has ls 25 [(8, .long l8), (10, .long l10), (12, .long l12), (14, .long l14), (16, .int l16)] → H_X9_isLess_17 N n l8 l10 l12 l14 l16 s = some (r, sF) → V X (cX9_isLess, RX9, 25, 1, 25, false) (vRet sF (some (.int r)) (some .boolean)) sF s (G0 X 17 ls []) := by
  intro n
  induction n with
  | zero => intro l8 l10 l12 l14 l16 s ls hl h; cases h
  | succ n ih =>
   intro l8 l10 l12 l14 l16 s ls hl h
   unfold H_X9_isLess_17 at h
   refine v_lload dX9_isLess_17 (lv_at hl 0 rfl) ?_
   refine v_lload dX9_isLess_19 (lv_at hl 1 rfl) ?_
   refine k_J9_floorDiv_f86c9 h qmX9_353 (by decide) hl.1 (Nat.le_of_ble_eq_true rfl) dX9_isLess_21 (fun v1 s h => ?_)
   refine v_lstore [(17, .long v1), (8, .long l8), (10, .long l10), (12, .long l12), (14, .long l14), (16, .int l16)] dX9_isLess_24 hl (by decide) rfl (fun ls hl => ?_)
   refine v_lload dX9_isLess_26 (lv_at hl 3 rfl) ?_
   refine v_lload dX9_isLess_28 (lv_at hl 4 rfl) ?_
   refine k_J9_floorDiv_f86c9 h qmX9_353 (by decide) hl.1 (Nat.le_of_ble_eq_true rfl) dX9_isLess_30 (fun v2 s h => ?_)
   refine v_lstore [(19, .long v2), (17, .long v1), (8, .long l8), (10, .long l10), (12, .long l12), (14, .long l14), (16, .int l16)] dX9_isLess_33 hl (by decide) rfl (fun ls hl => ?_)
   refine v_lload dX9_isLess_35 (lv_at hl 1 rfl) ?_
   refine v_lload dX9_isLess_37 (lv_at hl 0 rfl) ?_
   refine v_lcmp dX9_isLess_39 ?_
   refine v_if_eq 67 dX9_isLess_40 (by decide) h (fun h => ?_) (fun h => ?_)
   · refine v_lload dX9_isLess_67 (lv_at hl 2 rfl) ?_
     refine v_lload dX9_isLess_69 (lv_at hl 1 rfl) ?_
     refine v_lload dX9_isLess_71 (lv_at hl 3 rfl) ?_
     refine v_lmul dX9_isLess_73 ?_
     refine v_lsub dX9_isLess_74 ?_
     refine v_nmJ h (fun l21_3 h => ?_)
     refine v_lstore [(21, .long l21_3), (19, .long v2), (17, .long v1), (8, .long l8), (10, .long l10), (12, .long l12), (14, .long l14), (16, .int l16)] dX9_isLess_75 hl (by decide) rfl (fun ls hl => ?_)
     refine v_lload dX9_isLess_77 (lv_at hl 5 rfl) ?_
     refine v_lload dX9_isLess_79 (lv_at hl 1 rfl) ?_
     refine v_lload dX9_isLess_81 (lv_at hl 6 rfl) ?_
     refine v_lmul dX9_isLess_83 ?_
     refine v_lsub dX9_isLess_84 ?_
     refine v_nmJ h (fun l23_4 h => ?_)
     refine v_lstore [(23, .long l23_4), (21, .long l21_3), (19, .long v2), (17, .long v1), (8, .long l8), (10, .long l10), (12, .long l12), (14, .long l14), (16, .int l16)] dX9_isLess_85 hl (by decide) rfl (fun ls hl => ?_)
     refine v_lload dX9_isLess_87 (lv_at hl 1 rfl) ?_
     refine v_lconst (0 : Int64) dX9_isLess_89 (by decide) ?_
     refine v_lcmp dX9_isLess_90 ?_
     refine v_if_eq 101 dX9_isLess_91 (by decide) h (fun h => ?_) (fun h => ?_)
     · exact L_X9_isLess_101 N l16 l21_3 l23_4 s ls (lv_sub hl [8, 1, 0] rfl) h
     · refine v_lload dX9_isLess_94 (lv_at hl 0 rfl) ?_
       refine v_lconst (0 : Int64) dX9_isLess_96 (by decide) ?_
       refine v_lcmp dX9_isLess_97 ?_
       refine v_if_ne 148 dX9_isLess_98 (by decide) h (fun h => ?_) (fun h => ?_)
       · refine v_lload dX9_isLess_148 (lv_at hl 5 rfl) ?_
         refine v_lstore [(8, .long l10), (23, .long l23_4), (21, .long l21_3), (19, .long v2), (17, .long v1), (10, .long l10), (12, .long l12), (14, .long l14), (16, .int l16)] dX9_isLess_150 hl (by decide) rfl (fun ls hl => ?_)
         refine v_lload dX9_isLess_152 (lv_at hl 2 rfl) ?_
         refine v_lstore [(10, .long l21_3), (8, .long l10), (23, .long l23_4), (21, .long l21_3), (19, .long v2), (17, .long v1), (12, .long l12), (14, .long l14), (16, .int l16)] dX9_isLess_154 hl (by decide) rfl (fun ls hl => ?_)
         refine v_lload dX9_isLess_156 (lv_at hl 7 rfl) ?_
         refine v_lstore [(12, .long l14), (10, .long l21_3), (8, .long l10), (23, .long l23_4), (21, .long l21_3), (19, .long v2), (17, .long v1), (14, .long l14), (16, .int l16)] dX9_isLess_158 hl (by decide) rfl (fun ls hl => ?_)
         refine v_lload dX9_isLess_160 (lv_at hl 3 rfl) ?_
         refine v_lstore [(14, .long l23_4), (12, .long l14), (10, .long l21_3), (8, .long l10), (23, .long l23_4), (21, .long l21_3), (19, .long v2), (17, .long v1), (16, .int l16)] dX9_isLess_162 hl (by decide) rfl (fun ls hl => ?_)
         refine v_iload dX9_isLess_164 (lv_at hl 8 rfl) ?_
         refine v_if_ne 173 dX9_isLess_166 (by decide) h (fun h => ?_) (fun h => ?_)
         · refine v_iconst (0 : Int32) dX9_isLess_173 (by decide) ?_
           exact L_X9_isLess_174 N (H_X9_isLess_17 N n) ih l10 l21_3 l14 l23_4 (0 : Int32) s ls (lv_sub hl [3, 2, 1, 0] rfl) h
         · refine v_iconst (1 : Int32) dX9_isLess_169 (by decide) ?_
           refine v_goto 174 dX9_isLess_170 (by decide) ?_
           exact L_X9_isLess_174 N (H_X9_isLess_17 N n) ih l10 l21_3 l14 l23_4 (1 : Int32) s ls (lv_sub hl [3, 2, 1, 0] rfl) h
       · exact L_X9_isLess_101 N l16 l21_3 l23_4 s ls (lv_sub hl [8, 1, 0] rfl) h
   · refine v_lload dX9_isLess_43 (lv_at hl 1 rfl) ?_
     refine v_lload dX9_isLess_45 (lv_at hl 0 rfl) ?_
     refine v_lcmp dX9_isLess_47 ?_
     refine v_if_ge 55 dX9_isLess_48 (by decide) h (fun h => ?_) (fun h => ?_)
     · refine v_iconst (0 : Int32) dX9_isLess_55 (by decide) ?_
       exact L_X9_isLess_56 N l16 (0 : Int32) s ls (lv_sub hl [6] rfl) h
     · refine v_iconst (1 : Int32) dX9_isLess_51 (by decide) ?_
       refine v_goto 56 dX9_isLess_52 (by decide) ?_
       exact L_X9_isLess_56 N l16 (1 : Int32) s ls (lv_sub hl [6] rfl) h
theorem vl_X9_isLess : vCl yX9_isLess cX9_isLess 25 (some .boolean) 4 := ⟨qy_X9_isLess, qjX9, by decide +kernel, by decide +kernel, by decide +kernel⟩
set_option maxHeartbeats 4000000 in
set_option maxRecDepth 100000 in
theorem c_X9_isLess {l : Launch} {D : va_G} {ka : Nat → ClassId} (X0 : VX) (N : Nat) (l0 : Int64) (l2 : Int64) (l4 : Int64) (l6 : Int64) (s sF : vS) (r : Int32) (h : F_X9_isLess N l0 l2 l4 l6 s = some (r, sF)) : vMet l D ka (xb X0) yX9_isLess cX9_isLess 25 (some .boolean) 1 25 [.long l0, .long l2, .long l4, .long l6] s sF (some (.int r)) := by
  unfold F_X9_isLess at h
  refine vMet.of (ini := false) X0 (plainFor_of_name (by decide +kernel)) (Nat.le_of_ble_eq_true rfl) (fun h => by cases h) (fun X ls hb hl => ?_) rfl
  show V X (cX9_isLess, RX9, 25, 1, 25, false) (vRet sF (some (.int r)) (some .boolean)) sF s (G0 X 0 ls [])
  have hl : lv_has ls 25 [(0, .long l0), (2, .long l2), (4, .long l4), (6, .long l6)] := hl
  refine v_lload_n dX9_isLess_0 rfl (lv_at hl 0 rfl) ?_
  refine v_lstore [(8, .long l0), (0, .long l0), (2, .long l2), (4, .long l4), (6, .long l6)] dX9_isLess_1 hl (by decide) rfl (fun ls hl => ?_)
  refine v_lload_n dX9_isLess_3 rfl (lv_at hl 2 rfl) ?_
  refine v_lstore [(10, .long l2), (8, .long l0), (0, .long l0), (2, .long l2), (4, .long l4), (6, .long l6)] dX9_isLess_4 hl (by decide) rfl (fun ls hl => ?_)
  refine v_lload dX9_isLess_6 (lv_at hl 4 rfl) ?_
  refine v_lstore [(12, .long l4), (10, .long l2), (8, .long l0), (0, .long l0), (2, .long l2), (4, .long l4), (6, .long l6)] dX9_isLess_8 hl (by decide) rfl (fun ls hl => ?_)
  refine v_lload dX9_isLess_10 (lv_at hl 6 rfl) ?_
  refine v_lstore [(14, .long l6), (12, .long l4), (10, .long l2), (8, .long l0), (0, .long l0), (2, .long l2), (4, .long l4), (6, .long l6)] dX9_isLess_12 hl (by decide) rfl (fun ls hl => ?_)
  refine v_iconst (0 : Int32) dX9_isLess_14 (by decide) ?_
  refine v_istore [(16, .int (0 : Int32)), (14, .long l6), (12, .long l4), (10, .long l2), (8, .long l0), (0, .long l0), (2, .long l2), (4, .long l4), (6, .long l6)] dX9_isLess_15 hl (by decide) rfl (fun ls hl => ?_)
  exact L_X9_isLess_17 N N l0 l2 l4 l6 (0 : Int32) s ls (lv_sub hl [4, 3, 2, 1, 0] rfl) h
theorem k_X9_isLess {X : VX} {cc : ByteArray} {own : String} {nL fr lo : Nat} {ini : Bool} {E : VX → Prop} {sF s : vS} {ρ : Type} {res : ρ} {pc : Nat} {ls : Array Slot} {rest : List Value} {N index : Nat} {l0 : Int64} {l2 : Int64} {l4 : Int64} {l6 : Int64} {f : Int32 → vS → Option ρ} (h : bnd (F_X9_isLess N l0 l2 l4 l6 s) f = some res) (hlink : Cond.methodLink own index yX9_isLess ∈ TT) (hR : 1 + 1 ≤ fr ∧ 8 + (25 + 11) + 25 ≤ lo) (hls : ls.size = nL) (hr : (rest.map fun v => v.category).sum ≤ 8) (hdg : decode cc pc = .ok (.invokestatic index, 3)) (kk : ∀ r s', f r s' = some res → V X (cc, own, nL, fr, lo, ini) E sF s' (G0 X (pc + 3) ls (.int r :: rest))) : V X (cc, own, nL, fr, lo, ini) E sF s (G0 X pc ls (.long l6 :: .long l4 :: .long l2 :: .long l0 :: rest)) := by
  obtain ⟨r, s', e, h⟩ := bnd_some h
  exact v_callS (As := [.long l0, .long l2, .long l4, .long l6]) (rest := rest) (c_X9_isLess X N l0 l2 l4 l6 s s' r e) vl_X9_isLess qs_X9_isLess hlink hR rfl rfl hls hr hdg (kk r s' h)
set_option maxHeartbeats 4000000 in
set_option maxRecDepth 100000 in
theorem L_X9_bound_295 {X : VX} {sF : vS} {r : Int64} (N : Nat) (k0 : Int64) (s : vS) (ls : Array Slot) (hl : lv_has ls 10 []) (h : J_X9_bound_295 N k0 s = some (r, sF)) : V X (cX9_bound, RX9, 10, 5, 142, false) (vRet sF (some (.long r)) (some .long)) sF s (G0 X 295 ls [.long k0]) := by
  unfold J_X9_bound_295 at h
  exact v_lret dX9_bound_295 h
set_option maxHeartbeats 4000000 in
set_option maxRecDepth 100000 in
theorem L_X9_bound_259 {X : VX} {sF : vS} {r : Int64} (N : Nat) (k97 : Nat → Int32 → Int32 → Int32 → Int32 → Int32 → vS → Option (Int64 × vS)) (hk97 : ∀ (a0 : Nat) (l2 : Int32) (l3 : Int32) (l4 : Int32) (l5 : Int32) (l6 : Int32) (s : vS) (ls : Array Slot), lv_has ls 10 [(0, .ref (xb X + a0)), (2, .int l2), (3, .int l3), (4, .int l4), (5, .int l5), (6, .int l6)] → k97 a0 l2 l3 l4 l5 l6 s = some (r, sF) → V X (cX9_bound, RX9, 10, 5, 142, false) (vRet sF (some (.long r)) (some .long)) sF s (G0 X 97 ls [])) (a0 : Nat) (l2 : Int32) (l3 : Int32) (l4 : Int32) (l5 : Int32) (l6 : Int32) (s : vS) (ls : Array Slot) (hl : lv_has ls 10 [(0, .ref (xb X + a0)), (2, .int l2), (3, .int l3), (4, .int l4), (5, .int l5), (6, .int l6)]) (h : J_X9_bound_259 N k97 a0 l2 l3 l4 l5 l6 s = some (r, sF)) : V X (cX9_bound, RX9, 10, 5, 142, false) (vRet sF (some (.long r)) (some .long)) sF s (G0 X 259 ls []) := by
  unfold J_X9_bound_259 at h
  refine v_inc (fun z => [(6, .int z), (0, .ref (xb X + a0)), (2, .int l2), (3, .int l3), (4, .int l4), (5, .int l5)]) dX9_bound_259 h hl (k := 5) rfl (by rfl) (by decide) (fun _ => rfl) (fun l6_20 ls hl h => ?_)
  refine v_goto 97 dX9_bound_262 (by decide) ?_
  exact hk97 a0 l2 l3 l4 l5 l6_20 s ls (lv_sub hl [1, 2, 3, 4, 5, 0] rfl) h
set_option maxHeartbeats 4000000 in
set_option maxRecDepth 100000 in
theorem L_X9_bound_257 {X : VX} {sF : vS} {r : Int64} (N : Nat) (k97 : Nat → Int32 → Int32 → Int32 → Int32 → Int32 → vS → Option (Int64 × vS)) (hk97 : ∀ (a0 : Nat) (l2 : Int32) (l3 : Int32) (l4 : Int32) (l5 : Int32) (l6 : Int32) (s : vS) (ls : Array Slot), lv_has ls 10 [(0, .ref (xb X + a0)), (2, .int l2), (3, .int l3), (4, .int l4), (5, .int l5), (6, .int l6)] → k97 a0 l2 l3 l4 l5 l6 s = some (r, sF) → V X (cX9_bound, RX9, 10, 5, 142, false) (vRet sF (some (.long r)) (some .long)) sF s (G0 X 97 ls [])) (a0 : Nat) (l2 : Int32) (l3 : Int32) (l4 : Int32) (l6 : Int32) (k0 : Int32) (s : vS) (ls : Array Slot) (hl : lv_has ls 10 [(0, .ref (xb X + a0)), (2, .int l2), (3, .int l3), (4, .int l4), (6, .int l6)]) (h : J_X9_bound_257 N k97 a0 l2 l3 l4 l6 k0 s = some (r, sF)) : V X (cX9_bound, RX9, 10, 5, 142, false) (vRet sF (some (.long r)) (some .long)) sF s (G0 X 257 ls [.int k0]) := by
  unfold J_X9_bound_257 at h
  refine v_istore [(5, .int k0), (0, .ref (xb X + a0)), (2, .int l2), (3, .int l3), (4, .int l4), (6, .int l6)] dX9_bound_257 hl (by decide) rfl (fun ls hl => ?_)
  exact L_X9_bound_259 N k97 hk97 a0 l2 l3 l4 k0 l6 s ls (lv_sub hl [1, 2, 3, 4, 0, 5] rfl) h
set_option maxHeartbeats 4000000 in
set_option maxRecDepth 100000 in
theorem L_X9_bound_243 {X : VX} {sF : vS} {r : Int64} (N : Nat) (k97 : Nat → Int32 → Int32 → Int32 → Int32 → Int32 → vS → Option (Int64 × vS)) (hk97 : ∀ (a0 : Nat) (l2 : Int32) (l3 : Int32) (l4 : Int32) (l5 : Int32) (l6 : Int32) (s : vS) (ls : Array Slot), lv_has ls 10 [(0, .ref (xb X + a0)), (2, .int l2), (3, .int l3), (4, .int l4), (5, .int l5), (6, .int l6)] → k97 a0 l2 l3 l4 l5 l6 s = some (r, sF) → V X (cX9_bound, RX9, 10, 5, 142, false) (vRet sF (some (.long r)) (some .long)) sF s (G0 X 97 ls [])) (a0 : Nat) (l2 : Int32) (l3 : Int32) (l4 : Int32) (l5 : Int32) (l6 : Int32) (k0 : Int32) (s : vS) (ls : Array Slot) (hl : lv_has ls 10 [(0, .ref (xb X + a0)), (2, .int l2), (3, .int l3), (4, .int l4), (5, .int l5), (6, .int l6)]) (h : J_X9_bound_243 N k97 a0 l2 l3 l4 l5 l6 k0 s = some (r, sF)) : V X (cX9_bound, RX9, 10, 5, 142, false) (vRet sF (some (.long r)) (some .long)) sF s (G0 X 243 ls [.int k0]) := by
  unfold J_X9_bound_243 at h
  refine v_istore [(9, .int k0), (0, .ref (xb X + a0)), (2, .int l2), (3, .int l3), (4, .int l4), (5, .int l5), (6, .int l6)] dX9_bound_243 hl (by decide) rfl (fun ls hl => ?_)
  refine v_iload dX9_bound_245 (lv_at hl 0 rfl) ?_
  refine v_if_eq 255 dX9_bound_247 (by decide) h (fun h => ?_) (fun h => ?_)
  · refine v_iload dX9_bound_255 (lv_at hl 5 rfl) ?_
    exact L_X9_bound_257 N k97 hk97 a0 l2 l3 l4 l6 l5 s ls (lv_sub hl [1, 2, 3, 4, 6] rfl) h
  · refine v_iload dX9_bound_250 (lv_at hl 6 rfl) ?_
    refine v_goto 257 dX9_bound_252 (by decide) ?_
    exact L_X9_bound_257 N k97 hk97 a0 l2 l3 l4 l6 l6 s ls (lv_sub hl [1, 2, 3, 4, 6] rfl) h
set_option maxHeartbeats 4000000 in
set_option maxRecDepth 100000 in
theorem L_X9_bound_242 {X : VX} {sF : vS} {r : Int64} (N : Nat) (k97 : Nat → Int32 → Int32 → Int32 → Int32 → Int32 → vS → Option (Int64 × vS)) (hk97 : ∀ (a0 : Nat) (l2 : Int32) (l3 : Int32) (l4 : Int32) (l5 : Int32) (l6 : Int32) (s : vS) (ls : Array Slot), lv_has ls 10 [(0, .ref (xb X + a0)), (2, .int l2), (3, .int l3), (4, .int l4), (5, .int l5), (6, .int l6)] → k97 a0 l2 l3 l4 l5 l6 s = some (r, sF) → V X (cX9_bound, RX9, 10, 5, 142, false) (vRet sF (some (.long r)) (some .long)) sF s (G0 X 97 ls [])) (a0 : Nat) (l2 : Int32) (l3 : Int32) (l4 : Int32) (l5 : Int32) (l6 : Int32) (s : vS) (ls : Array Slot) (hl : lv_has ls 10 [(0, .ref (xb X + a0)), (2, .int l2), (3, .int l3), (4, .int l4), (5, .int l5), (6, .int l6)]) (h : J_X9_bound_242 N k97 a0 l2 l3 l4 l5 l6 s = some (r, sF)) : V X (cX9_bound, RX9, 10, 5, 142, false) (vRet sF (some (.long r)) (some .long)) sF s (G0 X 242 ls []) := by
  unfold J_X9_bound_242 at h
  refine v_iconst (0 : Int32) dX9_bound_242 (by decide) ?_
  exact L_X9_bound_243 N k97 hk97 a0 l2 l3 l4 l5 l6 (0 : Int32) s ls (lv_sub hl [0, 1, 2, 3, 4, 5] rfl) h
set_option maxHeartbeats 4000000 in
set_option maxRecDepth 100000 in
theorem L_X9_bound_238 {X : VX} {sF : vS} {r : Int64} (N : Nat) (k97 : Nat → Int32 → Int32 → Int32 → Int32 → Int32 → vS → Option (Int64 × vS)) (hk97 : ∀ (a0 : Nat) (l2 : Int32) (l3 : Int32) (l4 : Int32) (l5 : Int32) (l6 : Int32) (s : vS) (ls : Array Slot), lv_has ls 10 [(0, .ref (xb X + a0)), (2, .int l2), (3, .int l3), (4, .int l4), (5, .int l5), (6, .int l6)] → k97 a0 l2 l3 l4 l5 l6 s = some (r, sF) → V X (cX9_bound, RX9, 10, 5, 142, false) (vRet sF (some (.long r)) (some .long)) sF s (G0 X 97 ls [])) (a0 : Nat) (l2 : Int32) (l3 : Int32) (l4 : Int32) (l5 : Int32) (l6 : Int32) (s : vS) (ls : Array Slot) (hl : lv_has ls 10 [(0, .ref (xb X + a0)), (2, .int l2), (3, .int l3), (4, .int l4), (5, .int l5), (6, .int l6)]) (h : J_X9_bound_238 N k97 a0 l2 l3 l4 l5 l6 s = some (r, sF)) : V X (cX9_bound, RX9, 10, 5, 142, false) (vRet sF (some (.long r)) (some .long)) sF s (G0 X 238 ls []) := by
  unfold J_X9_bound_238 at h
  refine v_iconst (1 : Int32) dX9_bound_238 (by decide) ?_
  refine v_goto 243 dX9_bound_239 (by decide) ?_
  exact L_X9_bound_243 N k97 hk97 a0 l2 l3 l4 l5 l6 (1 : Int32) s ls (lv_sub hl [0, 1, 2, 3, 4, 5] rfl) h
set_option maxHeartbeats 4000000 in
set_option maxRecDepth 100000 in
theorem L_X9_bound_192 {X : VX} {sF : vS} {r : Int64} (N : Nat) (k97 : Nat → Int32 → Int32 → Int32 → Int32 → Int32 → vS → Option (Int64 × vS)) (hk97 : ∀ (a0 : Nat) (l2 : Int32) (l3 : Int32) (l4 : Int32) (l5 : Int32) (l6 : Int32) (s : vS) (ls : Array Slot), lv_has ls 10 [(0, .ref (xb X + a0)), (2, .int l2), (3, .int l3), (4, .int l4), (5, .int l5), (6, .int l6)] → k97 a0 l2 l3 l4 l5 l6 s = some (r, sF) → V X (cX9_bound, RX9, 10, 5, 142, false) (vRet sF (some (.long r)) (some .long)) sF s (G0 X 97 ls [])) (a0 : Nat) (l2 : Int32) (l3 : Int32) (l4 : Int32) (l5 : Int32) (l6 : Int32) (l7 : Int32) (l8 : Int32) (k0 : Int32) (s : vS) (ls : Array Slot) (hl : lv_has ls 10 [(0, .ref (xb X + a0)), (2, .int l2), (3, .int l3), (4, .int l4), (5, .int l5), (6, .int l6), (7, .int l7), (8, .int l8)]) (h : J_X9_bound_192 N k97 a0 l2 l3 l4 l5 l6 l7 l8 k0 s = some (r, sF)) : V X (cX9_bound, RX9, 10, 5, 142, false) (vRet sF (some (.long r)) (some .long)) sF s (G0 X 192 ls [.int k0]) := by
  unfold J_X9_bound_192 at h
  refine v_istore [(9, .int k0), (0, .ref (xb X + a0)), (2, .int l2), (3, .int l3), (4, .int l4), (5, .int l5), (6, .int l6), (7, .int l7), (8, .int l8)] dX9_bound_192 hl (by decide) rfl (fun ls hl => ?_)
  refine v_iload dX9_bound_194 (lv_at hl 0 rfl) ?_
  refine v_if_ne 238 dX9_bound_196 (by decide) h (fun h => ?_) (fun h => ?_)
  · exact L_X9_bound_238 N k97 hk97 a0 l2 l3 l4 l5 l6 s ls (lv_sub hl [1, 2, 3, 4, 5, 6] rfl) h
  · refine v_iload_n dX9_bound_199 rfl (lv_at hl 3 rfl) ?_
    refine v_iconst (1 : Int32) dX9_bound_200 (by decide) ?_
    refine v_icmp_ne 242 dX9_bound_201 (by decide) h (fun h => ?_) (fun h => ?_)
    · exact L_X9_bound_242 N k97 hk97 a0 l2 l3 l4 l5 l6 s ls (lv_sub hl [1, 2, 3, 4, 5, 6] rfl) h
    · refine v_aload_n dX9_bound_204 rfl (lv_at hl 1 rfl) ?_
      refine v_getR 9 11 h (by decide) rfl qfX9_59 dX9_bound_205 (fun r30 h => ?_)
      refine v_iload dX9_bound_208 (lv_at hl 8 rfl) ?_
      refine v_lald dX9_bound_210 h (fun v31 h => ?_)
      refine v_aload_n dX9_bound_211 rfl (lv_at hl 1 rfl) ?_
      refine v_getR 9 12 h (by decide) rfl qfX9_63 dX9_bound_212 (fun r32 h => ?_)
      refine v_iload dX9_bound_215 (lv_at hl 8 rfl) ?_
      refine v_lald dX9_bound_217 h (fun v33 h => ?_)
      refine v_aload_n dX9_bound_218 rfl (lv_at hl 1 rfl) ?_
      refine v_getR 9 11 h (by decide) rfl qfX9_59 dX9_bound_219 (fun r34 h => ?_)
      refine v_iload dX9_bound_222 (lv_at hl 7 rfl) ?_
      refine v_lald dX9_bound_224 h (fun v35 h => ?_)
      refine v_aload_n dX9_bound_225 rfl (lv_at hl 1 rfl) ?_
      refine v_getR 9 12 h (by decide) rfl qfX9_63 dX9_bound_226 (fun r36 h => ?_)
      refine v_iload dX9_bound_229 (lv_at hl 7 rfl) ?_
      refine v_lald dX9_bound_231 h (fun v37 h => ?_)
      refine k_X9_isLess h qmX9_358 (by decide) hl.1 (Nat.le_of_ble_eq_true rfl) dX9_bound_232 (fun v38 s h => ?_)
      refine v_if_eq 242 dX9_bound_235 (by decide) h (fun h => ?_) (fun h => ?_)
      · exact L_X9_bound_242 N k97 hk97 a0 l2 l3 l4 l5 l6 s ls (lv_sub hl [1, 2, 3, 4, 5, 6] rfl) h
      · exact L_X9_bound_238 N k97 hk97 a0 l2 l3 l4 l5 l6 s ls (lv_sub hl [1, 2, 3, 4, 5, 6] rfl) h
set_option maxHeartbeats 4000000 in
set_option maxRecDepth 100000 in
theorem L_X9_bound_191 {X : VX} {sF : vS} {r : Int64} (N : Nat) (k97 : Nat → Int32 → Int32 → Int32 → Int32 → Int32 → vS → Option (Int64 × vS)) (hk97 : ∀ (a0 : Nat) (l2 : Int32) (l3 : Int32) (l4 : Int32) (l5 : Int32) (l6 : Int32) (s : vS) (ls : Array Slot), lv_has ls 10 [(0, .ref (xb X + a0)), (2, .int l2), (3, .int l3), (4, .int l4), (5, .int l5), (6, .int l6)] → k97 a0 l2 l3 l4 l5 l6 s = some (r, sF) → V X (cX9_bound, RX9, 10, 5, 142, false) (vRet sF (some (.long r)) (some .long)) sF s (G0 X 97 ls [])) (a0 : Nat) (l2 : Int32) (l3 : Int32) (l4 : Int32) (l5 : Int32) (l6 : Int32) (l7 : Int32) (l8 : Int32) (s : vS) (ls : Array Slot) (hl : lv_has ls 10 [(0, .ref (xb X + a0)), (2, .int l2), (3, .int l3), (4, .int l4), (5, .int l5), (6, .int l6), (7, .int l7), (8, .int l8)]) (h : J_X9_bound_191 N k97 a0 l2 l3 l4 l5 l6 l7 l8 s = some (r, sF)) : V X (cX9_bound, RX9, 10, 5, 142, false) (vRet sF (some (.long r)) (some .long)) sF s (G0 X 191 ls []) := by
  unfold J_X9_bound_191 at h
  refine v_iconst (0 : Int32) dX9_bound_191 (by decide) ?_
  exact L_X9_bound_192 N k97 hk97 a0 l2 l3 l4 l5 l6 l7 l8 (0 : Int32) s ls (lv_sub hl [0, 1, 2, 3, 4, 5, 6, 7] rfl) h
set_option maxHeartbeats 4000000 in
set_option maxRecDepth 100000 in
theorem L_X9_bound_187 {X : VX} {sF : vS} {r : Int64} (N : Nat) (k97 : Nat → Int32 → Int32 → Int32 → Int32 → Int32 → vS → Option (Int64 × vS)) (hk97 : ∀ (a0 : Nat) (l2 : Int32) (l3 : Int32) (l4 : Int32) (l5 : Int32) (l6 : Int32) (s : vS) (ls : Array Slot), lv_has ls 10 [(0, .ref (xb X + a0)), (2, .int l2), (3, .int l3), (4, .int l4), (5, .int l5), (6, .int l6)] → k97 a0 l2 l3 l4 l5 l6 s = some (r, sF) → V X (cX9_bound, RX9, 10, 5, 142, false) (vRet sF (some (.long r)) (some .long)) sF s (G0 X 97 ls [])) (a0 : Nat) (l2 : Int32) (l3 : Int32) (l4 : Int32) (l5 : Int32) (l6 : Int32) (l7 : Int32) (l8 : Int32) (s : vS) (ls : Array Slot) (hl : lv_has ls 10 [(0, .ref (xb X + a0)), (2, .int l2), (3, .int l3), (4, .int l4), (5, .int l5), (6, .int l6), (7, .int l7), (8, .int l8)]) (h : J_X9_bound_187 N k97 a0 l2 l3 l4 l5 l6 l7 l8 s = some (r, sF)) : V X (cX9_bound, RX9, 10, 5, 142, false) (vRet sF (some (.long r)) (some .long)) sF s (G0 X 187 ls []) := by
  unfold J_X9_bound_187 at h
  refine v_iconst (1 : Int32) dX9_bound_187 (by decide) ?_
  refine v_goto 192 dX9_bound_188 (by decide) ?_
  exact L_X9_bound_192 N k97 hk97 a0 l2 l3 l4 l5 l6 l7 l8 (1 : Int32) s ls (lv_sub hl [0, 1, 2, 3, 4, 5, 6, 7] rfl) h
set_option maxHeartbeats 4000000 in
set_option maxRecDepth 100000 in
theorem L_X9_bound_142 {X : VX} {sF : vS} {r : Int64} (N : Nat) (k97 : Nat → Int32 → Int32 → Int32 → Int32 → Int32 → vS → Option (Int64 × vS)) (hk97 : ∀ (a0 : Nat) (l2 : Int32) (l3 : Int32) (l4 : Int32) (l5 : Int32) (l6 : Int32) (s : vS) (ls : Array Slot), lv_has ls 10 [(0, .ref (xb X + a0)), (2, .int l2), (3, .int l3), (4, .int l4), (5, .int l5), (6, .int l6)] → k97 a0 l2 l3 l4 l5 l6 s = some (r, sF) → V X (cX9_bound, RX9, 10, 5, 142, false) (vRet sF (some (.long r)) (some .long)) sF s (G0 X 97 ls [])) (a0 : Nat) (l2 : Int32) (l3 : Int32) (l4 : Int32) (l5 : Int32) (l6 : Int32) (l7 : Int32) (l8 : Int32) (k0 : Int32) (s : vS) (ls : Array Slot) (hl : lv_has ls 10 [(0, .ref (xb X + a0)), (2, .int l2), (3, .int l3), (4, .int l4), (5, .int l5), (6, .int l6), (7, .int l7), (8, .int l8)]) (h : J_X9_bound_142 N k97 a0 l2 l3 l4 l5 l6 l7 l8 k0 s = some (r, sF)) : V X (cX9_bound, RX9, 10, 5, 142, false) (vRet sF (some (.long r)) (some .long)) sF s (G0 X 142 ls [.int k0]) := by
  unfold J_X9_bound_142 at h
  refine v_istore [(9, .int k0), (0, .ref (xb X + a0)), (2, .int l2), (3, .int l3), (4, .int l4), (5, .int l5), (6, .int l6), (7, .int l7), (8, .int l8)] dX9_bound_142 hl (by decide) rfl (fun ls hl => ?_)
  refine v_iload dX9_bound_144 (lv_at hl 0 rfl) ?_
  refine v_if_ne 187 dX9_bound_146 (by decide) h (fun h => ?_) (fun h => ?_)
  · exact L_X9_bound_187 N k97 hk97 a0 l2 l3 l4 l5 l6 l7 l8 s ls (lv_sub hl [1, 2, 3, 4, 5, 6, 7, 8] rfl) h
  · refine v_iload_n dX9_bound_149 rfl (lv_at hl 3 rfl) ?_
    refine v_if_ne 191 dX9_bound_150 (by decide) h (fun h => ?_) (fun h => ?_)
    · exact L_X9_bound_191 N k97 hk97 a0 l2 l3 l4 l5 l6 l7 l8 s ls (lv_sub hl [1, 2, 3, 4, 5, 6, 7, 8] rfl) h
    · refine v_aload_n dX9_bound_153 rfl (lv_at hl 1 rfl) ?_
      refine v_getR 9 11 h (by decide) rfl qfX9_59 dX9_bound_154 (fun r21 h => ?_)
      refine v_iload dX9_bound_157 (lv_at hl 7 rfl) ?_
      refine v_lald dX9_bound_159 h (fun v22 h => ?_)
      refine v_aload_n dX9_bound_160 rfl (lv_at hl 1 rfl) ?_
      refine v_getR 9 12 h (by decide) rfl qfX9_63 dX9_bound_161 (fun r23 h => ?_)
      refine v_iload dX9_bound_164 (lv_at hl 7 rfl) ?_
      refine v_lald dX9_bound_166 h (fun v24 h => ?_)
      refine v_aload_n dX9_bound_167 rfl (lv_at hl 1 rfl) ?_
      refine v_getR 9 11 h (by decide) rfl qfX9_59 dX9_bound_168 (fun r25 h => ?_)
      refine v_iload dX9_bound_171 (lv_at hl 8 rfl) ?_
      refine v_lald dX9_bound_173 h (fun v26 h => ?_)
      refine v_aload_n dX9_bound_174 rfl (lv_at hl 1 rfl) ?_
      refine v_getR 9 12 h (by decide) rfl qfX9_63 dX9_bound_175 (fun r27 h => ?_)
      refine v_iload dX9_bound_178 (lv_at hl 8 rfl) ?_
      refine v_lald dX9_bound_180 h (fun v28 h => ?_)
      refine k_X9_isLess h qmX9_358 (by decide) hl.1 (Nat.le_of_ble_eq_true rfl) dX9_bound_181 (fun v29 s h => ?_)
      refine v_if_eq 191 dX9_bound_184 (by decide) h (fun h => ?_) (fun h => ?_)
      · exact L_X9_bound_191 N k97 hk97 a0 l2 l3 l4 l5 l6 l7 l8 s ls (lv_sub hl [1, 2, 3, 4, 5, 6, 7, 8] rfl) h
      · exact L_X9_bound_187 N k97 hk97 a0 l2 l3 l4 l5 l6 l7 l8 s ls (lv_sub hl [1, 2, 3, 4, 5, 6, 7, 8] rfl) h
set_option maxHeartbeats 4000000 in
set_option maxRecDepth 100000 in
theorem L_X9_bound_97 {X : VX} {sF : vS} {r : Int64} (N : Nat) : ∀ (n : Nat) (a0 : Nat) (l2 : Int32) (l3 : Int32) (l4 : Int32) (l5 : Int32) (l6 : Int32) (s : vS) (ls : Array Slot), lv_has ls 10 [(0, .ref (xb X + a0)), (2, .int l2), (3, .int l3), (4, .int l4), (5, .int l5), (6, .int l6)] → H_X9_bound_97 N n a0 l2 l3 l4 l5 l6 s = some (r, sF) → V X (cX9_bound, RX9, 10, 5, 142, false) (vRet sF (some (.long r)) (some .long)) sF s (G0 X 97 ls []) := by
  intro n
  induction n with
  | zero => intro a0 l2 l3 l4 l5 l6 s ls hl h; cases h
  | succ n ih =>
   intro a0 l2 l3 l4 l5 l6 s ls hl h
   unfold H_X9_bound_97 at h
   refine v_iload dX9_bound_97 (lv_at hl 5 rfl) ?_
   refine v_bipush (19 : Int32) dX9_bound_99 (by decide) ?_
   refine v_icmp_ge 265 dX9_bound_101 (by decide) h (fun h => ?_) (fun h => ?_)
   · refine v_iload dX9_bound_265 (lv_at hl 3 rfl) ?_
     refine v_if_ne 284 dX9_bound_267 (by decide) h (fun h => ?_) (fun h => ?_)
     · refine v_aload_n dX9_bound_284 rfl (lv_at hl 0 rfl) ?_
       refine v_getR 9 12 h (by decide) rfl qfX9_63 dX9_bound_285 (fun r12 h => ?_)
       refine v_sipush (377 : Int32) dX9_bound_288 (by decide) ?_
       refine v_iload dX9_bound_291 (lv_at hl 4 rfl) ?_
       refine v_iadd dX9_bound_293 ?_
       refine v_lald dX9_bound_294 h (fun v13 h => ?_)
       exact L_X9_bound_295 N v13 s ls (lv_sub hl [] rfl) h
     · refine v_aload_n dX9_bound_270 rfl (lv_at hl 0 rfl) ?_
       refine v_getR 9 11 h (by decide) rfl qfX9_59 dX9_bound_271 (fun r14 h => ?_)
       refine v_sipush (377 : Int32) dX9_bound_274 (by decide) ?_
       refine v_iload dX9_bound_277 (lv_at hl 4 rfl) ?_
       refine v_iadd dX9_bound_279 ?_
       refine v_lald dX9_bound_280 h (fun v15 h => ?_)
       refine v_goto 295 dX9_bound_281 (by decide) ?_
       exact L_X9_bound_295 N v15 s ls (lv_sub hl [] rfl) h
   · refine v_sipush (377 : Int32) dX9_bound_104 (by decide) ?_
     refine v_iload dX9_bound_107 (lv_at hl 5 rfl) ?_
     refine v_iadd dX9_bound_109 ?_
     refine v_nmI h (fun l7_16 h => ?_)
     refine v_istore [(7, .int l7_16), (0, .ref (xb X + a0)), (2, .int l2), (3, .int l3), (4, .int l4), (5, .int l5), (6, .int l6)] dX9_bound_110 hl (by decide) rfl (fun ls hl => ?_)
     refine v_aload_n dX9_bound_112 rfl (lv_at hl 1 rfl) ?_
     refine v_getR 9 0 h (by decide) rfl qfX9_28 dX9_bound_113 (fun r17 h => ?_)
     refine v_iload dX9_bound_116 (lv_at hl 6 rfl) ?_
     refine v_iald dX9_bound_118 h (fun v18 h => ?_)
     refine v_iload_n dX9_bound_119 rfl (lv_at hl 2 rfl) ?_
     refine v_icmp_ne 259 dX9_bound_120 (by decide) h (fun h => ?_) (fun h => ?_)
     · exact L_X9_bound_259 N (H_X9_bound_97 N n) ih a0 l2 l3 l4 l5 l6 s ls (lv_sub hl [1, 2, 3, 4, 5, 6] rfl) h
     · refine v_sipush (377 : Int32) dX9_bound_123 (by decide) ?_
       refine v_iload dX9_bound_126 (lv_at hl 5 rfl) ?_
       refine v_iadd dX9_bound_128 ?_
       refine v_nmI h (fun l8_19 h => ?_)
       refine v_istore [(8, .int l8_19), (7, .int l7_16), (0, .ref (xb X + a0)), (2, .int l2), (3, .int l3), (4, .int l4), (5, .int l5), (6, .int l6)] dX9_bound_129 hl (by decide) rfl (fun ls hl => ?_)
       refine v_iload dX9_bound_131 (lv_at hl 6 rfl) ?_
       refine v_iconst (-1 : Int32) dX9_bound_133 (by decide) ?_
       refine v_icmp_ne 141 dX9_bound_134 (by decide) h (fun h => ?_) (fun h => ?_)
       · refine v_iconst (0 : Int32) dX9_bound_141 (by decide) ?_
         exact L_X9_bound_142 N (H_X9_bound_97 N n) ih a0 l2 l3 l4 l5 l6 l7_16 l8_19 (0 : Int32) s ls (lv_sub hl [2, 3, 4, 5, 6, 7, 1, 0] rfl) h
       · refine v_iconst (1 : Int32) dX9_bound_137 (by decide) ?_
         refine v_goto 142 dX9_bound_138 (by decide) ?_
         exact L_X9_bound_142 N (H_X9_bound_97 N n) ih a0 l2 l3 l4 l5 l6 l7_16 l8_19 (1 : Int32) s ls (lv_sub hl [2, 3, 4, 5, 6, 7, 1, 0] rfl) h
set_option maxHeartbeats 4000000 in
set_option maxRecDepth 100000 in
theorem L_X9_bound_63 {X : VX} {sF : vS} {r : Int64} (N : Nat) (s : vS) (ls : Array Slot) (hl : lv_has ls 10 []) (h : J_X9_bound_63 N  s = some (r, sF)) : V X (cX9_bound, RX9, 10, 5, 142, false) (vRet sF (some (.long r)) (some .long)) sF s (G0 X 63 ls []) := by
  unfold J_X9_bound_63 at h
  refine v_ldc2 qkX9_166 dX9_bound_63 ?_
  exact v_lret dX9_bound_66 h
theorem vl_X9_bound : vCl yX9_bound cX9_bound 10 (some .long) 4 := ⟨qy_X9_bound, qjX9, by decide +kernel, by decide +kernel, by decide +kernel⟩
set_option maxHeartbeats 4000000 in
set_option maxRecDepth 100000 in
theorem c_X9_bound {l : Launch} {D : va_G} {ka : Nat → ClassId} (X0 : VX) (N : Nat) (a0 : Nat) (l1 : Int32) (l2 : Int32) (l3 : Int32) (l4 : Int32) (s sF : vS) (r : Int64) (h : F_X9_bound N a0 l1 l2 l3 l4 s = some (r, sF)) : isO s a0 9 = true ∧ vMet l D ka (xb X0) yX9_bound cX9_bound 10 (some .long) 5 142 [.ref (xb X0 + a0), .int l1, .int l2, .int l3, .int l4] s sF (some (.long r)) := by
  unfold F_X9_bound at h
  unfold rcv at h
  obtain ⟨hO, h⟩ := v_chk h
  refine ⟨hO, vMet.of (ini := false) X0 (plainFor_of_name (by decide +kernel)) (Nat.le_of_ble_eq_true rfl) (fun h => by cases h) (fun X ls hb hl => ?_) rfl⟩
  show V X (cX9_bound, RX9, 10, 5, 142, false) (vRet sF (some (.long r)) (some .long)) sF s (G0 X 0 ls [])
  rw [← hb] at hl
  have hl : lv_has ls 10 [(0, .ref (xb X + a0)), (1, .int l1), (2, .int l2), (3, .int l3), (4, .int l4)] := hl
  refine v_iload_n dX9_bound_0 rfl (lv_at hl 1 rfl) ?_
  refine k_X9_isStore h qmX9_335 (by decide) hl.1 (Nat.le_of_ble_eq_true rfl) dX9_bound_1 (fun v1 s h => ?_)
  refine v_if_eq 63 dX9_bound_4 (by decide) h (fun h => ?_) (fun h => ?_)
  · exact L_X9_bound_63 N  s ls (lv_sub hl [] rfl) h
  · refine v_iload_n dX9_bound_7 rfl (lv_at hl 2 rfl) ?_
    refine v_iconst (0 : Int32) dX9_bound_8 (by decide) ?_
    refine v_iconst (4 : Int32) dX9_bound_9 (by decide) ?_
    refine k_X9_in h qmX9_129 (by decide) hl.1 (Nat.le_of_ble_eq_true rfl) dX9_bound_10 (fun v2 s h => ?_)
    refine v_if_eq 63 dX9_bound_13 (by decide) h (fun h => ?_) (fun h => ?_)
    · exact L_X9_bound_63 N  s ls (lv_sub hl [] rfl) h
    · refine v_iload_n dX9_bound_16 rfl (lv_at hl 3 rfl) ?_
      refine v_iconst (0 : Int32) dX9_bound_17 (by decide) ?_
      refine v_iconst (1 : Int32) dX9_bound_18 (by decide) ?_
      refine k_X9_in h qmX9_129 (by decide) hl.1 (Nat.le_of_ble_eq_true rfl) dX9_bound_19 (fun v3 s h => ?_)
      refine v_if_eq 63 dX9_bound_22 (by decide) h (fun h => ?_) (fun h => ?_)
      · exact L_X9_bound_63 N  s ls (lv_sub hl [] rfl) h
      · refine v_iload dX9_bound_25 (lv_at hl 4 rfl) ?_
        refine v_iconst (0 : Int32) dX9_bound_27 (by decide) ?_
        refine v_iconst (1 : Int32) dX9_bound_28 (by decide) ?_
        refine k_X9_in h qmX9_129 (by decide) hl.1 (Nat.le_of_ble_eq_true rfl) dX9_bound_29 (fun v4 s h => ?_)
        refine v_if_eq 63 dX9_bound_32 (by decide) h (fun h => ?_) (fun h => ?_)
        · exact L_X9_bound_63 N  s ls (lv_sub hl [] rfl) h
        · refine v_aload_n dX9_bound_35 rfl (lv_at hl 0 rfl) ?_
          refine v_getR 9 9 h (by decide) rfl qfX9_52 dX9_bound_36 (fun r5 h => ?_)
          refine v_iload_n dX9_bound_39 rfl (lv_at hl 1 rfl) ?_
          refine v_zald dX9_bound_40 h (fun v6 h => ?_)
          refine v_if_eq 63 dX9_bound_41 (by decide) h (fun h => ?_) (fun h => ?_)
          · exact L_X9_bound_63 N  s ls (lv_sub hl [] rfl) h
          · refine v_aload_n dX9_bound_44 rfl (lv_at hl 0 rfl) ?_
            refine v_getR 9 10 h (by decide) rfl qfX9_56 dX9_bound_45 (fun r7 h => ?_)
            refine v_iload_n dX9_bound_48 rfl (lv_at hl 1 rfl) ?_
            refine v_iald dX9_bound_49 h (fun v8 h => ?_)
            refine v_iconst (1 : Int32) dX9_bound_50 (by decide) ?_
            refine v_icmp_eq 63 dX9_bound_51 (by decide) h (fun h => ?_) (fun h => ?_)
            · exact L_X9_bound_63 N  s ls (lv_sub hl [] rfl) h
            · refine v_aload_n dX9_bound_54 rfl (lv_at hl 0 rfl) ?_
              refine v_iload_n dX9_bound_55 rfl (lv_at hl 1 rfl) ?_
              refine k_X9_greatest h qmX9_344 (by decide) hl.1 (Nat.le_of_ble_eq_true rfl) dX9_bound_56 (fun v9 s h => ?_)
              refine v_iload_n dX9_bound_59 rfl (lv_at hl 2 rfl) ?_
              refine v_icmp_le 67 dX9_bound_60 (by decide) h (fun h => ?_) (fun h => ?_)
              · refine v_aload_n dX9_bound_67 rfl (lv_at hl 0 rfl) ?_
                refine v_iconst (0 : Int32) dX9_bound_68 (by decide) ?_
                refine v_putZ 9 25 h (by decide) rfl (Or.inl rfl) qfX9_168 dX9_bound_69 (fun s h => ?_)
                refine v_aload_n dX9_bound_72 rfl (lv_at hl 0 rfl) ?_
                refine v_iload_n dX9_bound_73 rfl (lv_at hl 1 rfl) ?_
                refine v_iload_n dX9_bound_74 rfl (lv_at hl 2 rfl) ?_
                refine v_bipush (13 : Int32) dX9_bound_75 (by decide) ?_
                refine k_X9_liftTo h qmX9_350 (by decide) hl.1 (Nat.le_of_ble_eq_true rfl) dX9_bound_77 (fun v10 s h => ?_)
                refine v_aload_n dX9_bound_80 rfl (lv_at hl 0 rfl) ?_
                refine v_getI 9 25 h (by decide) (Or.inr rfl) qfX9_168 dX9_bound_81 (fun v11 h => ?_)
                refine v_if_eq 91 dX9_bound_84 (by decide) h (fun h => ?_) (fun h => ?_)
                · refine v_iconst (-1 : Int32) dX9_bound_91 (by decide) ?_
                  refine v_istore [(5, .int (-1 : Int32)), (0, .ref (xb X + a0)), (1, .int l1), (2, .int l2), (3, .int l3), (4, .int l4)] dX9_bound_92 hl (by decide) rfl (fun ls hl => ?_)
                  refine v_iconst (0 : Int32) dX9_bound_94 (by decide) ?_
                  refine v_istore [(6, .int (0 : Int32)), (5, .int (-1 : Int32)), (0, .ref (xb X + a0)), (1, .int l1), (2, .int l2), (3, .int l3), (4, .int l4)] dX9_bound_95 hl (by decide) rfl (fun ls hl => ?_)
                  exact L_X9_bound_97 N N a0 l2 l3 l4 (-1 : Int32) (0 : Int32) s ls (lv_sub hl [2, 4, 5, 6, 1, 0] rfl) h
                · refine v_ldc2 qkX9_166 dX9_bound_87 ?_
                  exact v_lret dX9_bound_90 h
              · exact L_X9_bound_63 N  s ls (lv_sub hl [] rfl) h
theorem k_X9_bound {X : VX} {cc : ByteArray} {own : String} {nL fr lo : Nat} {ini : Bool} {E : VX → Prop} {sF s : vS} {ρ : Type} {res : ρ} {pc : Nat} {ls : Array Slot} {rest : List Value} {N index : Nat} {a0 : Nat} {l1 : Int32} {l2 : Int32} {l3 : Int32} {l4 : Int32} {f : Int64 → vS → Option ρ} (h : bnd (F_X9_bound N a0 l1 l2 l3 l4 s) f = some res) (hlink : Cond.methodLink own index yX9_bound ∈ TT) (hR : 5 + 1 ≤ fr ∧ 8 + (10 + 11) + 142 ≤ lo) (hls : ls.size = nL) (hr : (rest.map fun v => v.category).sum ≤ 8) (hdg : decode cc pc = .ok (.invokevirtual index, 3)) (kk : ∀ r s', f r s' = some res → V X (cc, own, nL, fr, lo, ini) E sF s' (G0 X (pc + 3) ls (.long r :: rest))) : V X (cc, own, nL, fr, lo, ini) E sF s (G0 X pc ls (.int l4 :: .int l3 :: .int l2 :: .int l1 :: .ref (xb X + a0) :: rest)) := by
  obtain ⟨r, s', e, h⟩ := bnd_some h
  exact v_callV (b := a0) (ci := 9) (As := [.int l1, .int l2, .int l3, .int l4]) (rest := rest) (c_X9_bound X N a0 l1 l2 l3 l4 s s' r e).2 (c_X9_bound (l := xl X) (D := xD X) (ka := xka X) X N a0 l1 l2 l3 l4 s s' r e).1 rfl vl_X9_bound qi_X9_bound qe_X9_bound hlink hR rfl rfl hls hr hdg (kk r s' h)
set_option maxHeartbeats 4000000 in
set_option maxRecDepth 100000 in
theorem L_X9_isValued_117 {X : VX} {sF : vS} {r : Int32} (N : Nat) (k0 : Int32) (s : vS) (ls : Array Slot) (hl : lv_has ls 4 []) (h : J_X9_isValued_117 N k0 s = some (r, sF)) : V X (cX9_isValued, RX9, 4, 4, 116, false) (vRet sF (some (.int r)) (some .boolean)) sF s (G0 X 117 ls [.int k0]) := by
  unfold J_X9_isValued_117 at h
  exact v_zret dX9_isValued_117 h
set_option maxHeartbeats 4000000 in
set_option maxRecDepth 100000 in
theorem L_X9_isValued_99 {X : VX} {sF : vS} {r : Int32} (N : Nat) (k17 : Nat → Int32 → Int32 → Int32 → vS → Option (Int32 × vS)) (hk17 : ∀ (a0 : Nat) (l1 : Int32) (l2 : Int32) (l3 : Int32) (s : vS) (ls : Array Slot), lv_has ls 4 [(0, .ref (xb X + a0)), (1, .int l1), (2, .int l2), (3, .int l3)] → k17 a0 l1 l2 l3 s = some (r, sF) → V X (cX9_isValued, RX9, 4, 4, 116, false) (vRet sF (some (.int r)) (some .boolean)) sF s (G0 X 17 ls [])) (a0 : Nat) (l1 : Int32) (l2 : Int32) (l3 : Int32) (s : vS) (ls : Array Slot) (hl : lv_has ls 4 [(0, .ref (xb X + a0)), (1, .int l1), (2, .int l2), (3, .int l3)]) (h : J_X9_isValued_99 N k17 a0 l1 l2 l3 s = some (r, sF)) : V X (cX9_isValued, RX9, 4, 4, 116, false) (vRet sF (some (.int r)) (some .boolean)) sF s (G0 X 99 ls []) := by
  unfold J_X9_isValued_99 at h
  refine v_inc (fun z => [(3, .int z), (0, .ref (xb X + a0)), (1, .int l1), (2, .int l2)]) dX9_isValued_99 h hl (k := 3) rfl (by rfl) (by decide) (fun _ => rfl) (fun l3_17 ls hl h => ?_)
  refine v_goto 17 dX9_isValued_102 (by decide) ?_
  exact hk17 a0 l1 l2 l3_17 s ls (lv_sub hl [1, 2, 3, 0] rfl) h
set_option maxHeartbeats 4000000 in
set_option maxRecDepth 100000 in
theorem L_X9_isValued_17 {X : VX} {sF : vS} {r : Int32} (N : Nat) : ∀ (n : Nat) (a0 : Nat) (l1 : Int32) (l2 : Int32) (l3 : Int32) (s : vS) (ls : Array Slot), lv_has ls 4 [(0, .ref (xb X + a0)), (1, .int l1), (2, .int l2), (3, .int l3)] → H_X9_isValued_17 N n a0 l1 l2 l3 s = some (r, sF) → V X (cX9_isValued, RX9, 4, 4, 116, false) (vRet sF (some (.int r)) (some .boolean)) sF s (G0 X 17 ls []) := by
  intro n
  induction n with
  | zero => intro a0 l1 l2 l3 s ls hl h; cases h
  | succ n ih =>
   intro a0 l1 l2 l3 s ls hl h
   unfold H_X9_isValued_17 at h
   refine v_iload_n dX9_isValued_17 rfl (lv_at hl 3 rfl) ?_
   refine v_bipush (29 : Int32) dX9_isValued_18 (by decide) ?_
   refine v_icmp_ge 105 dX9_isValued_20 (by decide) h (fun h => ?_) (fun h => ?_)
   · refine v_aload_n dX9_isValued_105 rfl (lv_at hl 0 rfl) ?_
     refine v_getI 9 25 h (by decide) (Or.inr rfl) qfX9_168 dX9_isValued_106 (fun v3 h => ?_)
     refine v_if_ne 116 dX9_isValued_109 (by decide) h (fun h => ?_) (fun h => ?_)
     · refine v_iconst (0 : Int32) dX9_isValued_116 (by decide) ?_
       exact L_X9_isValued_117 N (0 : Int32) s ls (lv_sub hl [] rfl) h
     · refine v_iconst (1 : Int32) dX9_isValued_112 (by decide) ?_
       refine v_goto 117 dX9_isValued_113 (by decide) ?_
       exact L_X9_isValued_117 N (1 : Int32) s ls (lv_sub hl [] rfl) h
   · refine v_aload_n dX9_isValued_23 rfl (lv_at hl 0 rfl) ?_
     refine v_iload_n dX9_isValued_24 rfl (lv_at hl 1 rfl) ?_
     refine v_iload_n dX9_isValued_25 rfl (lv_at hl 3 rfl) ?_
     refine k_X9_isTerm h qmX9_179 (by decide) hl.1 (Nat.le_of_ble_eq_true rfl) dX9_isValued_26 (fun v4 s h => ?_)
     refine v_if_eq 99 dX9_isValued_29 (by decide) h (fun h => ?_) (fun h => ?_)
     · exact L_X9_isValued_99 N (H_X9_isValued_17 N n) ih a0 l1 l2 l3 s ls (lv_sub hl [0, 1, 2, 3] rfl) h
     · refine v_aload_n dX9_isValued_32 rfl (lv_at hl 0 rfl) ?_
       refine v_getI 9 25 h (by decide) (Or.inr rfl) qfX9_168 dX9_isValued_33 (fun v5 h => ?_)
       refine v_if_ne 99 dX9_isValued_36 (by decide) h (fun h => ?_) (fun h => ?_)
       · exact L_X9_isValued_99 N (H_X9_isValued_17 N n) ih a0 l1 l2 l3 s ls (lv_sub hl [0, 1, 2, 3] rfl) h
       · refine v_aload_n dX9_isValued_39 rfl (lv_at hl 0 rfl) ?_
         refine v_iload_n dX9_isValued_40 rfl (lv_at hl 3 rfl) ?_
         refine v_aload_n dX9_isValued_41 rfl (lv_at hl 0 rfl) ?_
         refine v_iload_n dX9_isValued_42 rfl (lv_at hl 1 rfl) ?_
         refine v_iload_n dX9_isValued_43 rfl (lv_at hl 3 rfl) ?_
         refine k_X9_sizeIn h qmX9_341 (by decide) hl.1 (Nat.le_of_ble_eq_true rfl) dX9_isValued_44 (fun v6 s h => ?_)
         refine v_iload_n dX9_isValued_47 rfl (lv_at hl 2 rfl) ?_
         refine k_X9_insideOf h qmX9_217 (by decide) hl.1 (Nat.le_of_ble_eq_true rfl) dX9_isValued_48 (fun v7 s h => ?_)
         refine v_aload_n dX9_isValued_51 rfl (lv_at hl 0 rfl) ?_
         refine v_aload_n dX9_isValued_52 rfl (lv_at hl 0 rfl) ?_
         refine v_getR 9 11 h (by decide) rfl qfX9_59 dX9_isValued_53 (fun r8 h => ?_)
         refine v_bipush (29 : Int32) dX9_isValued_56 (by decide) ?_
         refine v_iload_n dX9_isValued_58 rfl (lv_at hl 1 rfl) ?_
         refine v_imul dX9_isValued_59 ?_
         refine v_iload_n dX9_isValued_60 rfl (lv_at hl 3 rfl) ?_
         refine v_iadd dX9_isValued_61 ?_
         refine v_lald dX9_isValued_62 h (fun v9 h => ?_)
         refine v_aload_n dX9_isValued_63 rfl (lv_at hl 0 rfl) ?_
         refine v_getR 9 12 h (by decide) rfl qfX9_63 dX9_isValued_64 (fun r10 h => ?_)
         refine v_bipush (29 : Int32) dX9_isValued_67 (by decide) ?_
         refine v_iload_n dX9_isValued_69 rfl (lv_at hl 1 rfl) ?_
         refine v_imul dX9_isValued_70 ?_
         refine v_iload_n dX9_isValued_71 rfl (lv_at hl 3 rfl) ?_
         refine v_iadd dX9_isValued_72 ?_
         refine v_lald dX9_isValued_73 h (fun v11 h => ?_)
         refine v_aload_n dX9_isValued_74 rfl (lv_at hl 0 rfl) ?_
         refine v_getJ 9 23 h (by decide) rfl qfX9_150 dX9_isValued_75 (fun v12 h => ?_)
         refine v_aload_n dX9_isValued_78 rfl (lv_at hl 0 rfl) ?_
         refine v_getJ 9 24 h (by decide) rfl qfX9_154 dX9_isValued_79 (fun v13 h => ?_)
         refine k_X9_times h qmX9_186 (by decide) hl.1 (Nat.le_of_ble_eq_true rfl) dX9_isValued_82 (fun v14 s h => ?_)
         refine v_aload_n dX9_isValued_85 rfl (lv_at hl 0 rfl) ?_
         refine v_getI 9 25 h (by decide) (Or.inr rfl) qfX9_168 dX9_isValued_86 (fun v15 h => ?_)
         refine v_if_ne 99 dX9_isValued_89 (by decide) h (fun h => ?_) (fun h => ?_)
         · exact L_X9_isValued_99 N (H_X9_isValued_17 N n) ih a0 l1 l2 l3 s ls (lv_sub hl [0, 1, 2, 3] rfl) h
         · refine v_aload_n dX9_isValued_92 rfl (lv_at hl 0 rfl) ?_
           refine v_bipush (13 : Int32) dX9_isValued_93 (by decide) ?_
           refine v_iconst (0 : Int32) dX9_isValued_95 (by decide) ?_
           refine k_X9_addTo h qmX9_189 (by decide) hl.1 (Nat.le_of_ble_eq_true rfl) dX9_isValued_96 (fun v16 s h => ?_)
           exact L_X9_isValued_99 N (H_X9_isValued_17 N n) ih a0 l1 l2 l3 s ls (lv_sub hl [0, 1, 2, 3] rfl) h
theorem vl_X9_isValued : vCl yX9_isValued cX9_isValued 4 (some .boolean) 2 := ⟨qy_X9_isValued, qjX9, by decide +kernel, by decide +kernel, by decide +kernel⟩
set_option maxHeartbeats 4000000 in
set_option maxRecDepth 100000 in
theorem c_X9_isValued {l : Launch} {D : va_G} {ka : Nat → ClassId} (X0 : VX) (N : Nat) (a0 : Nat) (l1 : Int32) (l2 : Int32) (s sF : vS) (r : Int32) (h : F_X9_isValued N a0 l1 l2 s = some (r, sF)) : isO s a0 9 = true ∧ vMet l D ka (xb X0) yX9_isValued cX9_isValued 4 (some .boolean) 4 116 [.ref (xb X0 + a0), .int l1, .int l2] s sF (some (.int r)) := by
  unfold F_X9_isValued at h
  unfold rcv at h
  obtain ⟨hO, h⟩ := v_chk h
  refine ⟨hO, vMet.of (ini := false) X0 (plainFor_of_name (by decide +kernel)) (Nat.le_of_ble_eq_true rfl) (fun h => by cases h) (fun X ls hb hl => ?_) rfl⟩
  show V X (cX9_isValued, RX9, 4, 4, 116, false) (vRet sF (some (.int r)) (some .boolean)) sF s (G0 X 0 ls [])
  rw [← hb] at hl
  have hl : lv_has ls 4 [(0, .ref (xb X + a0)), (1, .int l1), (2, .int l2)] := hl
  refine v_aload_n dX9_isValued_0 rfl (lv_at hl 0 rfl) ?_
  refine v_iconst (0 : Int32) dX9_isValued_1 (by decide) ?_
  refine v_putZ 9 25 h (by decide) rfl (Or.inl rfl) qfX9_168 dX9_isValued_2 (fun s h => ?_)
  refine v_aload_n dX9_isValued_5 rfl (lv_at hl 0 rfl) ?_
  refine v_bipush (13 : Int32) dX9_isValued_6 (by decide) ?_
  refine k_X9_empty h qmX9_210 (by decide) hl.1 (Nat.le_of_ble_eq_true rfl) dX9_isValued_8 (fun v1 s h => ?_)
  refine v_aload_n dX9_isValued_11 rfl (lv_at hl 0 rfl) ?_
  refine k_X9_lookInHand h qmX9_241 (by decide) hl.1 (Nat.le_of_ble_eq_true rfl) dX9_isValued_12 (fun v2 s h => ?_)
  refine v_iconst (0 : Int32) dX9_isValued_15 (by decide) ?_
  refine v_istore_n [(3, .int (0 : Int32)), (0, .ref (xb X + a0)), (1, .int l1), (2, .int l2)] dX9_isValued_16 rfl hl (by decide) rfl (fun ls hl => ?_)
  exact L_X9_isValued_17 N N a0 l1 l2 (0 : Int32) s ls (lv_sub hl [1, 2, 3, 0] rfl) h
theorem k_X9_isValued {X : VX} {cc : ByteArray} {own : String} {nL fr lo : Nat} {ini : Bool} {E : VX → Prop} {sF s : vS} {ρ : Type} {res : ρ} {pc : Nat} {ls : Array Slot} {rest : List Value} {N index : Nat} {a0 : Nat} {l1 : Int32} {l2 : Int32} {f : Int32 → vS → Option ρ} (h : bnd (F_X9_isValued N a0 l1 l2 s) f = some res) (hlink : Cond.methodLink own index yX9_isValued ∈ TT) (hR : 4 + 1 ≤ fr ∧ 8 + (4 + 11) + 116 ≤ lo) (hls : ls.size = nL) (hr : (rest.map fun v => v.category).sum ≤ 8) (hdg : decode cc pc = .ok (.invokevirtual index, 3)) (kk : ∀ r s', f r s' = some res → V X (cc, own, nL, fr, lo, ini) E sF s' (G0 X (pc + 3) ls (.int r :: rest))) : V X (cc, own, nL, fr, lo, ini) E sF s (G0 X pc ls (.int l2 :: .int l1 :: .ref (xb X + a0) :: rest)) := by
  obtain ⟨r, s', e, h⟩ := bnd_some h
  exact v_callV (b := a0) (ci := 9) (As := [.int l1, .int l2]) (rest := rest) (c_X9_isValued X N a0 l1 l2 s s' r e).2 (c_X9_isValued (l := xl X) (D := xD X) (ka := xka X) X N a0 l1 l2 s s' r e).1 rfl vl_X9_isValued qi_X9_isValued qe_X9_isValued hlink hR rfl rfl hls hr hdg (kk r s' h)
set_option maxHeartbeats 4000000 in
set_option maxRecDepth 100000 in
theorem L_X9_value_83 {X : VX} {sF : vS} {r : Int64} (N : Nat) (k0 : Int64) (s : vS) (ls : Array Slot) (hl : lv_has ls 3 []) (h : J_X9_value_83 N k0 s = some (r, sF)) : V X (cX9_value, RX9, 3, 5, 139, false) (vRet sF (some (.long r)) (some .long)) sF s (G0 X 83 ls [.long k0]) := by
  unfold J_X9_value_83 at h
  exact v_lret dX9_value_83 h
set_option maxHeartbeats 4000000 in
set_option maxRecDepth 100000 in
theorem L_X9_value_56 {X : VX} {sF : vS} {r : Int64} (N : Nat) (s : vS) (ls : Array Slot) (hl : lv_has ls 3 []) (h : J_X9_value_56 N  s = some (r, sF)) : V X (cX9_value, RX9, 3, 5, 139, false) (vRet sF (some (.long r)) (some .long)) sF s (G0 X 56 ls []) := by
  unfold J_X9_value_56 at h
  refine v_ldc2 qkX9_166 dX9_value_56 ?_
  exact v_lret dX9_value_59 h
theorem vl_X9_value : vCl yX9_value cX9_value 3 (some .long) 2 := ⟨qy_X9_value, qjX9, by decide +kernel, by decide +kernel, by decide +kernel⟩
set_option maxHeartbeats 4000000 in
set_option maxRecDepth 100000 in
theorem c_X9_value {l : Launch} {D : va_G} {ka : Nat → ClassId} (X0 : VX) (N : Nat) (a0 : Nat) (l1 : Int32) (l2 : Int32) (s sF : vS) (r : Int64) (h : F_X9_value N a0 l1 l2 s = some (r, sF)) : isO s a0 9 = true ∧ vMet l D ka (xb X0) yX9_value cX9_value 3 (some .long) 5 139 [.ref (xb X0 + a0), .int l1, .int l2] s sF (some (.long r)) := by
  unfold F_X9_value at h
  unfold rcv at h
  obtain ⟨hO, h⟩ := v_chk h
  refine ⟨hO, vMet.of (ini := false) X0 (plainFor_of_name (by decide +kernel)) (Nat.le_of_ble_eq_true rfl) (fun h => by cases h) (fun X ls hb hl => ?_) rfl⟩
  show V X (cX9_value, RX9, 3, 5, 139, false) (vRet sF (some (.long r)) (some .long)) sF s (G0 X 0 ls [])
  rw [← hb] at hl
  have hl : lv_has ls 3 [(0, .ref (xb X + a0)), (1, .int l1), (2, .int l2)] := hl
  refine v_iload_n dX9_value_0 rfl (lv_at hl 1 rfl) ?_
  refine k_X9_isStore h qmX9_335 (by decide) hl.1 (Nat.le_of_ble_eq_true rfl) dX9_value_1 (fun v1 s h => ?_)
  refine v_if_eq 56 dX9_value_4 (by decide) h (fun h => ?_) (fun h => ?_)
  · exact L_X9_value_56 N  s ls (lv_sub hl [] rfl) h
  · refine v_iload_n dX9_value_7 rfl (lv_at hl 2 rfl) ?_
    refine v_iconst (0 : Int32) dX9_value_8 (by decide) ?_
    refine v_iconst (1 : Int32) dX9_value_9 (by decide) ?_
    refine k_X9_in h qmX9_129 (by decide) hl.1 (Nat.le_of_ble_eq_true rfl) dX9_value_10 (fun v2 s h => ?_)
    refine v_if_eq 56 dX9_value_13 (by decide) h (fun h => ?_) (fun h => ?_)
    · exact L_X9_value_56 N  s ls (lv_sub hl [] rfl) h
    · refine v_aload_n dX9_value_16 rfl (lv_at hl 0 rfl) ?_
      refine v_getR 9 9 h (by decide) rfl qfX9_52 dX9_value_17 (fun r3 h => ?_)
      refine v_iload_n dX9_value_20 rfl (lv_at hl 1 rfl) ?_
      refine v_zald dX9_value_21 h (fun v4 h => ?_)
      refine v_if_eq 56 dX9_value_22 (by decide) h (fun h => ?_) (fun h => ?_)
      · exact L_X9_value_56 N  s ls (lv_sub hl [] rfl) h
      · refine v_aload_n dX9_value_25 rfl (lv_at hl 0 rfl) ?_
        refine v_getR 9 10 h (by decide) rfl qfX9_56 dX9_value_26 (fun r5 h => ?_)
        refine v_iload_n dX9_value_29 rfl (lv_at hl 1 rfl) ?_
        refine v_iald dX9_value_30 h (fun v6 h => ?_)
        refine v_iconst (1 : Int32) dX9_value_31 (by decide) ?_
        refine v_icmp_eq 56 dX9_value_32 (by decide) h (fun h => ?_) (fun h => ?_)
        · exact L_X9_value_56 N  s ls (lv_sub hl [] rfl) h
        · refine v_aload_n dX9_value_35 rfl (lv_at hl 0 rfl) ?_
          refine v_iload_n dX9_value_36 rfl (lv_at hl 1 rfl) ?_
          refine k_X9_greatest h qmX9_344 (by decide) hl.1 (Nat.le_of_ble_eq_true rfl) dX9_value_37 (fun v7 s h => ?_)
          refine v_aload_n dX9_value_40 rfl (lv_at hl 0 rfl) ?_
          refine v_getI 9 5 h (by decide) (Or.inl rfl) qfX9_137 dX9_value_41 (fun v8 h => ?_)
          refine v_icmp_gt 56 dX9_value_44 (by decide) h (fun h => ?_) (fun h => ?_)
          · exact L_X9_value_56 N  s ls (lv_sub hl [] rfl) h
          · refine v_aload_n dX9_value_47 rfl (lv_at hl 0 rfl) ?_
            refine v_iload_n dX9_value_48 rfl (lv_at hl 1 rfl) ?_
            refine v_iconst (-1 : Int32) dX9_value_49 (by decide) ?_
            refine k_X9_isValued h qmX9_362 (by decide) hl.1 (Nat.le_of_ble_eq_true rfl) dX9_value_50 (fun v9 s h => ?_)
            refine v_if_ne 60 dX9_value_53 (by decide) h (fun h => ?_) (fun h => ?_)
            · refine v_iload_n dX9_value_60 rfl (lv_at hl 2 rfl) ?_
              refine v_if_ne 75 dX9_value_61 (by decide) h (fun h => ?_) (fun h => ?_)
              · refine v_aload_n dX9_value_75 rfl (lv_at hl 0 rfl) ?_
                refine v_getR 9 12 h (by decide) rfl qfX9_63 dX9_value_76 (fun r10 h => ?_)
                refine v_sipush (377 : Int32) dX9_value_79 (by decide) ?_
                refine v_lald dX9_value_82 h (fun v11 h => ?_)
                exact L_X9_value_83 N v11 s ls (lv_sub hl [] rfl) h
              · refine v_aload_n dX9_value_64 rfl (lv_at hl 0 rfl) ?_
                refine v_getR 9 11 h (by decide) rfl qfX9_59 dX9_value_65 (fun r12 h => ?_)
                refine v_sipush (377 : Int32) dX9_value_68 (by decide) ?_
                refine v_lald dX9_value_71 h (fun v13 h => ?_)
                refine v_goto 83 dX9_value_72 (by decide) ?_
                exact L_X9_value_83 N v13 s ls (lv_sub hl [] rfl) h
            · exact L_X9_value_56 N  s ls (lv_sub hl [] rfl) h
theorem k_X9_value {X : VX} {cc : ByteArray} {own : String} {nL fr lo : Nat} {ini : Bool} {E : VX → Prop} {sF s : vS} {ρ : Type} {res : ρ} {pc : Nat} {ls : Array Slot} {rest : List Value} {N index : Nat} {a0 : Nat} {l1 : Int32} {l2 : Int32} {f : Int64 → vS → Option ρ} (h : bnd (F_X9_value N a0 l1 l2 s) f = some res) (hlink : Cond.methodLink own index yX9_value ∈ TT) (hR : 5 + 1 ≤ fr ∧ 8 + (3 + 11) + 139 ≤ lo) (hls : ls.size = nL) (hr : (rest.map fun v => v.category).sum ≤ 8) (hdg : decode cc pc = .ok (.invokevirtual index, 3)) (kk : ∀ r s', f r s' = some res → V X (cc, own, nL, fr, lo, ini) E sF s' (G0 X (pc + 3) ls (.long r :: rest))) : V X (cc, own, nL, fr, lo, ini) E sF s (G0 X pc ls (.int l2 :: .int l1 :: .ref (xb X + a0) :: rest)) := by
  obtain ⟨r, s', e, h⟩ := bnd_some h
  exact v_callV (b := a0) (ci := 9) (As := [.int l1, .int l2]) (rest := rest) (c_X9_value X N a0 l1 l2 s s' r e).2 (c_X9_value (l := xl X) (D := xD X) (ka := xka X) X N a0 l1 l2 s s' r e).1 rfl vl_X9_value qi_X9_value qe_X9_value hlink hR rfl rfl hls hr hdg (kk r s' h)
set_option maxHeartbeats 4000000 in
set_option maxRecDepth 100000 in
theorem L_X9_valueAt_90 {X : VX} {sF : vS} {r : Int64} (N : Nat) (k0 : Int64) (s : vS) (ls : Array Slot) (hl : lv_has ls 4 []) (h : J_X9_valueAt_90 N k0 s = some (r, sF)) : V X (cX9_valueAt, RX9, 4, 5, 139, false) (vRet sF (some (.long r)) (some .long)) sF s (G0 X 90 ls [.long k0]) := by
  unfold J_X9_valueAt_90 at h
  exact v_lret dX9_valueAt_90 h
set_option maxHeartbeats 4000000 in
set_option maxRecDepth 100000 in
theorem L_X9_valueAt_63 {X : VX} {sF : vS} {r : Int64} (N : Nat) (s : vS) (ls : Array Slot) (hl : lv_has ls 4 []) (h : J_X9_valueAt_63 N  s = some (r, sF)) : V X (cX9_valueAt, RX9, 4, 5, 139, false) (vRet sF (some (.long r)) (some .long)) sF s (G0 X 63 ls []) := by
  unfold J_X9_valueAt_63 at h
  refine v_ldc2 qkX9_166 dX9_valueAt_63 ?_
  exact v_lret dX9_valueAt_66 h
theorem vl_X9_valueAt : vCl yX9_valueAt cX9_valueAt 4 (some .long) 3 := ⟨qy_X9_valueAt, qjX9, by decide +kernel, by decide +kernel, by decide +kernel⟩
set_option maxHeartbeats 4000000 in
set_option maxRecDepth 100000 in
theorem c_X9_valueAt {l : Launch} {D : va_G} {ka : Nat → ClassId} (X0 : VX) (N : Nat) (a0 : Nat) (l1 : Int32) (l2 : Int32) (l3 : Int32) (s sF : vS) (r : Int64) (h : F_X9_valueAt N a0 l1 l2 l3 s = some (r, sF)) : isO s a0 9 = true ∧ vMet l D ka (xb X0) yX9_valueAt cX9_valueAt 4 (some .long) 5 139 [.ref (xb X0 + a0), .int l1, .int l2, .int l3] s sF (some (.long r)) := by
  unfold F_X9_valueAt at h
  unfold rcv at h
  obtain ⟨hO, h⟩ := v_chk h
  refine ⟨hO, vMet.of (ini := false) X0 (plainFor_of_name (by decide +kernel)) (Nat.le_of_ble_eq_true rfl) (fun h => by cases h) (fun X ls hb hl => ?_) rfl⟩
  show V X (cX9_valueAt, RX9, 4, 5, 139, false) (vRet sF (some (.long r)) (some .long)) sF s (G0 X 0 ls [])
  rw [← hb] at hl
  have hl : lv_has ls 4 [(0, .ref (xb X + a0)), (1, .int l1), (2, .int l2), (3, .int l3)] := hl
  refine v_iload_n dX9_valueAt_0 rfl (lv_at hl 1 rfl) ?_
  refine k_X9_isStore h qmX9_335 (by decide) hl.1 (Nat.le_of_ble_eq_true rfl) dX9_valueAt_1 (fun v1 s h => ?_)
  refine v_if_eq 63 dX9_valueAt_4 (by decide) h (fun h => ?_) (fun h => ?_)
  · exact L_X9_valueAt_63 N  s ls (lv_sub hl [] rfl) h
  · refine v_aload_n dX9_valueAt_7 rfl (lv_at hl 0 rfl) ?_
    refine v_iload_n dX9_valueAt_8 rfl (lv_at hl 2 rfl) ?_
    refine k_X9_isPoint h qmX9_238 (by decide) hl.1 (Nat.le_of_ble_eq_true rfl) dX9_valueAt_9 (fun v2 s h => ?_)
    refine v_if_eq 63 dX9_valueAt_12 (by decide) h (fun h => ?_) (fun h => ?_)
    · exact L_X9_valueAt_63 N  s ls (lv_sub hl [] rfl) h
    · refine v_iload_n dX9_valueAt_15 rfl (lv_at hl 3 rfl) ?_
      refine v_iconst (0 : Int32) dX9_valueAt_16 (by decide) ?_
      refine v_iconst (1 : Int32) dX9_valueAt_17 (by decide) ?_
      refine k_X9_in h qmX9_129 (by decide) hl.1 (Nat.le_of_ble_eq_true rfl) dX9_valueAt_18 (fun v3 s h => ?_)
      refine v_if_eq 63 dX9_valueAt_21 (by decide) h (fun h => ?_) (fun h => ?_)
      · exact L_X9_valueAt_63 N  s ls (lv_sub hl [] rfl) h
      · refine v_aload_n dX9_valueAt_24 rfl (lv_at hl 0 rfl) ?_
        refine v_getR 9 9 h (by decide) rfl qfX9_52 dX9_valueAt_25 (fun r4 h => ?_)
        refine v_iload_n dX9_valueAt_28 rfl (lv_at hl 1 rfl) ?_
        refine v_zald dX9_valueAt_29 h (fun v5 h => ?_)
        refine v_if_eq 63 dX9_valueAt_30 (by decide) h (fun h => ?_) (fun h => ?_)
        · exact L_X9_valueAt_63 N  s ls (lv_sub hl [] rfl) h
        · refine v_aload_n dX9_valueAt_33 rfl (lv_at hl 0 rfl) ?_
          refine v_getR 9 10 h (by decide) rfl qfX9_56 dX9_valueAt_34 (fun r6 h => ?_)
          refine v_iload_n dX9_valueAt_37 rfl (lv_at hl 1 rfl) ?_
          refine v_iald dX9_valueAt_38 h (fun v7 h => ?_)
          refine v_if_eq 63 dX9_valueAt_39 (by decide) h (fun h => ?_) (fun h => ?_)
          · exact L_X9_valueAt_63 N  s ls (lv_sub hl [] rfl) h
          · refine v_aload_n dX9_valueAt_42 rfl (lv_at hl 0 rfl) ?_
            refine v_iload_n dX9_valueAt_43 rfl (lv_at hl 1 rfl) ?_
            refine k_X9_greatest h qmX9_344 (by decide) hl.1 (Nat.le_of_ble_eq_true rfl) dX9_valueAt_44 (fun v8 s h => ?_)
            refine v_aload_n dX9_valueAt_47 rfl (lv_at hl 0 rfl) ?_
            refine v_getI 9 5 h (by decide) (Or.inl rfl) qfX9_137 dX9_valueAt_48 (fun v9 h => ?_)
            refine v_icmp_gt 63 dX9_valueAt_51 (by decide) h (fun h => ?_) (fun h => ?_)
            · exact L_X9_valueAt_63 N  s ls (lv_sub hl [] rfl) h
            · refine v_aload_n dX9_valueAt_54 rfl (lv_at hl 0 rfl) ?_
              refine v_iload_n dX9_valueAt_55 rfl (lv_at hl 1 rfl) ?_
              refine v_iload_n dX9_valueAt_56 rfl (lv_at hl 2 rfl) ?_
              refine k_X9_isValued h qmX9_362 (by decide) hl.1 (Nat.le_of_ble_eq_true rfl) dX9_valueAt_57 (fun v10 s h => ?_)
              refine v_if_ne 67 dX9_valueAt_60 (by decide) h (fun h => ?_) (fun h => ?_)
              · refine v_iload_n dX9_valueAt_67 rfl (lv_at hl 3 rfl) ?_
                refine v_if_ne 82 dX9_valueAt_68 (by decide) h (fun h => ?_) (fun h => ?_)
                · refine v_aload_n dX9_valueAt_82 rfl (lv_at hl 0 rfl) ?_
                  refine v_getR 9 12 h (by decide) rfl qfX9_63 dX9_valueAt_83 (fun r11 h => ?_)
                  refine v_sipush (377 : Int32) dX9_valueAt_86 (by decide) ?_
                  refine v_lald dX9_valueAt_89 h (fun v12 h => ?_)
                  exact L_X9_valueAt_90 N v12 s ls (lv_sub hl [] rfl) h
                · refine v_aload_n dX9_valueAt_71 rfl (lv_at hl 0 rfl) ?_
                  refine v_getR 9 11 h (by decide) rfl qfX9_59 dX9_valueAt_72 (fun r13 h => ?_)
                  refine v_sipush (377 : Int32) dX9_valueAt_75 (by decide) ?_
                  refine v_lald dX9_valueAt_78 h (fun v14 h => ?_)
                  refine v_goto 90 dX9_valueAt_79 (by decide) ?_
                  exact L_X9_valueAt_90 N v14 s ls (lv_sub hl [] rfl) h
              · exact L_X9_valueAt_63 N  s ls (lv_sub hl [] rfl) h
theorem k_X9_valueAt {X : VX} {cc : ByteArray} {own : String} {nL fr lo : Nat} {ini : Bool} {E : VX → Prop} {sF s : vS} {ρ : Type} {res : ρ} {pc : Nat} {ls : Array Slot} {rest : List Value} {N index : Nat} {a0 : Nat} {l1 : Int32} {l2 : Int32} {l3 : Int32} {f : Int64 → vS → Option ρ} (h : bnd (F_X9_valueAt N a0 l1 l2 l3 s) f = some res) (hlink : Cond.methodLink own index yX9_valueAt ∈ TT) (hR : 5 + 1 ≤ fr ∧ 8 + (4 + 11) + 139 ≤ lo) (hls : ls.size = nL) (hr : (rest.map fun v => v.category).sum ≤ 8) (hdg : decode cc pc = .ok (.invokevirtual index, 3)) (kk : ∀ r s', f r s' = some res → V X (cc, own, nL, fr, lo, ini) E sF s' (G0 X (pc + 3) ls (.long r :: rest))) : V X (cc, own, nL, fr, lo, ini) E sF s (G0 X pc ls (.int l3 :: .int l2 :: .int l1 :: .ref (xb X + a0) :: rest)) := by
  obtain ⟨r, s', e, h⟩ := bnd_some h
  exact v_callV (b := a0) (ci := 9) (As := [.int l1, .int l2, .int l3]) (rest := rest) (c_X9_valueAt X N a0 l1 l2 l3 s s' r e).2 (c_X9_valueAt (l := xl X) (D := xD X) (ka := xka X) X N a0 l1 l2 l3 s s' r e).1 rfl vl_X9_valueAt qi_X9_valueAt qe_X9_valueAt hlink hR rfl rfl hls hr hdg (kk r s' h)
set_option maxHeartbeats 4000000 in
set_option maxRecDepth 100000 in
theorem L_X9_move_14 {X : VX} {sF : vS} {r : Int32} (N : Nat) (s : vS) (ls : Array Slot) (hl : lv_has ls 3 []) (h : J_X9_move_14 N  s = some (r, sF)) : V X (cX9_move, RX9, 3, 3, 66, false) (vRet sF (some (.int r)) (some .int)) sF s (G0 X 14 ls []) := by
  unfold J_X9_move_14 at h
  refine v_iconst (-1 : Int32) dX9_move_14 (by decide) ?_
  exact v_iret dX9_move_15 h
theorem vl_X9_move : vCl yX9_move cX9_move 3 (some .int) 2 := ⟨qy_X9_move, qjX9, by decide +kernel, by decide +kernel, by decide +kernel⟩
set_option maxHeartbeats 4000000 in
set_option maxRecDepth 100000 in
theorem c_X9_move {l : Launch} {D : va_G} {ka : Nat → ClassId} (X0 : VX) (N : Nat) (a0 : Nat) (l1 : Int32) (l2 : Int32) (s sF : vS) (r : Int32) (h : F_X9_move N a0 l1 l2 s = some (r, sF)) : isO s a0 9 = true ∧ vMet l D ka (xb X0) yX9_move cX9_move 3 (some .int) 3 66 [.ref (xb X0 + a0), .int l1, .int l2] s sF (some (.int r)) := by
  unfold F_X9_move at h
  unfold rcv at h
  obtain ⟨hO, h⟩ := v_chk h
  refine ⟨hO, vMet.of (ini := false) X0 (plainFor_of_name (by decide +kernel)) (Nat.le_of_ble_eq_true rfl) (fun h => by cases h) (fun X ls hb hl => ?_) rfl⟩
  show V X (cX9_move, RX9, 3, 3, 66, false) (vRet sF (some (.int r)) (some .int)) sF s (G0 X 0 ls [])
  rw [← hb] at hl
  have hl : lv_has ls 3 [(0, .ref (xb X + a0)), (1, .int l1), (2, .int l2)] := hl
  refine v_iload_n dX9_move_0 rfl (lv_at hl 1 rfl) ?_
  refine k_X9_isStore h qmX9_335 (by decide) hl.1 (Nat.le_of_ble_eq_true rfl) dX9_move_1 (fun v1 s h => ?_)
  refine v_if_eq 14 dX9_move_4 (by decide) h (fun h => ?_) (fun h => ?_)
  · exact L_X9_move_14 N  s ls (lv_sub hl [] rfl) h
  · refine v_iload_n dX9_move_7 rfl (lv_at hl 2 rfl) ?_
    refine k_X9_isStore h qmX9_335 (by decide) hl.1 (Nat.le_of_ble_eq_true rfl) dX9_move_8 (fun v2 s h => ?_)
    refine v_if_ne 16 dX9_move_11 (by decide) h (fun h => ?_) (fun h => ?_)
    · refine v_aload_n dX9_move_16 rfl (lv_at hl 0 rfl) ?_
      refine v_iload_n dX9_move_17 rfl (lv_at hl 1 rfl) ?_
      refine v_iload_n dX9_move_18 rfl (lv_at hl 2 rfl) ?_
      refine k_X9_copy h qmX9_182 (by decide) hl.1 (Nat.le_of_ble_eq_true rfl) dX9_move_19 (fun v3 s h => ?_)
      refine v_aload_n dX9_move_22 rfl (lv_at hl 0 rfl) ?_
      refine v_getR 9 9 h (by decide) rfl qfX9_52 dX9_move_23 (fun r4 h => ?_)
      refine v_iload_n dX9_move_26 rfl (lv_at hl 2 rfl) ?_
      refine v_aload_n dX9_move_27 rfl (lv_at hl 0 rfl) ?_
      refine v_getR 9 9 h (by decide) rfl qfX9_52 dX9_move_28 (fun r5 h => ?_)
      refine v_iload_n dX9_move_31 rfl (lv_at hl 1 rfl) ?_
      refine v_zald dX9_move_32 h (fun v6 h => ?_)
      refine v_zast dX9_move_33 h (fun s h => ?_)
      refine v_aload_n dX9_move_34 rfl (lv_at hl 0 rfl) ?_
      refine v_iload_n dX9_move_35 rfl (lv_at hl 2 rfl) ?_
      refine k_X9_termsIn h qmX9_338 (by decide) hl.1 (Nat.le_of_ble_eq_true rfl) dX9_move_36 (fun v7 s h => ?_)
      exact v_iret dX9_move_39 h
    · exact L_X9_move_14 N  s ls (lv_sub hl [] rfl) h
theorem k_X9_move {X : VX} {cc : ByteArray} {own : String} {nL fr lo : Nat} {ini : Bool} {E : VX → Prop} {sF s : vS} {ρ : Type} {res : ρ} {pc : Nat} {ls : Array Slot} {rest : List Value} {N index : Nat} {a0 : Nat} {l1 : Int32} {l2 : Int32} {f : Int32 → vS → Option ρ} (h : bnd (F_X9_move N a0 l1 l2 s) f = some res) (hlink : Cond.methodLink own index yX9_move ∈ TT) (hR : 3 + 1 ≤ fr ∧ 8 + (3 + 11) + 66 ≤ lo) (hls : ls.size = nL) (hr : (rest.map fun v => v.category).sum ≤ 8) (hdg : decode cc pc = .ok (.invokevirtual index, 3)) (kk : ∀ r s', f r s' = some res → V X (cc, own, nL, fr, lo, ini) E sF s' (G0 X (pc + 3) ls (.int r :: rest))) : V X (cc, own, nL, fr, lo, ini) E sF s (G0 X pc ls (.int l2 :: .int l1 :: .ref (xb X + a0) :: rest)) := by
  obtain ⟨r, s', e, h⟩ := bnd_some h
  exact v_callV (b := a0) (ci := 9) (As := [.int l1, .int l2]) (rest := rest) (c_X9_move X N a0 l1 l2 s s' r e).2 (c_X9_move (l := xl X) (D := xD X) (ka := xka X) X N a0 l1 l2 s s' r e).1 rfl vl_X9_move qi_X9_move qe_X9_move hlink hR rfl rfl hls hr hdg (kk r s' h)
set_option maxHeartbeats 4000000 in
set_option maxRecDepth 100000 in
theorem L_X9_film_57 {X : VX} {sF : vS} {r : Int32} (N : Nat) : ∀ (n : Nat) (a0 : Nat) (l1 : Int32) (l2 : Int32) (l3 : Int32) (l4 : Int32) (s : vS) (ls : Array Slot), lv_has ls 5 [(0, .ref (xb X + a0)), (1, .int l1), (2, .int l2), (3, .int l3), (4, .int l4)] → H_X9_film_57 N n a0 l1 l2 l3 l4 s = some (r, sF) → V X (cX9_film, RX9, 5, 4, 98, false) (vRet sF (some (.int r)) (some .int)) sF s (G0 X 57 ls []) := by
  intro n
  induction n with
  | zero => intro a0 l1 l2 l3 l4 s ls hl h; cases h
  | succ n ih =>
   intro a0 l1 l2 l3 l4 s ls hl h
   unfold H_X9_film_57 at h
   refine v_iload dX9_film_57 (lv_at hl 4 rfl) ?_
   refine v_iload_n dX9_film_59 rfl (lv_at hl 3 rfl) ?_
   refine v_icmp_ge 124 dX9_film_60 (by decide) h (fun h => ?_) (fun h => ?_)
   · refine v_iload_n dX9_film_124 rfl (lv_at hl 3 rfl) ?_
     exact v_iret dX9_film_125 h
   · refine v_aload_n dX9_film_63 rfl (lv_at hl 0 rfl) ?_
     refine v_aload_n dX9_film_64 rfl (lv_at hl 0 rfl) ?_
     refine v_getR 9 28 h (by decide) rfl qfX9_93 dX9_film_65 (fun r8 h => ?_)
     refine v_iload dX9_film_68 (lv_at hl 4 rfl) ?_
     refine v_iald dX9_film_70 h (fun v9 h => ?_)
     refine v_iload_n dX9_film_71 rfl (lv_at hl 2 rfl) ?_
     refine v_iconst (-1 : Int32) dX9_film_72 (by decide) ?_
     refine k_X9_insideOf h qmX9_217 (by decide) hl.1 (Nat.le_of_ble_eq_true rfl) dX9_film_73 (fun v10 s h => ?_)
     refine v_aload_n dX9_film_76 rfl (lv_at hl 0 rfl) ?_
     refine v_getR 9 11 h (by decide) rfl qfX9_59 dX9_film_77 (fun r11 h => ?_)
     refine v_bipush (29 : Int32) dX9_film_80 (by decide) ?_
     refine v_iload_n dX9_film_82 rfl (lv_at hl 1 rfl) ?_
     refine v_imul dX9_film_83 ?_
     refine v_aload_n dX9_film_84 rfl (lv_at hl 0 rfl) ?_
     refine v_getR 9 28 h (by decide) rfl qfX9_93 dX9_film_85 (fun r12 h => ?_)
     refine v_iload dX9_film_88 (lv_at hl 4 rfl) ?_
     refine v_iald dX9_film_90 h (fun v13 h => ?_)
     refine v_iadd dX9_film_91 ?_
     refine v_aload_n dX9_film_92 rfl (lv_at hl 0 rfl) ?_
     refine v_getJ 9 23 h (by decide) rfl qfX9_150 dX9_film_93 (fun v14 h => ?_)
     refine v_last dX9_film_96 h (fun s h => ?_)
     refine v_aload_n dX9_film_97 rfl (lv_at hl 0 rfl) ?_
     refine v_getR 9 12 h (by decide) rfl qfX9_63 dX9_film_98 (fun r15 h => ?_)
     refine v_bipush (29 : Int32) dX9_film_101 (by decide) ?_
     refine v_iload_n dX9_film_103 rfl (lv_at hl 1 rfl) ?_
     refine v_imul dX9_film_104 ?_
     refine v_aload_n dX9_film_105 rfl (lv_at hl 0 rfl) ?_
     refine v_getR 9 28 h (by decide) rfl qfX9_93 dX9_film_106 (fun r16 h => ?_)
     refine v_iload dX9_film_109 (lv_at hl 4 rfl) ?_
     refine v_iald dX9_film_111 h (fun v17 h => ?_)
     refine v_iadd dX9_film_112 ?_
     refine v_aload_n dX9_film_113 rfl (lv_at hl 0 rfl) ?_
     refine v_getJ 9 24 h (by decide) rfl qfX9_154 dX9_film_114 (fun v18 h => ?_)
     refine v_last dX9_film_117 h (fun s h => ?_)
     refine v_inc (fun z => [(4, .int z), (0, .ref (xb X + a0)), (1, .int l1), (2, .int l2), (3, .int l3)]) dX9_film_118 h hl (k := 4) rfl (by rfl) (by decide) (fun _ => rfl) (fun l4_19 ls hl h => ?_)
     refine v_goto 57 dX9_film_121 (by decide) ?_
     exact ih a0 l1 l2 l3 l4_19 s ls (lv_sub hl [1, 2, 3, 4, 0] rfl) h
