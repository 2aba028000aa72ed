set_option maxHeartbeats 4000000 in
set_option maxRecDepth 100000 in
theorem L_X1_tally_34 {X : VX} {sF : vS} {r : Unit} (N : Nat) : ∀ (n : Nat) (a0 : Nat) (a1 : Nat) (l2 : Int32) (l3 : Int32) (l4 : Int32) (s : vS) (ls : Array Slot), lv_has ls 6 [(0, .ref (xb X + a0)), (1, .ref (xb X + a1)), (2, .int l2), (3, .int l3), (4, .int l4)] → H_X1_tally_34 N n a0 a1 l2 l3 l4 s = some (r, sF) → V X (cX1_tally, RX1, 6, 3, 73, false) (vRet sF none none) sF s (G0 X 34 ls []) := by
  intro n
  induction n with
  | zero => intro a0 a1 l2 l3 l4 s ls hl h; cases h
  | succ n ih =>
   intro a0 a1 l2 l3 l4 s ls hl h
   unfold H_X1_tally_34 at h
   refine v_iload dX1_tally_34 (lv_at hl 4 rfl) ?_
   refine v_iconst (1 : Int32) dX1_tally_36 (by decide) ?_
   refine v_aload_n dX1_tally_37 rfl (lv_at hl 1 rfl) ?_
   refine v_getI 3 0 h (by decide) (Or.inl rfl) qfX1_119 dX1_tally_38 (fun v4 h => ?_)
   refine v_ishl dX1_tally_41 ?_
   refine v_icmp_ge 136 dX1_tally_42 (by decide) h (fun h => ?_) (fun h => ?_)
   · exact v_vret dX1_tally_136 h
   · refine v_iload dX1_tally_45 (lv_at hl 4 rfl) ?_
     refine k_J6_bitCount_0f7a4 h qmX1_105 (by decide) hl.1 (Nat.le_of_ble_eq_true rfl) dX1_tally_47 (fun v5 s h => ?_)
     refine v_iload_n dX1_tally_50 rfl (lv_at hl 3 rfl) ?_
     refine v_icmp_ne 65 dX1_tally_51 (by decide) h (fun h => ?_) (fun h => ?_)
     · refine v_iconst (-1 : Int32) dX1_tally_65 (by decide) ?_
       exact L_X1_tally_66 N (H_X1_tally_34 N n) ih a0 a1 l2 l3 l4 (-1 : Int32) s ls (lv_sub hl [0, 1, 2, 3, 4] rfl) h
     · refine v_aload_n dX1_tally_54 rfl (lv_at hl 0 rfl) ?_
       refine v_aload_n dX1_tally_55 rfl (lv_at hl 1 rfl) ?_
       refine v_iload dX1_tally_56 (lv_at hl 4 rfl) ?_
       refine v_iload_n dX1_tally_58 rfl (lv_at hl 2 rfl) ?_
       refine k_X1_numberOn h qmX1_70 (by decide) hl.1 (Nat.le_of_ble_eq_true rfl) dX1_tally_59 (fun v6 s h => ?_)
       refine v_goto 66 dX1_tally_62 (by decide) ?_
       exact L_X1_tally_66 N (H_X1_tally_34 N n) ih a0 a1 l2 l3 l4 v6 s ls (lv_sub hl [0, 1, 2, 3, 4] rfl) h
set_option maxHeartbeats 4000000 in
set_option maxRecDepth 100000 in
theorem L_X1_tally_8 {X : VX} {sF : vS} {r : Unit} (N : Nat) : ∀ (n : Nat) (a0 : Nat) (a1 : Nat) (l2 : Int32) (l3 : Int32) (l4 : Int32) (s : vS) (ls : Array Slot), lv_has ls 6 [(0, .ref (xb X + a0)), (1, .ref (xb X + a1)), (2, .int l2), (3, .int l3), (4, .int l4)] → H_X1_tally_8 N n a0 a1 l2 l3 l4 s = some (r, sF) → V X (cX1_tally, RX1, 6, 3, 73, false) (vRet sF none none) sF s (G0 X 8 ls []) := by
  intro n
  induction n with
  | zero => intro a0 a1 l2 l3 l4 s ls hl h; cases h
  | succ n ih =>
   intro a0 a1 l2 l3 l4 s ls hl h
   unfold H_X1_tally_8 at h
   refine v_iload dX1_tally_8 (lv_at hl 4 rfl) ?_
   refine v_aload_n dX1_tally_10 rfl (lv_at hl 0 rfl) ?_
   refine v_getI 1 2 h (by decide) (Or.inl rfl) qfX1_35 dX1_tally_11 (fun v1 h => ?_)
   refine v_icmp_ge 31 dX1_tally_14 (by decide) h (fun h => ?_) (fun h => ?_)
   · refine v_iconst (0 : Int32) dX1_tally_31 (by decide) ?_
     refine v_istore [(4, .int (0 : Int32)), (0, .ref (xb X + a0)), (1, .ref (xb X + a1)), (2, .int l2), (3, .int l3)] dX1_tally_32 hl (by decide) rfl (fun ls hl => ?_)
     exact L_X1_tally_34 N N a0 a1 l2 l3 (0 : Int32) s ls (lv_sub hl [1, 2, 3, 4, 0] rfl) h
   · refine v_aload_n dX1_tally_17 rfl (lv_at hl 0 rfl) ?_
     refine v_getR 1 10 h (by decide) rfl qfX1_56 dX1_tally_18 (fun r2 h => ?_)
     refine v_iload dX1_tally_21 (lv_at hl 4 rfl) ?_
     refine v_iconst (0 : Int32) dX1_tally_23 (by decide) ?_
     refine v_iast dX1_tally_24 h (fun s h => ?_)
     refine v_inc (fun z => [(4, .int z), (0, .ref (xb X + a0)), (1, .ref (xb X + a1)), (2, .int l2), (3, .int l3)]) dX1_tally_25 h hl (k := 4) rfl (by rfl) (by decide) (fun _ => rfl) (fun l4_3 ls hl h => ?_)
     refine v_goto 8 dX1_tally_28 (by decide) ?_
     exact ih a0 a1 l2 l3 l4_3 s ls (lv_sub hl [1, 2, 3, 4, 0] rfl) h
theorem vl_X1_tally : vCl yX1_tally cX1_tally 6 none 3 := ⟨qy_X1_tally, qjX1, by decide +kernel, by decide +kernel, by decide +kernel⟩
set_option maxHeartbeats 4000000 in
set_option maxRecDepth 100000 in
theorem c_X1_tally {l : Launch} {D : va_G} {ka : Nat → ClassId} (X0 : VX) (N : Nat) (a0 : Nat) (a1 : Nat) (l2 : Int32) (l3 : Int32) (s sF : vS) (r : Unit) (h : F_X1_tally N a0 a1 l2 l3 s = some (r, sF)) : isO s a0 1 = true ∧ vMet l D ka (xb X0) yX1_tally cX1_tally 6 none 3 73 [.ref (xb X0 + a0), .ref (xb X0 + a1), .int l2, .int l3] s sF none := by
  unfold F_X1_tally at h
  unfold rcv at h
  obtain ⟨hO, h⟩ := v_chk h
  refine ⟨hO, vMet.of (ini := false) X0 (plainFor_of_name (by decide +kernel)) (Nat.le_of_ble_eq_true rfl) (fun h => by cases h) (fun X ls hb hl => ?_) rfl⟩
  show V X (cX1_tally, RX1, 6, 3, 73, false) (vRet sF none none) sF s (G0 X 0 ls [])
  rw [← hb] at hl
  have hl : lv_has ls 6 [(0, .ref (xb X + a0)), (1, .ref (xb X + a1)), (2, .int l2), (3, .int l3)] := hl
  refine v_aload_n dX1_tally_0 rfl (lv_at hl 0 rfl) ?_
  refine v_iconst (0 : Int32) dX1_tally_1 (by decide) ?_
  refine v_putI 1 12 h (by decide) rfl (Or.inl rfl) qfX1_27 dX1_tally_2 (fun s h => ?_)
  refine v_iconst (0 : Int32) dX1_tally_5 (by decide) ?_
  refine v_istore [(4, .int (0 : Int32)), (0, .ref (xb X + a0)), (1, .ref (xb X + a1)), (2, .int l2), (3, .int l3)] dX1_tally_6 hl (by decide) rfl (fun ls hl => ?_)
  exact L_X1_tally_8 N N a0 a1 l2 l3 (0 : Int32) s ls (lv_sub hl [1, 2, 3, 4, 0] rfl) h
theorem k_X1_tally {X : VX} {cc : ByteArray} {own : String} {nL fr lo : Nat} {ini : Bool} {E : VX → Prop} {sF s : vS} {ρ : Type} {res : ρ} {pc : Nat} {ls : Array Slot} {rest : List Value} {N index : Nat} {a0 : Nat} {a1 : Nat} {l2 : Int32} {l3 : Int32} {f : Unit → vS → Option ρ} (h : bnd (F_X1_tally N a0 a1 l2 l3 s) f = some res) (hlink : Cond.methodLink own index yX1_tally ∈ TT) (hR : 3 + 1 ≤ fr ∧ 8 + (6 + 11) + 73 ≤ lo) (hls : ls.size = nL) (hr : (rest.map fun v => v.category).sum ≤ 8) (hdg : decode cc pc = .ok (.invokevirtual index, 3)) (kk : ∀ r s', f r s' = some res → V X (cc, own, nL, fr, lo, ini) E sF s' (G0 X (pc + 3) ls (rest))) : V X (cc, own, nL, fr, lo, ini) E sF s (G0 X pc ls (.int l3 :: .int l2 :: .ref (xb X + a1) :: .ref (xb X + a0) :: rest)) := by
  obtain ⟨r, s', e, h⟩ := bnd_some h
  exact v_callV (b := a0) (ci := 1) (As := [.ref (xb X + a1), .int l2, .int l3]) (rest := rest) (c_X1_tally X N a0 a1 l2 l3 s s' r e).2 (c_X1_tally (l := xl X) (D := xD X) (ka := xka X) X N a0 a1 l2 l3 s s' r e).1 rfl vl_X1_tally qi_X1_tally qe_X1_tally hlink hR rfl rfl hls hr hdg (kk r s' h)
theorem vl_X1_setsIn : vCl yX1_setsIn cX1_setsIn 3 (some .int) 2 := ⟨qy_X1_setsIn, qjX1, by decide +kernel, by decide +kernel, by decide +kernel⟩
set_option maxHeartbeats 4000000 in
set_option maxRecDepth 100000 in
theorem c_X1_setsIn {l : Launch} {D : va_G} {ka : Nat → ClassId} (X0 : VX) (N : Nat) (a0 : Nat) (l1 : Int32) (l2 : Int32) (s sF : vS) (r : Int32) (h : F_X1_setsIn N a0 l1 l2 s = some (r, sF)) : isO s a0 1 = true ∧ vMet l D ka (xb X0) yX1_setsIn cX1_setsIn 3 (some .int) 1 23 [.ref (xb X0 + a0), .int l1, .int l2] s sF (some (.int r)) := by
  unfold F_X1_setsIn at h
  unfold rcv at h
  obtain ⟨hO, h⟩ := v_chk h
  refine ⟨hO, vMet.of (ini := false) X0 (plainFor_of_name (by decide +kernel)) (Nat.le_of_ble_eq_true rfl) (fun h => by cases h) (fun X ls hb hl => ?_) rfl⟩
  show V X (cX1_setsIn, RX1, 3, 1, 23, false) (vRet sF (some (.int r)) (some .int)) sF s (G0 X 0 ls [])
  rw [← hb] at hl
  have hl : lv_has ls 3 [(0, .ref (xb X + a0)), (1, .int l1), (2, .int l2)] := hl
  refine v_iload_n dX1_setsIn_0 rfl (lv_at hl 1 rfl) ?_
  refine v_aload_n dX1_setsIn_1 rfl (lv_at hl 0 rfl) ?_
  refine v_getI 1 1 h (by decide) (Or.inl rfl) qfX1_38 dX1_setsIn_2 (fun v1 h => ?_)
  refine v_isub dX1_setsIn_5 ?_
  refine v_iload_n dX1_setsIn_6 rfl (lv_at hl 2 rfl) ?_
  refine v_aload_n dX1_setsIn_7 rfl (lv_at hl 0 rfl) ?_
  refine v_getI 1 1 h (by decide) (Or.inl rfl) qfX1_38 dX1_setsIn_8 (fun v2 h => ?_)
  refine v_isub dX1_setsIn_11 ?_
  refine k_X1_ways h qmX1_116 (by decide) hl.1 (Nat.le_of_ble_eq_true rfl) dX1_setsIn_12 (fun v3 s h => ?_)
  exact v_iret dX1_setsIn_15 h
theorem k_X1_setsIn {X : VX} {cc : ByteArray} {own : String} {nL fr lo : Nat} {ini : Bool} {E : VX → Prop} {sF s : vS} {ρ : Type} {res : ρ} {pc : Nat} {ls : Array Slot} {rest : List Value} {N index : Nat} {a0 : Nat} {l1 : Int32} {l2 : Int32} {f : Int32 → vS → Option ρ} (h : bnd (F_X1_setsIn N a0 l1 l2 s) f = some res) (hlink : Cond.methodLink own index yX1_setsIn ∈ TT) (hR : 1 + 1 ≤ fr ∧ 8 + (3 + 11) + 23 ≤ lo) (hls : ls.size = nL) (hr : (rest.map fun v => v.category).sum ≤ 8) (hdg : decode cc pc = .ok (.invokevirtual index, 3)) (kk : ∀ r s', f r s' = some res → V X (cc, own, nL, fr, lo, ini) E sF s' (G0 X (pc + 3) ls (.int r :: rest))) : V X (cc, own, nL, fr, lo, ini) E sF s (G0 X pc ls (.int l2 :: .int l1 :: .ref (xb X + a0) :: rest)) := by
  obtain ⟨r, s', e, h⟩ := bnd_some h
  exact v_callV (b := a0) (ci := 1) (As := [.int l1, .int l2]) (rest := rest) (c_X1_setsIn X N a0 l1 l2 s s' r e).2 (c_X1_setsIn (l := xl X) (D := xD X) (ka := xka X) X N a0 l1 l2 s s' r e).1 rfl vl_X1_setsIn qi_X1_setsIn qe_X1_setsIn hlink hR rfl rfl hls hr hdg (kk r s' h)
theorem vl_X1_shareOf : vCl yX1_shareOf cX1_shareOf 5 none 4 := ⟨qy_X1_shareOf, qjX1, by decide +kernel, by decide +kernel, by decide +kernel⟩
set_option maxHeartbeats 4000000 in
set_option maxRecDepth 100000 in
theorem c_X1_shareOf {l : Launch} {D : va_G} {ka : Nat → ClassId} (X0 : VX) (N : Nat) (a0 : Nat) (l1 : Int32) (a2 : Nat) (l3 : Int32) (a4 : Nat) (s sF : vS) (r : Unit) (h : F_X1_shareOf N a0 l1 a2 l3 a4 s = some (r, sF)) : isO s a0 1 = true ∧ vMet l D ka (xb X0) yX1_shareOf cX1_shareOf 5 none 4 98 [.ref (xb X0 + a0), .int l1, .ref (xb X0 + a2), .int l3, .ref (xb X0 + a4)] s sF none := by
  unfold F_X1_shareOf at h
  unfold rcv at h
  obtain ⟨hO, h⟩ := v_chk h
  refine ⟨hO, vMet.of (ini := false) X0 (plainFor_of_name (by decide +kernel)) (Nat.le_of_ble_eq_true rfl) (fun h => by cases h) (fun X ls hb hl => ?_) rfl⟩
  show V X (cX1_shareOf, RX1, 5, 4, 98, false) (vRet sF none none) sF s (G0 X 0 ls [])
  rw [← hb] at hl
  have hl : lv_has ls 5 [(0, .ref (xb X + a0)), (1, .int l1), (2, .ref (xb X + a2)), (3, .int l3), (4, .ref (xb X + a4))] := hl
  refine v_aload_n dX1_shareOf_0 rfl (lv_at hl 0 rfl) ?_
  refine v_aload_n dX1_shareOf_1 rfl (lv_at hl 2 rfl) ?_
  refine v_iload_n dX1_shareOf_2 rfl (lv_at hl 3 rfl) ?_
  refine v_aload_n dX1_shareOf_3 rfl (lv_at hl 0 rfl) ?_
  refine v_getR 1 3 h (by decide) rfl qfX1_41 dX1_shareOf_4 (fun r1 h => ?_)
  refine v_iload_n dX1_shareOf_7 rfl (lv_at hl 1 rfl) ?_
  refine v_iald dX1_shareOf_8 h (fun v2 h => ?_)
  refine k_X1_tally h qmX1_120 (by decide) hl.1 (Nat.le_of_ble_eq_true rfl) dX1_shareOf_9 (fun v3 s h => ?_)
  refine v_aload dX1_shareOf_12 (lv_at hl 4 rfl) ?_
  refine v_aload_n dX1_shareOf_14 rfl (lv_at hl 0 rfl) ?_
  refine v_getR 1 10 h (by decide) rfl qfX1_56 dX1_shareOf_15 (fun r4 h => ?_)
  refine v_iload_n dX1_shareOf_18 rfl (lv_at hl 1 rfl) ?_
  refine v_iald dX1_shareOf_19 h (fun v5 h => ?_)
  refine v_i2l dX1_shareOf_20 ?_
  refine v_aload_n dX1_shareOf_21 rfl (lv_at hl 0 rfl) ?_
  refine v_aload_n dX1_shareOf_22 rfl (lv_at hl 2 rfl) ?_
  refine v_getI 3 0 h (by decide) (Or.inl rfl) qfX1_119 dX1_shareOf_23 (fun v6 h => ?_)
  refine v_aload_n dX1_shareOf_26 rfl (lv_at hl 0 rfl) ?_
  refine v_getR 1 3 h (by decide) rfl qfX1_41 dX1_shareOf_27 (fun r7 h => ?_)
  refine v_iload_n dX1_shareOf_30 rfl (lv_at hl 1 rfl) ?_
  refine v_iald dX1_shareOf_31 h (fun v8 h => ?_)
  refine k_X1_setsIn h qmX1_124 (by decide) hl.1 (Nat.le_of_ble_eq_true rfl) dX1_shareOf_32 (fun v9 s h => ?_)
  refine v_i2l dX1_shareOf_35 ?_
  refine k_X2_become h qmX1_127 (by decide) hl.1 (Nat.le_of_ble_eq_true rfl) dX1_shareOf_36 (fun v10 s h => ?_)
  exact v_vret dX1_shareOf_39 h
theorem k_X1_shareOf {X : VX} {cc : ByteArray} {own : String} {nL fr lo : Nat} {ini : Bool} {E : VX → Prop} {sF s : vS} {ρ : Type} {res : ρ} {pc : Nat} {ls : Array Slot} {rest : List Value} {N index : Nat} {a0 : Nat} {l1 : Int32} {a2 : Nat} {l3 : Int32} {a4 : Nat} {f : Unit → vS → Option ρ} (h : bnd (F_X1_shareOf N a0 l1 a2 l3 a4 s) f = some res) (hlink : Cond.methodLink own index yX1_shareOf ∈ TT) (hR : 4 + 1 ≤ fr ∧ 8 + (5 + 11) + 98 ≤ lo) (hls : ls.size = nL) (hr : (rest.map fun v => v.category).sum ≤ 8) (hdg : decode cc pc = .ok (.invokevirtual index, 3)) (kk : ∀ r s', f r s' = some res → V X (cc, own, nL, fr, lo, ini) E sF s' (G0 X (pc + 3) ls (rest))) : V X (cc, own, nL, fr, lo, ini) E sF s (G0 X pc ls (.ref (xb X + a4) :: .int l3 :: .ref (xb X + a2) :: .int l1 :: .ref (xb X + a0) :: rest)) := by
  obtain ⟨r, s', e, h⟩ := bnd_some h
  exact v_callV (b := a0) (ci := 1) (As := [.int l1, .ref (xb X + a2), .int l3, .ref (xb X + a4)]) (rest := rest) (c_X1_shareOf X N a0 l1 a2 l3 a4 s s' r e).2 (c_X1_shareOf (l := xl X) (D := xD X) (ka := xka X) X N a0 l1 a2 l3 a4 s s' r e).1 rfl vl_X1_shareOf qi_X1_shareOf qe_X1_shareOf hlink hR rfl rfl hls hr hdg (kk r s' h)
set_option maxHeartbeats 4000000 in
set_option maxRecDepth 100000 in
theorem L_X0_weigh_117 {X : VX} {sF : vS} {r : Int32} (N : Nat) (k38 : Nat → Nat → Nat → Int32 → Nat → Nat → Int32 → vS → Option (Int32 × vS)) (hk38 : ∀ (a0 : Nat) (a1 : Nat) (a2 : Nat) (l3 : Int32) (a4 : Nat) (a5 : Nat) (l6 : Int32) (s : vS) (ls : Array Slot), lv_has ls 7 [(0, .ref (xb X + a0)), (1, .ref (xb X + a1)), (2, .ref (xb X + a2)), (3, .int l3), (4, .ref (xb X + a4)), (5, .ref (xb X + a5)), (6, .int l6)] → k38 a0 a1 a2 l3 a4 a5 l6 s = some (r, sF) → V X (cX0_weigh, RX0, 7, 5, 122, false) (vRet sF (some (.int r)) (some .boolean)) sF s (G0 X 38 ls [])) (a0 : Nat) (a1 : Nat) (a2 : Nat) (l3 : Int32) (a4 : Nat) (a5 : Nat) (l6 : Int32) (s : vS) (ls : Array Slot) (hl : lv_has ls 7 [(0, .ref (xb X + a0)), (1, .ref (xb X + a1)), (2, .ref (xb X + a2)), (3, .int l3), (4, .ref (xb X + a4)), (5, .ref (xb X + a5)), (6, .int l6)]) (h : J_X0_weigh_117 N k38 a0 a1 a2 l3 a4 a5 l6 s = some (r, sF)) : V X (cX0_weigh, RX0, 7, 5, 122, false) (vRet sF (some (.int r)) (some .boolean)) sF s (G0 X 117 ls []) := by
  unfold J_X0_weigh_117 at h
  refine v_inc (fun z => [(6, .int z), (0, .ref (xb X + a0)), (1, .ref (xb X + a1)), (2, .ref (xb X + a2)), (3, .int l3), (4, .ref (xb X + a4)), (5, .ref (xb X + a5))]) dX0_weigh_117 h hl (k := 6) rfl (by rfl) (by decide) (fun _ => rfl) (fun l6_29 ls hl h => ?_)
  refine v_goto 38 dX0_weigh_120 (by decide) ?_
  exact hk38 a0 a1 a2 l3 a4 a5 l6_29 s ls (lv_sub hl [1, 2, 3, 4, 5, 6, 0] rfl) h
set_option maxHeartbeats 4000000 in
set_option maxRecDepth 100000 in
theorem L_X0_weigh_115 {X : VX} {sF : vS} {r : Int32} (N : Nat) (s : vS) (ls : Array Slot) (hl : lv_has ls 7 []) (h : J_X0_weigh_115 N  s = some (r, sF)) : V X (cX0_weigh, RX0, 7, 5, 122, false) (vRet sF (some (.int r)) (some .boolean)) sF s (G0 X 115 ls []) := by
  unfold J_X0_weigh_115 at h
  refine v_iconst (0 : Int32) dX0_weigh_115 (by decide) ?_
  exact v_zret dX0_weigh_116 h
set_option maxHeartbeats 4000000 in
set_option maxRecDepth 100000 in
theorem L_X0_weigh_38 {X : VX} {sF : vS} {r : Int32} (N : Nat) : ∀ (n : Nat) (a0 : Nat) (a1 : Nat) (a2 : Nat) (l3 : Int32) (a4 : Nat) (a5 : Nat) (l6 : Int32) (s : vS) (ls : Array Slot), lv_has ls 7 [(0, .ref (xb X + a0)), (1, .ref (xb X + a1)), (2, .ref (xb X + a2)), (3, .int l3), (4, .ref (xb X + a4)), (5, .ref (xb X + a5)), (6, .int l6)] → H_X0_weigh_38 N n a0 a1 a2 l3 a4 a5 l6 s = some (r, sF) → V X (cX0_weigh, RX0, 7, 5, 122, false) (vRet sF (some (.int r)) (some .boolean)) sF s (G0 X 38 ls []) := by
  intro n
  induction n with
  | zero => intro a0 a1 a2 l3 a4 a5 l6 s ls hl h; cases h
  | succ n ih =>
   intro a0 a1 a2 l3 a4 a5 l6 s ls hl h
   unfold H_X0_weigh_38 at h
   refine v_iload dX0_weigh_38 (lv_at hl 6 rfl) ?_
   refine v_aload dX0_weigh_40 (lv_at hl 5 rfl) ?_
   refine v_getI 1 2 h (by decide) (Or.inl rfl) qfX0_73 dX0_weigh_42 (fun v8 h => ?_)
   refine v_icmp_ge 123 dX0_weigh_45 (by decide) h (fun h => ?_) (fun h => ?_)
   · refine v_aload dX0_weigh_123 (lv_at hl 4 rfl) ?_
     refine v_aload_n dX0_weigh_125 rfl (lv_at hl 0 rfl) ?_
     refine v_getR 0 4 h (by decide) rfl qfX0_21 dX0_weigh_126 (fun r9 h => ?_)
     refine v_getR 6 1 h (by decide) rfl qfX0_74 dX0_weigh_129 (fun r10 h => ?_)
     refine v_iconst (0 : Int32) dX0_weigh_132 (by decide) ?_
     refine v_lald dX0_weigh_133 h (fun v11 h => ?_)
     refine v_aload_n dX0_weigh_134 rfl (lv_at hl 0 rfl) ?_
     refine v_getR 0 4 h (by decide) rfl qfX0_21 dX0_weigh_135 (fun r12 h => ?_)
     refine v_getR 6 2 h (by decide) rfl qfX0_113 dX0_weigh_138 (fun r13 h => ?_)
     refine v_iconst (0 : Int32) dX0_weigh_141 (by decide) ?_
     refine v_lald dX0_weigh_142 h (fun v14 h => ?_)
     refine k_X2_become h qmX0_45 (by decide) hl.1 (Nat.le_of_ble_eq_true rfl) dX0_weigh_143 (fun v15 s h => ?_)
     refine v_iconst (1 : Int32) dX0_weigh_146 (by decide) ?_
     exact v_zret dX0_weigh_147 h
   · refine v_aload_n dX0_weigh_48 rfl (lv_at hl 1 rfl) ?_
     refine v_getR 6 1 h (by decide) rfl qfX0_74 dX0_weigh_49 (fun r16 h => ?_)
     refine v_iload dX0_weigh_52 (lv_at hl 6 rfl) ?_
     refine v_lald dX0_weigh_54 h (fun v17 h => ?_)
     refine v_lconst (0 : Int64) dX0_weigh_55 (by decide) ?_
     refine v_lcmp dX0_weigh_56 ?_
     refine v_if_ne 63 dX0_weigh_57 (by decide) h (fun h => ?_) (fun h => ?_)
     · refine v_aload dX0_weigh_63 (lv_at hl 5 rfl) ?_
       refine v_iload dX0_weigh_65 (lv_at hl 6 rfl) ?_
       refine v_aload_n dX0_weigh_67 rfl (lv_at hl 2 rfl) ?_
       refine v_iload_n dX0_weigh_68 rfl (lv_at hl 3 rfl) ?_
       refine v_aload_n dX0_weigh_69 rfl (lv_at hl 0 rfl) ?_
       refine v_getR 0 6 h (by decide) rfl qfX0_32 dX0_weigh_70 (fun r18 h => ?_)
       refine k_X1_shareOf h qmX0_155 (by decide) hl.1 (Nat.le_of_ble_eq_true rfl) dX0_weigh_73 (fun v19 s h => ?_)
       refine v_aload_n dX0_weigh_76 rfl (lv_at hl 0 rfl) ?_
       refine v_getR 0 6 h (by decide) rfl qfX0_32 dX0_weigh_77 (fun r20 h => ?_)
       refine v_aload_n dX0_weigh_80 rfl (lv_at hl 1 rfl) ?_
       refine v_getR 6 1 h (by decide) rfl qfX0_74 dX0_weigh_81 (fun r21 h => ?_)
       refine v_iload dX0_weigh_84 (lv_at hl 6 rfl) ?_
       refine v_lald dX0_weigh_86 h (fun v22 h => ?_)
       refine v_aload_n dX0_weigh_87 rfl (lv_at hl 1 rfl) ?_
       refine v_getR 6 2 h (by decide) rfl qfX0_113 dX0_weigh_88 (fun r23 h => ?_)
       refine v_iload dX0_weigh_91 (lv_at hl 6 rfl) ?_
       refine v_lald dX0_weigh_93 h (fun v24 h => ?_)
       refine k_X2_times h qmX0_118 (by decide) hl.1 (Nat.le_of_ble_eq_true rfl) dX0_weigh_94 (fun v25 s h => ?_)
       refine v_if_eq 115 dX0_weigh_97 (by decide) h (fun h => ?_) (fun h => ?_)
       · exact L_X0_weigh_115 N  s ls (lv_sub hl [] rfl) h
       · refine v_aload_n dX0_weigh_100 rfl (lv_at hl 0 rfl) ?_
         refine v_getR 0 4 h (by decide) rfl qfX0_21 dX0_weigh_101 (fun r26 h => ?_)
         refine v_iconst (0 : Int32) dX0_weigh_104 (by decide) ?_
         refine v_aload_n dX0_weigh_105 rfl (lv_at hl 0 rfl) ?_
         refine v_getR 0 6 h (by decide) rfl qfX0_32 dX0_weigh_106 (fun r27 h => ?_)
         refine k_X6_add h qmX0_122 (by decide) hl.1 (Nat.le_of_ble_eq_true rfl) dX0_weigh_109 (fun v28 s h => ?_)
         refine v_if_ne 117 dX0_weigh_112 (by decide) h (fun h => ?_) (fun h => ?_)
         · exact L_X0_weigh_117 N (H_X0_weigh_38 N n) ih a0 a1 a2 l3 a4 a5 l6 s ls (lv_sub hl [0, 1, 2, 3, 4, 5, 6] rfl) h
         · exact L_X0_weigh_115 N  s ls (lv_sub hl [] rfl) h
     · refine v_goto 117 dX0_weigh_60 (by decide) ?_
       exact L_X0_weigh_117 N (H_X0_weigh_38 N n) ih a0 a1 a2 l3 a4 a5 l6 s ls (lv_sub hl [0, 1, 2, 3, 4, 5, 6] rfl) h
theorem vl_X0_weigh : vCl yX0_weigh cX0_weigh 7 (some .boolean) 4 := ⟨qy_X0_weigh, qjX0, by decide +kernel, by decide +kernel, by decide +kernel⟩
set_option maxHeartbeats 4000000 in
set_option maxRecDepth 100000 in
theorem c_X0_weigh {l : Launch} {D : va_G} {ka : Nat → ClassId} (X0 : VX) (N : Nat) (a0 : Nat) (a1 : Nat) (a2 : Nat) (l3 : Int32) (a4 : Nat) (s sF : vS) (r : Int32) (h : F_X0_weigh N a0 a1 a2 l3 a4 s = some (r, sF)) : isO s a0 0 = true ∧ vMet l D ka (xb X0) yX0_weigh cX0_weigh 7 (some .boolean) 5 122 [.ref (xb X0 + a0), .ref (xb X0 + a1), .ref (xb X0 + a2), .int l3, .ref (xb X0 + a4)] s sF (some (.int r)) := by
  unfold F_X0_weigh at h
  unfold rcv at h
  obtain ⟨hO, h⟩ := v_chk h
  refine ⟨hO, vMet.of (ini := false) X0 (plainFor_of_name (by decide +kernel)) (Nat.le_of_ble_eq_true rfl) (fun h => by cases h) (fun X ls hb hl => ?_) rfl⟩
  show V X (cX0_weigh, RX0, 7, 5, 122, false) (vRet sF (some (.int r)) (some .boolean)) sF s (G0 X 0 ls [])
  rw [← hb] at hl
  have hl : lv_has ls 7 [(0, .ref (xb X + a0)), (1, .ref (xb X + a1)), (2, .ref (xb X + a2)), (3, .int l3), (4, .ref (xb X + a4))] := hl
  refine v_aload_n dX0_weigh_0 rfl (lv_at hl 0 rfl) ?_
  refine v_aload_n dX0_weigh_1 rfl (lv_at hl 1 rfl) ?_
  refine v_aload_n dX0_weigh_2 rfl (lv_at hl 1 rfl) ?_
  refine v_getI 6 0 h (by decide) (Or.inl rfl) qfX0_87 dX0_weigh_3 (fun v1 h => ?_)
  refine k_X0_greatestSize h qmX0_90 (by decide) hl.1 (Nat.le_of_ble_eq_true rfl) dX0_weigh_6 (fun v2 s h => ?_)
  refine v_aload_n dX0_weigh_9 rfl (lv_at hl 2 rfl) ?_
  refine v_getI 3 0 h (by decide) (Or.inl rfl) qfX0_59 dX0_weigh_10 (fun v3 h => ?_)
  refine v_icmp_le 18 dX0_weigh_13 (by decide) h (fun h => ?_) (fun h => ?_)
  · refine v_aload_n dX0_weigh_18 rfl (lv_at hl 0 rfl) ?_
    refine v_aload_n dX0_weigh_19 rfl (lv_at hl 1 rfl) ?_
    refine v_getI 6 0 h (by decide) (Or.inl rfl) qfX0_87 dX0_weigh_20 (fun v4 h => ?_)
    refine k_X0_familyOf h qmX0_69 (by decide) hl.1 (Nat.le_of_ble_eq_true rfl) dX0_weigh_23 (fun r5 s h => ?_)
    refine v_astore [(5, .ref (xb X + r5)), (0, .ref (xb X + a0)), (1, .ref (xb X + a1)), (2, .ref (xb X + a2)), (3, .int l3), (4, .ref (xb X + a4))] dX0_weigh_26 hl (by decide) rfl (fun ls hl => ?_)
    refine v_aload_n dX0_weigh_28 rfl (lv_at hl 1 rfl) ?_
    refine v_getR 0 4 h (by decide) rfl qfX0_21 dX0_weigh_29 (fun r6 h => ?_)
    refine k_X6_empty h qmX0_126 (by decide) hl.1 (Nat.le_of_ble_eq_true rfl) dX0_weigh_32 (fun v7 s h => ?_)
    refine v_iconst (0 : Int32) dX0_weigh_35 (by decide) ?_
    refine v_istore [(6, .int (0 : Int32)), (5, .ref (xb X + r5)), (0, .ref (xb X + a0)), (1, .ref (xb X + a1)), (2, .ref (xb X + a2)), (3, .int l3), (4, .ref (xb X + a4))] dX0_weigh_36 hl (by decide) rfl (fun ls hl => ?_)
    exact L_X0_weigh_38 N N a0 a1 a2 l3 a4 r5 (0 : Int32) s ls (lv_sub hl [2, 3, 4, 5, 6, 1, 0] rfl) h
  · refine v_iconst (0 : Int32) dX0_weigh_16 (by decide) ?_
    exact v_zret dX0_weigh_17 h
theorem k_X0_weigh {X : VX} {cc : ByteArray} {own : String} {nL fr lo : Nat} {ini : Bool} {E : VX → Prop} {sF s : vS} {ρ : Type} {res : ρ} {pc : Nat} {ls : Array Slot} {rest : List Value} {N index : Nat} {a0 : Nat} {a1 : Nat} {a2 : Nat} {l3 : Int32} {a4 : Nat} {f : Int32 → vS → Option ρ} (h : bnd (F_X0_weigh N a0 a1 a2 l3 a4 s) f = some res) (hlink : Cond.methodLink own index yX0_weigh ∈ TT) (hR : 5 + 1 ≤ fr ∧ 8 + (7 + 11) + 122 ≤ lo) (hls : ls.size = nL) (hr : (rest.map fun v => v.category).sum ≤ 8) (hdg : decode cc pc = .ok (.invokevirtual index, 3)) (kk : ∀ r s', f r s' = some res → V X (cc, own, nL, fr, lo, ini) E sF s' (G0 X (pc + 3) ls (.int r :: rest))) : V X (cc, own, nL, fr, lo, ini) E sF s (G0 X pc ls (.ref (xb X + a4) :: .int l3 :: .ref (xb X + a2) :: .ref (xb X + a1) :: .ref (xb X + a0) :: rest)) := by
  obtain ⟨r, s', e, h⟩ := bnd_some h
  exact v_callV (b := a0) (ci := 0) (As := [.ref (xb X + a1), .ref (xb X + a2), .int l3, .ref (xb X + a4)]) (rest := rest) (c_X0_weigh X N a0 a1 a2 l3 a4 s s' r e).2 (c_X0_weigh (l := xl X) (D := xD X) (ka := xka X) X N a0 a1 a2 l3 a4 s s' r e).1 rfl vl_X0_weigh qi_X0_weigh qe_X0_weigh hlink hR rfl rfl hls hr hdg (kk r s' h)
theorem vl_X1_newName : vCl yX1_newName cX1_newName 2 (some .int) 2 := ⟨qy_X1_newName, qjX1, by decide +kernel, by decide +kernel, by decide +kernel⟩
set_option maxHeartbeats 4000000 in
set_option maxRecDepth 100000 in
theorem c_X1_newName {l : Launch} {D : va_G} {ka : Nat → ClassId} (X0 : VX) (N : Nat) (l0 : Int32) (l1 : Int32) (s sF : vS) (r : Int32) (h : F_X1_newName N l0 l1 s = some (r, sF)) : vMet l D ka (xb X0) yX1_newName cX1_newName 2 (some .int) 0 0 [.int l0, .int l1] s sF (some (.int r)) := by
  unfold F_X1_newName at h
  refine vMet.of (ini := false) X0 (plainFor_of_name (by decide +kernel)) (Nat.le_of_ble_eq_true rfl) (fun h => by cases h) (fun X ls hb hl => ?_) rfl
  show V X (cX1_newName, RX1, 2, 0, 0, false) (vRet sF (some (.int r)) (some .int)) sF s (G0 X 0 ls [])
  have hl : lv_has ls 2 [(0, .int l0), (1, .int l1)] := hl
  refine v_iload_n dX1_newName_0 rfl (lv_at hl 0 rfl) ?_
  refine v_iconst (2 : Int32) dX1_newName_1 (by decide) ?_
  refine v_iload_n dX1_newName_2 rfl (lv_at hl 1 rfl) ?_
  refine v_imul dX1_newName_3 ?_
  refine v_ishr dX1_newName_4 ?_
  refine v_iconst (3 : Int32) dX1_newName_5 (by decide) ?_
  refine v_iand dX1_newName_6 ?_
  exact v_iret dX1_newName_7 h
theorem k_X1_newName {X : VX} {cc : ByteArray} {own : String} {nL fr lo : Nat} {ini : Bool} {E : VX → Prop} {sF s : vS} {ρ : Type} {res : ρ} {pc : Nat} {ls : Array Slot} {rest : List Value} {N index : Nat} {l0 : Int32} {l1 : Int32} {f : Int32 → vS → Option ρ} (h : bnd (F_X1_newName N l0 l1 s) f = some res) (hlink : Cond.methodLink own index yX1_newName ∈ TT) (hR : 0 + 1 ≤ fr ∧ 8 + (2 + 11) + 0 ≤ lo) (hls : ls.size = nL) (hr : (rest.map fun v => v.category).sum ≤ 8) (hdg : decode cc pc = .ok (.invokestatic index, 3)) (kk : ∀ r s', f r s' = some res → V X (cc, own, nL, fr, lo, ini) E sF s' (G0 X (pc + 3) ls (.int r :: rest))) : V X (cc, own, nL, fr, lo, ini) E sF s (G0 X pc ls (.int l1 :: .int l0 :: rest)) := by
  obtain ⟨r, s', e, h⟩ := bnd_some h
  exact v_callS (As := [.int l0, .int l1]) (rest := rest) (c_X1_newName X N l0 l1 s s' r e) vl_X1_newName qs_X1_newName hlink hR rfl rfl hls hr hdg (kk r s' h)
set_option maxHeartbeats 4000000 in
set_option maxRecDepth 100000 in
theorem L_X1_allRenamings_63 {X : VX} {sF : vS} {r : Nat} (N : Nat) (k9 : Nat → Int32 → Int32 → vS → Option (Nat × vS)) (hk9 : ∀ (a0 : Nat) (l1 : Int32) (l2 : Int32) (s : vS) (ls : Array Slot), lv_has ls 5 [(0, .ref (xb X + a0)), (1, .int l1), (2, .int l2)] → k9 a0 l1 l2 s = some (r, sF) → V X (cX1_allRenamings, RX1, 5, 1, 21, false) (vRet sF (some (.ref (xb X + r))) (some (.array .int))) sF s (G0 X 9 ls [])) (a0 : Nat) (l1 : Int32) (l2 : Int32) (s : vS) (ls : Array Slot) (hl : lv_has ls 5 [(0, .ref (xb X + a0)), (1, .int l1), (2, .int l2)]) (h : J_X1_allRenamings_63 N k9 a0 l1 l2 s = some (r, sF)) : V X (cX1_allRenamings, RX1, 5, 1, 21, false) (vRet sF (some (.ref (xb X + r))) (some (.array .int))) sF s (G0 X 63 ls []) := by
  unfold J_X1_allRenamings_63 at h
  refine v_inc (fun z => [(2, .int z), (0, .ref (xb X + a0)), (1, .int l1)]) dX1_allRenamings_63 h hl (k := 2) rfl (by rfl) (by decide) (fun _ => rfl) (fun l2_7 ls hl h => ?_)
  refine v_goto 9 dX1_allRenamings_66 (by decide) ?_
  exact hk9 a0 l1 l2_7 s ls (lv_sub hl [1, 2, 0] rfl) h
set_option maxHeartbeats 4000000 in
set_option maxRecDepth 100000 in
theorem L_X1_allRenamings_21 {X : VX} {sF : vS} {r : Nat} (N : Nat) (k9 : Nat → Int32 → Int32 → vS → Option (Nat × vS)) (hk9 : ∀ (a0 : Nat) (l1 : Int32) (l2 : Int32) (s : vS) (ls : Array Slot), lv_has ls 5 [(0, .ref (xb X + a0)), (1, .int l1), (2, .int l2)] → k9 a0 l1 l2 s = some (r, sF) → V X (cX1_allRenamings, RX1, 5, 1, 21, false) (vRet sF (some (.ref (xb X + r))) (some (.array .int))) sF s (G0 X 9 ls [])) : ∀ (n : Nat) (a0 : Nat) (l1 : Int32) (l2 : Int32) (l3 : Int32) (l4 : Int32) (s : vS) (ls : Array Slot), lv_has ls 5 [(0, .ref (xb X + a0)), (1, .int l1), (2, .int l2), (3, .int l3), (4, .int l4)] → H_X1_allRenamings_21 N k9 n a0 l1 l2 l3 l4 s = some (r, sF) → V X (cX1_allRenamings, RX1, 5, 1, 21, false) (vRet sF (some (.ref (xb X + r))) (some (.array .int))) sF s (G0 X 21 ls []) := by
  intro n
  induction n with
  | zero => intro a0 l1 l2 l3 l4 s ls hl h; cases h
  | succ n ih =>
   intro a0 l1 l2 l3 l4 s ls hl h
   unfold H_X1_allRenamings_21 at h
   refine v_iload dX1_allRenamings_21 (lv_at hl 4 rfl) ?_
   refine v_iconst (4 : Int32) dX1_allRenamings_23 (by decide) ?_
   refine v_icmp_ge 44 dX1_allRenamings_24 (by decide) h (fun h => ?_) (fun h => ?_)
   · refine v_iload_n dX1_allRenamings_44 rfl (lv_at hl 3 rfl) ?_
     refine v_bipush (15 : Int32) dX1_allRenamings_45 (by decide) ?_
     refine v_icmp_ne 63 dX1_allRenamings_47 (by decide) h (fun h => ?_) (fun h => ?_)
     · exact L_X1_allRenamings_63 N k9 hk9 a0 l1 l2 s ls (lv_sub hl [0, 1, 2] rfl) h
     · refine v_iload_n dX1_allRenamings_50 rfl (lv_at hl 1 rfl) ?_
       refine v_aload_n dX1_allRenamings_51 rfl (lv_at hl 0 rfl) ?_
       refine v_alen dX1_allRenamings_52 h (fun v2 h => ?_)
       refine v_icmp_ge 63 dX1_allRenamings_53 (by decide) h (fun h => ?_) (fun h => ?_)
       · exact L_X1_allRenamings_63 N k9 hk9 a0 l1 l2 s ls (lv_sub hl [0, 1, 2] rfl) h
       · refine v_aload_n dX1_allRenamings_56 rfl (lv_at hl 0 rfl) ?_
         refine v_iload_n dX1_allRenamings_57 rfl (lv_at hl 1 rfl) ?_
         refine v_iload_n dX1_allRenamings_58 rfl (lv_at hl 2 rfl) ?_
         refine v_iast dX1_allRenamings_59 h (fun s h => ?_)
         refine v_inc (fun z => [(1, .int z), (0, .ref (xb X + a0)), (2, .int l2), (3, .int l3), (4, .int l4)]) dX1_allRenamings_60 h hl (k := 1) rfl (by rfl) (by decide) (fun _ => rfl) (fun l1_3 ls hl h => ?_)
         exact L_X1_allRenamings_63 N k9 hk9 a0 l1_3 l2 s ls (lv_sub hl [1, 0, 2] rfl) h
   · refine v_iload_n dX1_allRenamings_27 rfl (lv_at hl 3 rfl) ?_
     refine v_iconst (1 : Int32) dX1_allRenamings_28 (by decide) ?_
     refine v_iload_n dX1_allRenamings_29 rfl (lv_at hl 2 rfl) ?_
     refine v_iload dX1_allRenamings_30 (lv_at hl 4 rfl) ?_
     refine k_X1_newName h qmX1_99 (by decide) hl.1 (Nat.le_of_ble_eq_true rfl) dX1_allRenamings_32 (fun v4 s h => ?_)
     refine v_ishl dX1_allRenamings_35 ?_
     refine v_ior dX1_allRenamings_36 ?_
     refine v_nmI h (fun l3_5 h => ?_)
     refine v_istore_n [(3, .int l3_5), (0, .ref (xb X + a0)), (1, .int l1), (2, .int l2), (4, .int l4)] dX1_allRenamings_37 rfl hl (by decide) rfl (fun ls hl => ?_)
     refine v_inc (fun z => [(4, .int z), (3, .int l3_5), (0, .ref (xb X + a0)), (1, .int l1), (2, .int l2)]) dX1_allRenamings_38 h hl (k := 4) rfl (by rfl) (by decide) (fun _ => rfl) (fun l4_6 ls hl h => ?_)
     refine v_goto 21 dX1_allRenamings_41 (by decide) ?_
     exact ih a0 l1 l2 l3_5 l4_6 s ls (lv_sub hl [2, 3, 4, 1, 0] rfl) h
set_option maxHeartbeats 4000000 in
set_option maxRecDepth 100000 in
theorem L_X1_allRenamings_9 {X : VX} {sF : vS} {r : Nat} (N : Nat) : ∀ (n : Nat) (a0 : Nat) (l1 : Int32) (l2 : Int32) (s : vS) (ls : Array Slot), lv_has ls 5 [(0, .ref (xb X + a0)), (1, .int l1), (2, .int l2)] → H_X1_allRenamings_9 N n a0 l1 l2 s = some (r, sF) → V X (cX1_allRenamings, RX1, 5, 1, 21, false) (vRet sF (some (.ref (xb X + r))) (some (.array .int))) sF s (G0 X 9 ls []) := by
  intro n
  induction n with
  | zero => intro a0 l1 l2 s ls hl h; cases h
  | succ n ih =>
   intro a0 l1 l2 s ls hl h
   unfold H_X1_allRenamings_9 at h
   refine v_iload_n dX1_allRenamings_9 rfl (lv_at hl 2 rfl) ?_
   refine v_sipush (256 : Int32) dX1_allRenamings_10 (by decide) ?_
   refine v_icmp_ge 69 dX1_allRenamings_13 (by decide) h (fun h => ?_) (fun h => ?_)
   · refine v_aload_n dX1_allRenamings_69 rfl (lv_at hl 0 rfl) ?_
     exact v_aret rfl dX1_allRenamings_70 h
   · refine v_iconst (0 : Int32) dX1_allRenamings_16 (by decide) ?_
     refine v_istore_n [(3, .int (0 : Int32)), (0, .ref (xb X + a0)), (1, .int l1), (2, .int l2)] dX1_allRenamings_17 rfl hl (by decide) rfl (fun ls hl => ?_)
     refine v_iconst (0 : Int32) dX1_allRenamings_18 (by decide) ?_
     refine v_istore [(4, .int (0 : Int32)), (3, .int (0 : Int32)), (0, .ref (xb X + a0)), (1, .int l1), (2, .int l2)] dX1_allRenamings_19 hl (by decide) rfl (fun ls hl => ?_)
     exact L_X1_allRenamings_21 N (H_X1_allRenamings_9 N n) ih N a0 l1 l2 (0 : Int32) (0 : Int32) s ls (lv_sub hl [2, 3, 4, 1, 0] rfl) h
theorem vl_X1_allRenamings : vCl yX1_allRenamings cX1_allRenamings 5 (some (.array .int)) 0 := ⟨qy_X1_allRenamings, qjX1, by decide +kernel, by decide +kernel, by decide +kernel⟩
set_option maxHeartbeats 4000000 in
set_option maxRecDepth 100000 in
theorem c_X1_allRenamings {l : Launch} {D : va_G} {ka : Nat → ClassId} (X0 : VX) (N : Nat) (s sF : vS) (r : Nat) (h : F_X1_allRenamings N s = some (r, sF)) : vMet l D ka (xb X0) yX1_allRenamings cX1_allRenamings 5 (some (.array .int)) 1 21 [] s sF (some (.ref (xb X0 + r))) := by
  unfold F_X1_allRenamings at h
  refine vMet.of (ini := false) X0 (plainFor_of_name (by decide +kernel)) (Nat.le_of_ble_eq_true rfl) (fun h => by cases h) (fun X ls hb hl => ?_) rfl
  show V X (cX1_allRenamings, RX1, 5, 1, 21, false) (vRet sF (some (.ref (xb X0 + r))) (some (.array .int))) sF s (G0 X 0 ls [])
  rw [← hb] 
  have hl : lv_has ls 5 [] := hl
  refine v_bipush (24 : Int32) dX1_allRenamings_0 (by decide) ?_
  refine v_newa 1 h (by decide) qa_int dX1_allRenamings_2 (fun q1 s h => ?_)
  refine v_astore_n [(0, .ref (xb X + q1))] dX1_allRenamings_4 rfl hl (by decide) rfl (fun ls hl => ?_)
  refine v_iconst (0 : Int32) dX1_allRenamings_5 (by decide) ?_
  refine v_istore_n [(1, .int (0 : Int32)), (0, .ref (xb X + q1))] dX1_allRenamings_6 rfl hl (by decide) rfl (fun ls hl => ?_)
  refine v_iconst (0 : Int32) dX1_allRenamings_7 (by decide) ?_
  refine v_istore_n [(2, .int (0 : Int32)), (1, .int (0 : Int32)), (0, .ref (xb X + q1))] dX1_allRenamings_8 rfl hl (by decide) rfl (fun ls hl => ?_)
  exact L_X1_allRenamings_9 N N q1 (0 : Int32) (0 : Int32) s ls (lv_sub hl [2, 1, 0] rfl) h
theorem k_X1_allRenamings {X : VX} {cc : ByteArray} {own : String} {nL fr lo : Nat} {ini : Bool} {E : VX → Prop} {sF s : vS} {ρ : Type} {res : ρ} {pc : Nat} {ls : Array Slot} {rest : List Value} {N index : Nat} {f : Nat → vS → Option ρ} (h : bnd (F_X1_allRenamings N s) f = some res) (hlink : Cond.methodLink own index yX1_allRenamings ∈ TT) (hR : 1 + 1 ≤ fr ∧ 8 + (5 + 11) + 21 ≤ lo) (hls : ls.size = nL) (hr : (rest.map fun v => v.category).sum ≤ 8) (hdg : decode cc pc = .ok (.invokestatic index, 3)) (kk : ∀ r s', f r s' = some res → V X (cc, own, nL, fr, lo, ini) E sF s' (G0 X (pc + 3) ls (.ref (xb X + r) :: rest))) : V X (cc, own, nL, fr, lo, ini) E sF s (G0 X pc ls (rest)) := by
  obtain ⟨r, s', e, h⟩ := bnd_some h
  exact v_callS (As := []) (rest := rest) (c_X1_allRenamings X N s s' r e) vl_X1_allRenamings qs_X1_allRenamings hlink hR rfl rfl hls hr hdg (kk r s' h)
theorem vl_X1_codesOf : vCl yX1_codesOf cX1_codesOf 1 (some .int) 1 := ⟨qy_X1_codesOf, qjX1, by decide +kernel, by decide +kernel, by decide +kernel⟩
set_option maxHeartbeats 4000000 in
set_option maxRecDepth 100000 in
theorem c_X1_codesOf {l : Launch} {D : va_G} {ka : Nat → ClassId} (X0 : VX) (N : Nat) (l0 : Int32) (s sF : vS) (r : Int32) (h : F_X1_codesOf N l0 s = some (r, sF)) : vMet l D ka (xb X0) yX1_codesOf cX1_codesOf 1 (some .int) 0 0 [.int l0] s sF (some (.int r)) := by
  unfold F_X1_codesOf at h
  refine vMet.of (ini := false) X0 (plainFor_of_name (by decide +kernel)) (Nat.le_of_ble_eq_true rfl) (fun h => by cases h) (fun X ls hb hl => ?_) rfl
  show V X (cX1_codesOf, RX1, 1, 0, 0, false) (vRet sF (some (.int r)) (some .int)) sF s (G0 X 0 ls [])
  have hl : lv_has ls 1 [(0, .int l0)] := hl
  refine v_iconst (1 : Int32) dX1_codesOf_0 (by decide) ?_
  refine v_iload_n dX1_codesOf_1 rfl (lv_at hl 0 rfl) ?_
  refine v_iload_n dX1_codesOf_2 rfl (lv_at hl 0 rfl) ?_
  refine v_iconst (1 : Int32) dX1_codesOf_3 (by decide) ?_
  refine v_isub dX1_codesOf_4 ?_
  refine v_imul dX1_codesOf_5 ?_
  refine v_iconst (2 : Int32) dX1_codesOf_6 (by decide) ?_
  refine v_idiv dX1_codesOf_7 h (fun h => ?_)
  refine v_ishl dX1_codesOf_8 ?_
  exact v_iret dX1_codesOf_9 h
theorem k_X1_codesOf {X : VX} {cc : ByteArray} {own : String} {nL fr lo : Nat} {ini : Bool} {E : VX → Prop} {sF s : vS} {ρ : Type} {res : ρ} {pc : Nat} {ls : Array Slot} {rest : List Value} {N index : Nat} {l0 : Int32} {f : Int32 → vS → Option ρ} (h : bnd (F_X1_codesOf N l0 s) f = some res) (hlink : Cond.methodLink own index yX1_codesOf ∈ TT) (hR : 0 + 1 ≤ fr ∧ 8 + (1 + 11) + 0 ≤ lo) (hls : ls.size = nL) (hr : (rest.map fun v => v.category).sum ≤ 8) (hdg : decode cc pc = .ok (.invokestatic index, 3)) (kk : ∀ r s', f r s' = some res → V X (cc, own, nL, fr, lo, ini) E sF s' (G0 X (pc + 3) ls (.int r :: rest))) : V X (cc, own, nL, fr, lo, ini) E sF s (G0 X pc ls (.int l0 :: rest)) := by
  obtain ⟨r, s', e, h⟩ := bnd_some h
  exact v_callS (As := [.int l0]) (rest := rest) (c_X1_codesOf X N l0 s s' r e) vl_X1_codesOf qs_X1_codesOf hlink hR rfl rfl hls hr hdg (kk r s' h)
set_option maxHeartbeats 4000000 in
set_option maxRecDepth 100000 in
theorem L_X1_suits_44 {X : VX} {sF : vS} {r : Int32} (N : Nat) (k0 : Int32) (s : vS) (ls : Array Slot) (hl : lv_has ls 4 []) (h : J_X1_suits_44 N k0 s = some (r, sF)) : V X (cX1_suits, RX1, 4, 1, 21, false) (vRet sF (some (.int r)) (some .boolean)) sF s (G0 X 44 ls [.int k0]) := by
  unfold J_X1_suits_44 at h
  exact v_zret dX1_suits_44 h
set_option maxHeartbeats 4000000 in
set_option maxRecDepth 100000 in
theorem L_X1_suits_39 {X : VX} {sF : vS} {r : Int32} (N : Nat) (s : vS) (ls : Array Slot) (hl : lv_has ls 4 []) (h : J_X1_suits_39 N  s = some (r, sF)) : V X (cX1_suits, RX1, 4, 1, 21, false) (vRet sF (some (.int r)) (some .boolean)) sF s (G0 X 39 ls []) := by
  unfold J_X1_suits_39 at h
  refine v_iconst (1 : Int32) dX1_suits_39 (by decide) ?_
  refine v_goto 44 dX1_suits_40 (by decide) ?_
  exact L_X1_suits_44 N (1 : Int32) s ls (lv_sub hl [] rfl) h
set_option maxHeartbeats 4000000 in
set_option maxRecDepth 100000 in
theorem L_X1_suits_2 {X : VX} {sF : vS} {r : Int32} (N : Nat) : ∀ (n : Nat) (a0 : Nat) (l1 : Int32) (l3 : Int32) (s : vS) (ls : Array Slot), lv_has ls 4 [(0, .ref (xb X + a0)), (1, .int l1), (3, .int l3)] → H_X1_suits_2 N n a0 l1 l3 s = some (r, sF) → V X (cX1_suits, RX1, 4, 1, 21, false) (vRet sF (some (.int r)) (some .boolean)) sF s (G0 X 2 ls []) := by
  intro n
  induction n with
  | zero => intro a0 l1 l3 s ls hl h; cases h
  | succ n ih =>
   intro a0 l1 l3 s ls hl h
   unfold H_X1_suits_2 at h
   refine v_iload_n dX1_suits_2 rfl (lv_at hl 2 rfl) ?_
   refine v_iconst (4 : Int32) dX1_suits_3 (by decide) ?_
   refine v_icmp_ge 24 dX1_suits_4 (by decide) h (fun h => ?_) (fun h => ?_)
   · refine v_aload_n dX1_suits_24 rfl (lv_at hl 0 rfl) ?_
     refine v_getI 1 0 h (by decide) (Or.inr rfl) qfX1_31 dX1_suits_25 (fun v1 h => ?_)
     refine v_if_eq 39 dX1_suits_28 (by decide) h (fun h => ?_) (fun h => ?_)
     · exact L_X1_suits_39 N  s ls (lv_sub hl [] rfl) h
     · refine v_iload_n dX1_suits_31 rfl (lv_at hl 1 rfl) ?_
       refine v_iconst (0 : Int32) dX1_suits_32 (by decide) ?_
       refine k_X1_newName h qmX1_99 (by decide) hl.1 (Nat.le_of_ble_eq_true rfl) dX1_suits_33 (fun v2 s h => ?_)
       refine v_if_ne 43 dX1_suits_36 (by decide) h (fun h => ?_) (fun h => ?_)
       · refine v_iconst (0 : Int32) dX1_suits_43 (by decide) ?_
         exact L_X1_suits_44 N (0 : Int32) s ls (lv_sub hl [] rfl) h
       · exact L_X1_suits_39 N  s ls (lv_sub hl [] rfl) h
   · refine v_iload_n dX1_suits_7 rfl (lv_at hl 1 rfl) ?_
     refine v_iload_n dX1_suits_8 rfl (lv_at hl 2 rfl) ?_
     refine k_X1_newName h qmX1_99 (by decide) hl.1 (Nat.le_of_ble_eq_true rfl) dX1_suits_9 (fun v3 s h => ?_)
     refine v_iload_n dX1_suits_12 rfl (lv_at hl 2 rfl) ?_
     refine v_icmp_eq 18 dX1_suits_13 (by decide) h (fun h => ?_) (fun h => ?_)
     · refine v_inc (fun z => [(3, .int z), (0, .ref (xb X + a0)), (1, .int l1)]) dX1_suits_18 h hl (k := 2) rfl (by rfl) (by decide) (fun _ => rfl) (fun l3_4 ls hl h => ?_)
       refine v_goto 2 dX1_suits_21 (by decide) ?_
       exact ih a0 l1 l3_4 s ls (lv_sub hl [1, 2, 0] rfl) h
     · refine v_iconst (0 : Int32) dX1_suits_16 (by decide) ?_
       exact v_zret dX1_suits_17 h
theorem vl_X1_suits : vCl yX1_suits cX1_suits 4 (some .boolean) 2 := ⟨qy_X1_suits, qjX1, by decide +kernel, by decide +kernel, by decide +kernel⟩
set_option maxHeartbeats 4000000 in
set_option maxRecDepth 100000 in
theorem c_X1_suits {l : Launch} {D : va_G} {ka : Nat → ClassId} (X0 : VX) (N : Nat) (a0 : Nat) (l1 : Int32) (l2 : Int32) (s sF : vS) (r : Int32) (h : F_X1_suits N a0 l1 l2 s = some (r, sF)) : isO s a0 1 = true ∧ vMet l D ka (xb X0) yX1_suits cX1_suits 4 (some .boolean) 1 21 [.ref (xb X0 + a0), .int l1, .int l2] s sF (some (.int r)) := by
  unfold F_X1_suits at h
  unfold rcv at h
  obtain ⟨hO, h⟩ := v_chk h
  refine ⟨hO, vMet.of (ini := false) X0 (plainFor_of_name (by decide +kernel)) (Nat.le_of_ble_eq_true rfl) (fun h => by cases h) (fun X ls hb hl => ?_) rfl⟩
  show V X (cX1_suits, RX1, 4, 1, 21, false) (vRet sF (some (.int r)) (some .boolean)) sF s (G0 X 0 ls [])
  rw [← hb] at hl
  have hl : lv_has ls 4 [(0, .ref (xb X + a0)), (1, .int l1), (2, .int l2)] := hl
  refine v_iload_n dX1_suits_0 rfl (lv_at hl 2 rfl) ?_
  refine v_istore_n [(3, .int l2), (0, .ref (xb X + a0)), (1, .int l1), (2, .int l2)] dX1_suits_1 rfl hl (by decide) rfl (fun ls hl => ?_)
  exact L_X1_suits_2 N N a0 l1 l2 s ls (lv_sub hl [1, 2, 0] rfl) h
theorem k_X1_suits {X : VX} {cc : ByteArray} {own : String} {nL fr lo : Nat} {ini : Bool} {E : VX → Prop} {sF s : vS} {ρ : Type} {res : ρ} {pc : Nat} {ls : Array Slot} {rest : List Value} {N index : Nat} {a0 : Nat} {l1 : Int32} {l2 : Int32} {f : Int32 → vS → Option ρ} (h : bnd (F_X1_suits N a0 l1 l2 s) f = some res) (hlink : Cond.methodLink own index yX1_suits ∈ TT) (hR : 1 + 1 ≤ fr ∧ 8 + (4 + 11) + 21 ≤ lo) (hls : ls.size = nL) (hr : (rest.map fun v => v.category).sum ≤ 8) (hdg : decode cc pc = .ok (.invokevirtual index, 3)) (kk : ∀ r s', f r s' = some res → V X (cc, own, nL, fr, lo, ini) E sF s' (G0 X (pc + 3) ls (.int r :: rest))) : V X (cc, own, nL, fr, lo, ini) E sF s (G0 X pc ls (.int l2 :: .int l1 :: .ref (xb X + a0) :: rest)) := by
  obtain ⟨r, s', e, h⟩ := bnd_some h
  exact v_callV (b := a0) (ci := 1) (As := [.int l1, .int l2]) (rest := rest) (c_X1_suits X N a0 l1 l2 s s' r e).2 (c_X1_suits (l := xl X) (D := xD X) (ka := xka X) X N a0 l1 l2 s s' r e).1 rfl vl_X1_suits qi_X1_suits qe_X1_suits hlink hR rfl rfl hls hr hdg (kk r s' h)
set_option maxHeartbeats 4000000 in
set_option maxRecDepth 100000 in
theorem L_X1_renamed_51 {X : VX} {sF : vS} {r : Int32} (N : Nat) (k5 : Int32 → Int32 → Int32 → Int32 → Int32 → vS → Option (Int32 × vS)) (k14 : Int32 → Int32 → Int32 → Int32 → Int32 → Int32 → vS → Option (Int32 × vS)) (hk5 : ∀ (l0 : Int32) (l1 : Int32) (l2 : Int32) (l3 : Int32) (l4 : Int32) (s : vS) (ls : Array Slot), lv_has ls 6 [(0, .int l0), (1, .int l1), (2, .int l2), (3, .int l3), (4, .int l4)] → k5 l0 l1 l2 l3 l4 s = some (r, sF) → V X (cX1_renamed, RX1, 6, 1, 23, false) (vRet sF (some (.int r)) (some .int)) sF s (G0 X 5 ls [])) (hk14 : ∀ (l0 : Int32) (l1 : Int32) (l2 : Int32) (l3 : Int32) (l4 : Int32) (l5 : Int32) (s : vS) (ls : Array Slot), lv_has ls 6 [(0, .int l0), (1, .int l1), (2, .int l2), (3, .int l3), (4, .int l4), (5, .int l5)] → k14 l0 l1 l2 l3 l4 l5 s = some (r, sF) → V X (cX1_renamed, RX1, 6, 1, 23, false) (vRet sF (some (.int r)) (some .int)) sF s (G0 X 14 ls [])) (l0 : Int32) (l1 : Int32) (l2 : Int32) (l3 : Int32) (l4 : Int32) (l5 : Int32) (s : vS) (ls : Array Slot) (hl : lv_has ls 6 [(0, .int l0), (1, .int l1), (2, .int l2), (3, .int l3), (4, .int l4), (5, .int l5)]) (h : J_X1_renamed_51 N k5 k14 l0 l1 l2 l3 l4 l5 s = some (r, sF)) : V X (cX1_renamed, RX1, 6, 1, 23, false) (vRet sF (some (.int r)) (some .int)) sF s (G0 X 51 ls []) := by
  unfold J_X1_renamed_51 at h
  refine v_inc (fun z => [(5, .int z), (0, .int l0), (1, .int l1), (2, .int l2), (3, .int l3), (4, .int l4)]) dX1_renamed_51 h hl (k := 5) rfl (by rfl) (by decide) (fun _ => rfl) (fun l5_7 ls hl h => ?_)
  refine v_goto 14 dX1_renamed_54 (by decide) ?_
  exact hk14 l0 l1 l2 l3 l4 l5_7 s ls (lv_sub hl [1, 2, 3, 4, 5, 0] rfl) h
set_option maxHeartbeats 4000000 in
set_option maxRecDepth 100000 in
theorem L_X1_renamed_14 {X : VX} {sF : vS} {r : Int32} (N : Nat) (k5 : Int32 → Int32 → Int32 → Int32 → Int32 → vS → Option (Int32 × vS)) (hk5 : ∀ (l0 : Int32) (l1 : Int32) (l2 : Int32) (l3 : Int32) (l4 : Int32) (s : vS) (ls : Array Slot), lv_has ls 6 [(0, .int l0), (1, .int l1), (2, .int l2), (3, .int l3), (4, .int l4)] → k5 l0 l1 l2 l3 l4 s = some (r, sF) → V X (cX1_renamed, RX1, 6, 1, 23, false) (vRet sF (some (.int r)) (some .int)) sF s (G0 X 5 ls [])) : ∀ (n : Nat) (l0 : Int32) (l1 : Int32) (l2 : Int32) (l3 : Int32) (l4 : Int32) (l5 : Int32) (s : vS) (ls : Array Slot), lv_has ls 6 [(0, .int l0), (1, .int l1), (2, .int l2), (3, .int l3), (4, .int l4), (5, .int l5)] → H_X1_renamed_14 N k5 n l0 l1 l2 l3 l4 l5 s = some (r, sF) → V X (cX1_renamed, RX1, 6, 1, 23, false) (vRet sF (some (.int r)) (some .int)) sF s (G0 X 14 ls []) := by
  intro n
  induction n with
  | zero => intro l0 l1 l2 l3 l4 l5 s ls hl h; cases h
  | succ n ih =>
   intro l0 l1 l2 l3 l4 l5 s ls hl h
   unfold H_X1_renamed_14 at h
   refine v_iload dX1_renamed_14 (lv_at hl 5 rfl) ?_
   refine v_iload dX1_renamed_16 (lv_at hl 4 rfl) ?_
   refine v_icmp_ge 57 dX1_renamed_18 (by decide) h (fun h => ?_) (fun h => ?_)
   · refine v_inc (fun z => [(4, .int z), (0, .int l0), (1, .int l1), (2, .int l2), (3, .int l3), (5, .int l5)]) dX1_renamed_57 h hl (k := 4) rfl (by rfl) (by decide) (fun _ => rfl) (fun l4_1 ls hl h => ?_)
     refine v_goto 5 dX1_renamed_60 (by decide) ?_
     exact hk5 l0 l1 l2 l3 l4_1 s ls (lv_sub hl [1, 2, 3, 4, 0] rfl) h
   · refine v_iload_n dX1_renamed_21 rfl (lv_at hl 1 rfl) ?_
     refine v_iload dX1_renamed_22 (lv_at hl 5 rfl) ?_
     refine v_iload dX1_renamed_24 (lv_at hl 4 rfl) ?_
     refine k_X1_bitOf h qmX1_102 (by decide) hl.1 (Nat.le_of_ble_eq_true rfl) dX1_renamed_26 (fun v2 s h => ?_)
     refine v_iand dX1_renamed_29 ?_
     refine v_if_eq 51 dX1_renamed_30 (by decide) h (fun h => ?_) (fun h => ?_)
     · exact L_X1_renamed_51 N k5 (H_X1_renamed_14 N k5 n) hk5 ih l0 l1 l2 l3 l4 l5 s ls (lv_sub hl [0, 1, 2, 3, 4, 5] rfl) h
     · refine v_iload_n dX1_renamed_33 rfl (lv_at hl 3 rfl) ?_
       refine v_iload_n dX1_renamed_34 rfl (lv_at hl 2 rfl) ?_
       refine v_iload dX1_renamed_35 (lv_at hl 5 rfl) ?_
       refine k_X1_newName h qmX1_99 (by decide) hl.1 (Nat.le_of_ble_eq_true rfl) dX1_renamed_37 (fun v3 s h => ?_)
       refine v_iload_n dX1_renamed_40 rfl (lv_at hl 2 rfl) ?_
       refine v_iload dX1_renamed_41 (lv_at hl 4 rfl) ?_
       refine k_X1_newName h qmX1_99 (by decide) hl.1 (Nat.le_of_ble_eq_true rfl) dX1_renamed_43 (fun v4 s h => ?_)
       refine k_X1_bitOf h qmX1_102 (by decide) hl.1 (Nat.le_of_ble_eq_true rfl) dX1_renamed_46 (fun v5 s h => ?_)
       refine v_ior dX1_renamed_49 ?_
       refine v_nmI h (fun l3_6 h => ?_)
       refine v_istore_n [(3, .int l3_6), (0, .int l0), (1, .int l1), (2, .int l2), (4, .int l4), (5, .int l5)] dX1_renamed_50 rfl hl (by decide) rfl (fun ls hl => ?_)
       exact L_X1_renamed_51 N k5 (H_X1_renamed_14 N k5 n) hk5 ih l0 l1 l2 l3_6 l4 l5 s ls (lv_sub hl [1, 2, 3, 0, 4, 5] rfl) h
set_option maxHeartbeats 4000000 in
set_option maxRecDepth 100000 in
theorem L_X1_renamed_5 {X : VX} {sF : vS} {r : Int32} (N : Nat) : ∀ (n : Nat) (l0 : Int32) (l1 : Int32) (l2 : Int32) (l3 : Int32) (l4 : Int32) (s : vS) (ls : Array Slot), lv_has ls 6 [(0, .int l0), (1, .int l1), (2, .int l2), (3, .int l3), (4, .int l4)] → H_X1_renamed_5 N n l0 l1 l2 l3 l4 s = some (r, sF) → V X (cX1_renamed, RX1, 6, 1, 23, false) (vRet sF (some (.int r)) (some .int)) sF s (G0 X 5 ls []) := by
  intro n
  induction n with
  | zero => intro l0 l1 l2 l3 l4 s ls hl h; cases h
  | succ n ih =>
   intro l0 l1 l2 l3 l4 s ls hl h
   unfold H_X1_renamed_5 at h
   refine v_iload dX1_renamed_5 (lv_at hl 4 rfl) ?_
   refine v_iload_n dX1_renamed_7 rfl (lv_at hl 0 rfl) ?_
   refine v_icmp_ge 63 dX1_renamed_8 (by decide) h (fun h => ?_) (fun h => ?_)
   · refine v_iload_n dX1_renamed_63 rfl (lv_at hl 3 rfl) ?_
     exact v_iret dX1_renamed_64 h
   · refine v_iconst (0 : Int32) dX1_renamed_11 (by decide) ?_
     refine v_istore [(5, .int (0 : Int32)), (0, .int l0), (1, .int l1), (2, .int l2), (3, .int l3), (4, .int l4)] dX1_renamed_12 hl (by decide) rfl (fun ls hl => ?_)
     exact L_X1_renamed_14 N (H_X1_renamed_5 N n) ih N l0 l1 l2 l3 l4 (0 : Int32) s ls (lv_sub hl [1, 2, 3, 4, 5, 0] rfl) h
theorem vl_X1_renamed : vCl yX1_renamed cX1_renamed 6 (some .int) 3 := ⟨qy_X1_renamed, qjX1, by decide +kernel, by decide +kernel, by decide +kernel⟩
set_option maxHeartbeats 4000000 in
set_option maxRecDepth 100000 in
theorem c_X1_renamed {l : Launch} {D : va_G} {ka : Nat → ClassId} (X0 : VX) (N : Nat) (l0 : Int32) (l1 : Int32) (l2 : Int32) (s sF : vS) (r : Int32) (h : F_X1_renamed N l0 l1 l2 s = some (r, sF)) : vMet l D ka (xb X0) yX1_renamed cX1_renamed 6 (some .int) 1 23 [.int l0, .int l1, .int l2] s sF (some (.int r)) := by
  unfold F_X1_renamed at h
  refine vMet.of (ini := false) X0 (plainFor_of_name (by decide +kernel)) (Nat.le_of_ble_eq_true rfl) (fun h => by cases h) (fun X ls hb hl => ?_) rfl
  show V X (cX1_renamed, RX1, 6, 1, 23, false) (vRet sF (some (.int r)) (some .int)) sF s (G0 X 0 ls [])
  have hl : lv_has ls 6 [(0, .int l0), (1, .int l1), (2, .int l2)] := hl
  refine v_iconst (0 : Int32) dX1_renamed_0 (by decide) ?_
  refine v_istore_n [(3, .int (0 : Int32)), (0, .int l0), (1, .int l1), (2, .int l2)] dX1_renamed_1 rfl hl (by decide) rfl (fun ls hl => ?_)
  refine v_iconst (1 : Int32) dX1_renamed_2 (by decide) ?_
  refine v_istore [(4, .int (1 : Int32)), (3, .int (0 : Int32)), (0, .int l0), (1, .int l1), (2, .int l2)] dX1_renamed_3 hl (by decide) rfl (fun ls hl => ?_)
  exact L_X1_renamed_5 N N l0 l1 l2 (0 : Int32) (1 : Int32) s ls (lv_sub hl [2, 3, 4, 1, 0] rfl) h
theorem k_X1_renamed {X : VX} {cc : ByteArray} {own : String} {nL fr lo : Nat} {ini : Bool} {E : VX → Prop} {sF s : vS} {ρ : Type} {res : ρ} {pc : Nat} {ls : Array Slot} {rest : List Value} {N index : Nat} {l0 : Int32} {l1 : Int32} {l2 : Int32} {f : Int32 → vS → Option ρ} (h : bnd (F_X1_renamed N l0 l1 l2 s) f = some res) (hlink : Cond.methodLink own index yX1_renamed ∈ TT) (hR : 1 + 1 ≤ fr ∧ 8 + (6 + 11) + 23 ≤ lo) (hls : ls.size = nL) (hr : (rest.map fun v => v.category).sum ≤ 8) (hdg : decode cc pc = .ok (.invokestatic index, 3)) (kk : ∀ r s', f r s' = some res → V X (cc, own, nL, fr, lo, ini) E sF s' (G0 X (pc + 3) ls (.int r :: rest))) : V X (cc, own, nL, fr, lo, ini) E sF s (G0 X pc ls (.int l2 :: .int l1 :: .int l0 :: rest)) := by
  obtain ⟨r, s', e, h⟩ := bnd_some h
  exact v_callS (As := [.int l0, .int l1, .int l2]) (rest := rest) (c_X1_renamed X N l0 l1 l2 s s' r e) vl_X1_renamed qs_X1_renamed hlink hR rfl rfl hls hr hdg (kk r s' h)
set_option maxHeartbeats 4000000 in
set_option maxRecDepth 100000 in
theorem L_J9_min_7cf53_10 {X : VX} {sF : vS} {r : Int32} (N : Nat) (k0 : Int32) (s : vS) (ls : Array Slot) (hl : lv_has ls 2 []) (h : J_J9_min_7cf53_10 N k0 s = some (r, sF)) : V X (cJ9_min_7cf53, RJ9, 2, 0, 0, false) (vRet sF (some (.int r)) (some .int)) sF s (G0 X 10 ls [.int k0]) := by
  unfold J_J9_min_7cf53_10 at h
  exact v_iret dJ9_min_7cf53_10 h
theorem vl_J9_min_7cf53 : vCl yJ9_min_7cf53 cJ9_min_7cf53 2 (some .int) 2 := ⟨qy_J9_min_7cf53, qjJ9, by decide +kernel, by decide +kernel, by decide +kernel⟩
set_option maxHeartbeats 4000000 in
set_option maxRecDepth 100000 in
theorem c_J9_min_7cf53 {l : Launch} {D : va_G} {ka : Nat → ClassId} (X0 : VX) (N : Nat) (l0 : Int32) (l1 : Int32) (s sF : vS) (r : Int32) (h : F_J9_min_7cf53 N l0 l1 s = some (r, sF)) : vMet l D ka (xb X0) yJ9_min_7cf53 cJ9_min_7cf53 2 (some .int) 0 0 [.int l0, .int l1] s sF (some (.int r)) := by
  unfold F_J9_min_7cf53 at h
  refine vMet.of (ini := false) X0 (flPlain rfl (by decide +kernel)) (Nat.le_of_ble_eq_true rfl) (fun h => by cases h) (fun X ls hb hl => ?_) rfl
  show V X (cJ9_min_7cf53, RJ9, 2, 0, 0, false) (vRet sF (some (.int r)) (some .int)) sF s (G0 X 0 ls [])
  have hl : lv_has ls 2 [(0, .int l0), (1, .int l1)] := hl
  refine v_iload_n dJ9_min_7cf53_0 rfl (lv_at hl 0 rfl) ?_
  refine v_iload_n dJ9_min_7cf53_1 rfl (lv_at hl 1 rfl) ?_
  refine v_icmp_gt 9 dJ9_min_7cf53_2 (by decide) h (fun h => ?_) (fun h => ?_)
  · refine v_iload_n dJ9_min_7cf53_9 rfl (lv_at hl 1 rfl) ?_
    exact L_J9_min_7cf53_10 N l1 s ls (lv_sub hl [] rfl) h
  · refine v_iload_n dJ9_min_7cf53_5 rfl (lv_at hl 0 rfl) ?_
    refine v_goto 10 dJ9_min_7cf53_6 (by decide) ?_
    exact L_J9_min_7cf53_10 N l0 s ls (lv_sub hl [] rfl) h
theorem k_J9_min_7cf53 {X : VX} {cc : ByteArray} {own : String} {nL fr lo : Nat} {ini : Bool} {E : VX → Prop} {sF s : vS} {ρ : Type} {res : ρ} {pc : Nat} {ls : Array Slot} {rest : List Value} {N index : Nat} {l0 : Int32} {l1 : Int32} {f : Int32 → vS → Option ρ} (h : bnd (F_J9_min_7cf53 N l0 l1 s) f = some res) (hlink : Cond.methodLink own index yJ9_min_7cf53 ∈ TT) (hR : 0 + 1 ≤ fr ∧ 8 + (2 + 11) + 0 ≤ lo) (hls : ls.size = nL) (hr : (rest.map fun v => v.category).sum ≤ 8) (hdg : decode cc pc = .ok (.invokestatic index, 3)) (kk : ∀ r s', f r s' = some res → V X (cc, own, nL, fr, lo, ini) E sF s' (G0 X (pc + 3) ls (.int r :: rest))) : V X (cc, own, nL, fr, lo, ini) E sF s (G0 X pc ls (.int l1 :: .int l0 :: rest)) := by
  obtain ⟨r, s', e, h⟩ := bnd_some h
  exact v_callS (As := [.int l0, .int l1]) (rest := rest) (c_J9_min_7cf53 X N l0 l1 s s' r e) vl_J9_min_7cf53 qs_J9_min_7cf53 hlink hR rfl rfl hls hr hdg (kk r s' h)
set_option maxHeartbeats 4000000 in
set_option maxRecDepth 100000 in
theorem L_X1_leastCode_52 {X : VX} {sF : vS} {r : Int32} (N : Nat) (k16 : Nat → Int32 → Int32 → Int32 → Nat → Int32 → Int32 → vS → Option (Int32 × vS)) (hk16 : ∀ (a0 : Nat) (l1 : Int32) (l2 : Int32) (l3 : Int32) (a4 : Nat) (l5 : Int32) (l6 : Int32) (s : vS) (ls : Array Slot), lv_has ls 8 [(0, .ref (xb X + a0)), (1, .int l1), (2, .int l2), (3, .int l3), (4, .ref (xb X + a4)), (5, .int l5), (6, .int l6)] → k16 a0 l1 l2 l3 a4 l5 l6 s = some (r, sF) → V X (cX1_leastCode, RX1, 8, 2, 48, false) (vRet sF (some (.int r)) (some .int)) sF s (G0 X 16 ls [])) (a0 : Nat) (l1 : Int32) (l2 : Int32) (l3 : Int32) (a4 : Nat) (l5 : Int32) (l6 : Int32) (s : vS) (ls : Array Slot) (hl : lv_has ls 8 [(0, .ref (xb X + a0)), (1, .int l1), (2, .int l2), (3, .int l3), (4, .ref (xb X + a4)), (5, .int l5), (6, .int l6)]) (h : J_X1_leastCode_52 N k16 a0 l1 l2 l3 a4 l5 l6 s = some (r, sF)) : V X (cX1_leastCode, RX1, 8, 2, 48, false) (vRet sF (some (.int r)) (some .int)) sF s (G0 X 52 ls []) := by
  unfold J_X1_leastCode_52 at h
  refine v_inc (fun z => [(6, .int z), (0, .ref (xb X + a0)), (1, .int l1), (2, .int l2), (3, .int l3), (4, .ref (xb X + a4)), (5, .int l5)]) dX1_leastCode_52 h hl (k := 6) rfl (by rfl) (by decide) (fun _ => rfl) (fun l6_7 ls hl h => ?_)
  refine v_goto 16 dX1_leastCode_55 (by decide) ?_
  exact hk16 a0 l1 l2 l3 a4 l5 l6_7 s ls (lv_sub hl [1, 2, 3, 4, 5, 6, 0] rfl) h
set_option maxHeartbeats 4000000 in
set_option maxRecDepth 100000 in
theorem L_X1_leastCode_16 {X : VX} {sF : vS} {r : Int32} (N : Nat) : ∀ (n : Nat) (a0 : Nat) (l1 : Int32) (l2 : Int32) (l3 : Int32) (a4 : Nat) (l5 : Int32) (l6 : Int32) (s : vS) (ls : Array Slot), lv_has ls 8 [(0, .ref (xb X + a0)), (1, .int l1), (2, .int l2), (3, .int l3), (4, .ref (xb X + a4)), (5, .int l5), (6, .int l6)] → H_X1_leastCode_16 N n a0 l1 l2 l3 a4 l5 l6 s = some (r, sF) → V X (cX1_leastCode, RX1, 8, 2, 48, false) (vRet sF (some (.int r)) (some .int)) sF s (G0 X 16 ls []) := by
  intro n
  induction n with
  | zero => intro a0 l1 l2 l3 a4 l5 l6 s ls hl h; cases h
  | succ n ih =>
   intro a0 l1 l2 l3 a4 l5 l6 s ls hl h
   unfold H_X1_leastCode_16 at h
   refine v_iload dX1_leastCode_16 (lv_at hl 6 rfl) ?_
   refine v_iload dX1_leastCode_18 (lv_at hl 5 rfl) ?_
   refine v_icmp_ge 58 dX1_leastCode_20 (by decide) h (fun h => ?_) (fun h => ?_)
   · refine v_iload_n dX1_leastCode_58 rfl (lv_at hl 3 rfl) ?_
     exact v_iret dX1_leastCode_59 h
   · refine v_aload dX1_leastCode_23 (lv_at hl 4 rfl) ?_
     refine v_iload dX1_leastCode_25 (lv_at hl 6 rfl) ?_
     refine v_iald dX1_leastCode_27 h (fun v3 h => ?_)
     refine v_istore [(7, .int v3), (0, .ref (xb X + a0)), (1, .int l1), (2, .int l2), (3, .int l3), (4, .ref (xb X + a4)), (5, .int l5), (6, .int l6)] dX1_leastCode_28 hl (by decide) rfl (fun ls hl => ?_)
     refine v_aload_n dX1_leastCode_30 rfl (lv_at hl 1 rfl) ?_
     refine v_iload dX1_leastCode_31 (lv_at hl 0 rfl) ?_
     refine v_iload_n dX1_leastCode_33 rfl (lv_at hl 2 rfl) ?_
     refine k_X1_suits h qmX1_86 (by decide) hl.1 (Nat.le_of_ble_eq_true rfl) dX1_leastCode_34 (fun v4 s h => ?_)
     refine v_if_eq 52 dX1_leastCode_37 (by decide) h (fun h => ?_) (fun h => ?_)
     · exact L_X1_leastCode_52 N (H_X1_leastCode_16 N n) ih a0 l1 l2 l3 a4 l5 l6 s ls (lv_sub hl [1, 2, 3, 4, 5, 6, 7] rfl) h
     · refine v_iload_n dX1_leastCode_40 rfl (lv_at hl 4 rfl) ?_
       refine v_iload_n dX1_leastCode_41 rfl (lv_at hl 2 rfl) ?_
       refine v_iload_n dX1_leastCode_42 rfl (lv_at hl 3 rfl) ?_
       refine v_iload dX1_leastCode_43 (lv_at hl 0 rfl) ?_
       refine k_X1_renamed h qmX1_90 (by decide) hl.1 (Nat.le_of_ble_eq_true rfl) dX1_leastCode_45 (fun v5 s h => ?_)
       refine k_J9_min_7cf53 h qmX1_94 (by decide) hl.1 (Nat.le_of_ble_eq_true rfl) dX1_leastCode_48 (fun v6 s h => ?_)
       refine v_istore_n [(3, .int v6), (7, .int v3), (0, .ref (xb X + a0)), (1, .int l1), (2, .int l2), (4, .ref (xb X + a4)), (5, .int l5), (6, .int l6)] dX1_leastCode_51 rfl hl (by decide) rfl (fun ls hl => ?_)
       exact L_X1_leastCode_52 N (H_X1_leastCode_16 N n) ih a0 l1 l2 v6 a4 l5 l6 s ls (lv_sub hl [2, 3, 4, 0, 5, 6, 7] rfl) h
theorem vl_X1_leastCode : vCl yX1_leastCode cX1_leastCode 8 (some .int) 2 := ⟨qy_X1_leastCode, qjX1, by decide +kernel, by decide +kernel, by decide +kernel⟩
set_option maxHeartbeats 4000000 in
set_option maxRecDepth 100000 in
theorem c_X1_leastCode {l : Launch} {D : va_G} {ka : Nat → ClassId} (X0 : VX) (N : Nat) (a0 : Nat) (l1 : Int32) (l2 : Int32) (s sF : vS) (r : Int32) (h : F_X1_leastCode N a0 l1 l2 s = some (r, sF)) : isO s a0 1 = true ∧ vMet l D ka (xb X0) yX1_leastCode cX1_leastCode 8 (some .int) 2 48 [.ref (xb X0 + a0), .int l1, .int l2] s sF (some (.int r)) := by
  unfold F_X1_leastCode at h
  unfold rcv at h
  obtain ⟨hO, h⟩ := v_chk h
  refine ⟨hO, vMet.of (ini := false) X0 (plainFor_of_name (by decide +kernel)) (Nat.le_of_ble_eq_true rfl) (fun h => by cases h) (fun X ls hb hl => ?_) rfl⟩
  show V X (cX1_leastCode, RX1, 8, 2, 48, false) (vRet sF (some (.int r)) (some .int)) sF s (G0 X 0 ls [])
  rw [← hb] at hl
  have hl : lv_has ls 8 [(0, .ref (xb X + a0)), (1, .int l1), (2, .int l2)] := hl
  refine v_iload_n dX1_leastCode_0 rfl (lv_at hl 2 rfl) ?_
  refine v_istore_n [(3, .int l2), (0, .ref (xb X + a0)), (1, .int l1), (2, .int l2)] dX1_leastCode_1 rfl hl (by decide) rfl (fun ls hl => ?_)
  refine v_aload_n dX1_leastCode_2 rfl (lv_at hl 1 rfl) ?_
  refine v_getR 1 9 h (by decide) rfl qfX1_24 dX1_leastCode_3 (fun r1 h => ?_)
  refine v_astore [(4, .ref (xb X + r1)), (3, .int l2), (0, .ref (xb X + a0)), (1, .int l1), (2, .int l2)] dX1_leastCode_6 hl (by decide) rfl (fun ls hl => ?_)
  refine v_aload dX1_leastCode_8 (lv_at hl 0 rfl) ?_
  refine v_alen dX1_leastCode_10 h (fun v2 h => ?_)
  refine v_istore [(5, .int v2), (4, .ref (xb X + r1)), (3, .int l2), (0, .ref (xb X + a0)), (1, .int l1), (2, .int l2)] dX1_leastCode_11 hl (by decide) rfl (fun ls hl => ?_)
  refine v_iconst (0 : Int32) dX1_leastCode_13 (by decide) ?_
  refine v_istore [(6, .int (0 : Int32)), (5, .int v2), (4, .ref (xb X + r1)), (3, .int l2), (0, .ref (xb X + a0)), (1, .int l1), (2, .int l2)] dX1_leastCode_14 hl (by decide) rfl (fun ls hl => ?_)
  exact L_X1_leastCode_16 N N a0 l1 l2 l2 r1 v2 (0 : Int32) s ls (lv_sub hl [4, 5, 6, 3, 2, 1, 0] rfl) h
theorem k_X1_leastCode {X : VX} {cc : ByteArray} {own : String} {nL fr lo : Nat} {ini : Bool} {E : VX → Prop} {sF s : vS} {ρ : Type} {res : ρ} {pc : Nat} {ls : Array Slot} {rest : List Value} {N index : Nat} {a0 : Nat} {l1 : Int32} {l2 : Int32} {f : Int32 → vS → Option ρ} (h : bnd (F_X1_leastCode N a0 l1 l2 s) f = some res) (hlink : Cond.methodLink own index yX1_leastCode ∈ TT) (hR : 2 + 1 ≤ fr ∧ 8 + (8 + 11) + 48 ≤ lo) (hls : ls.size = nL) (hr : (rest.map fun v => v.category).sum ≤ 8) (hdg : decode cc pc = .ok (.invokevirtual index, 3)) (kk : ∀ r s', f r s' = some res → V X (cc, own, nL, fr, lo, ini) E sF s' (G0 X (pc + 3) ls (.int r :: rest))) : V X (cc, own, nL, fr, lo, ini) E sF s (G0 X pc ls (.int l2 :: .int l1 :: .ref (xb X + a0) :: rest)) := by
  obtain ⟨r, s', e, h⟩ := bnd_some h
  exact v_callV (b := a0) (ci := 1) (As := [.int l1, .int l2]) (rest := rest) (c_X1_leastCode X N a0 l1 l2 s s' r e).2 (c_X1_leastCode (l := xl X) (D := xD X) (ka := xka X) X N a0 l1 l2 s s' r e).1 rfl vl_X1_leastCode qi_X1_leastCode qe_X1_leastCode hlink hR rfl rfl hls hr hdg (kk r s' h)
set_option maxHeartbeats 4000000 in
set_option maxRecDepth 100000 in
theorem L_X1_numberAll_115 {X : VX} {sF : vS} {r : Unit} (N : Nat) (k4 : Nat → Int32 → Int32 → vS → Option (Unit × vS)) (k36 : Nat → Int32 → Int32 → Int32 → Int32 → vS → Option (Unit × vS)) (hk4 : ∀ (a0 : Nat) (l1 : Int32) (l2 : Int32) (s : vS) (ls : Array Slot), lv_has ls 6 [(0, .ref (xb X + a0)), (1, .int l1), (2, .int l2)] → k4 a0 l1 l2 s = some (r, sF) → V X (cX1_numberAll, RX1, 6, 3, 75, false) (vRet sF none none) sF s (G0 X 4 ls [])) (hk36 : ∀ (a0 : Nat) (l1 : Int32) (l2 : Int32) (l3 : Int32) (l4 : Int32) (s : vS) (ls : Array Slot), lv_has ls 6 [(0, .ref (xb X + a0)), (1, .int l1), (2, .int l2), (3, .int l3), (4, .int l4)] → k36 a0 l1 l2 l3 l4 s = some (r, sF) → V X (cX1_numberAll, RX1, 6, 3, 75, false) (vRet sF none none) sF s (G0 X 36 ls [])) (a0 : Nat) (l1 : Int32) (l2 : Int32) (l3 : Int32) (l4 : Int32) (s : vS) (ls : Array Slot) (hl : lv_has ls 6 [(0, .ref (xb X + a0)), (1, .int l1), (2, .int l2), (3, .int l3), (4, .int l4)]) (h : J_X1_numberAll_115 N k4 k36 a0 l1 l2 l3 l4 s = some (r, sF)) : V X (cX1_numberAll, RX1, 6, 3, 75, false) (vRet sF none none) sF s (G0 X 115 ls []) := by
  unfold J_X1_numberAll_115 at h
  refine v_inc (fun z => [(4, .int z), (0, .ref (xb X + a0)), (1, .int l1), (2, .int l2), (3, .int l3)]) dX1_numberAll_115 h hl (k := 4) rfl (by rfl) (by decide) (fun _ => rfl) (fun l4_18 ls hl h => ?_)
  refine v_goto 36 dX1_numberAll_118 (by decide) ?_
  exact hk36 a0 l1 l2 l3 l4_18 s ls (lv_sub hl [1, 2, 3, 4, 0] rfl) h
set_option maxHeartbeats 4000000 in
set_option maxRecDepth 100000 in
theorem L_X1_numberAll_97 {X : VX} {sF : vS} {r : Unit} (N : Nat) (k4 : Nat → Int32 → Int32 → vS → Option (Unit × vS)) (k36 : Nat → Int32 → Int32 → Int32 → Int32 → vS → Option (Unit × vS)) (hk4 : ∀ (a0 : Nat) (l1 : Int32) (l2 : Int32) (s : vS) (ls : Array Slot), lv_has ls 6 [(0, .ref (xb X + a0)), (1, .int l1), (2, .int l2)] → k4 a0 l1 l2 s = some (r, sF) → V X (cX1_numberAll, RX1, 6, 3, 75, false) (vRet sF none none) sF s (G0 X 4 ls [])) (hk36 : ∀ (a0 : Nat) (l1 : Int32) (l2 : Int32) (l3 : Int32) (l4 : Int32) (s : vS) (ls : Array Slot), lv_has ls 6 [(0, .ref (xb X + a0)), (1, .int l1), (2, .int l2), (3, .int l3), (4, .int l4)] → k36 a0 l1 l2 l3 l4 s = some (r, sF) → V X (cX1_numberAll, RX1, 6, 3, 75, false) (vRet sF none none) sF s (G0 X 36 ls [])) (a0 : Nat) (l1 : Int32) (l2 : Int32) (l3 : Int32) (l4 : Int32) (l5 : Int32) (s : vS) (ls : Array Slot) (hl : lv_has ls 6 [(0, .ref (xb X + a0)), (1, .int l1), (2, .int l2), (3, .int l3), (4, .int l4), (5, .int l5)]) (h : J_X1_numberAll_97 N k4 k36 a0 l1 l2 l3 l4 l5 s = some (r, sF)) : V X (cX1_numberAll, RX1, 6, 3, 75, false) (vRet sF none none) sF s (G0 X 97 ls []) := by
  unfold J_X1_numberAll_97 at h
  refine v_aload_n dX1_numberAll_97 rfl (lv_at hl 0 rfl) ?_
  refine v_getR 1 7 h (by decide) rfl qfX1_17 dX1_numberAll_98 (fun r13 h => ?_)
  refine v_iload_n dX1_numberAll_101 rfl (lv_at hl 2 rfl) ?_
  refine v_aald 6 dX1_numberAll_102 h (fun r14 h => ?_)
  refine v_iload dX1_numberAll_103 (lv_at hl 4 rfl) ?_
  refine v_aload_n dX1_numberAll_105 rfl (lv_at hl 0 rfl) ?_
  refine v_getR 1 7 h (by decide) rfl qfX1_17 dX1_numberAll_106 (fun r15 h => ?_)
  refine v_iload_n dX1_numberAll_109 rfl (lv_at hl 2 rfl) ?_
  refine v_aald 6 dX1_numberAll_110 h (fun r16 h => ?_)
  refine v_iload dX1_numberAll_111 (lv_at hl 5 rfl) ?_
  refine v_iald dX1_numberAll_113 h (fun v17 h => ?_)
  refine v_iast dX1_numberAll_114 h (fun s h => ?_)
  exact L_X1_numberAll_115 N k4 k36 hk4 hk36 a0 l1 l2 l3 l4 s ls (lv_sub hl [0, 1, 2, 3, 4] rfl) h
set_option maxHeartbeats 4000000 in
set_option maxRecDepth 100000 in
theorem L_X1_numberAll_36 {X : VX} {sF : vS} {r : Unit} (N : Nat) (k4 : Nat → Int32 → Int32 → vS → Option (Unit × vS)) (hk4 : ∀ (a0 : Nat) (l1 : Int32) (l2 : Int32) (s : vS) (ls : Array Slot), lv_has ls 6 [(0, .ref (xb X + a0)), (1, .int l1), (2, .int l2)] → k4 a0 l1 l2 s = some (r, sF) → V X (cX1_numberAll, RX1, 6, 3, 75, false) (vRet sF none none) sF s (G0 X 4 ls [])) : ∀ (n : Nat) (a0 : Nat) (l1 : Int32) (l2 : Int32) (l3 : Int32) (l4 : Int32) (s : vS) (ls : Array Slot), lv_has ls 6 [(0, .ref (xb X + a0)), (1, .int l1), (2, .int l2), (3, .int l3), (4, .int l4)] → H_X1_numberAll_36 N k4 n a0 l1 l2 l3 l4 s = some (r, sF) → V X (cX1_numberAll, RX1, 6, 3, 75, false) (vRet sF none none) sF s (G0 X 36 ls []) := by
  intro n
  induction n with
  | zero => intro a0 l1 l2 l3 l4 s ls hl h; cases h
  | succ n ih =>
   intro a0 l1 l2 l3 l4 s ls hl h
   unfold H_X1_numberAll_36 at h
   refine v_iload dX1_numberAll_36 (lv_at hl 4 rfl) ?_
   refine v_iload_n dX1_numberAll_38 rfl (lv_at hl 3 rfl) ?_
   refine v_icmp_ge 121 dX1_numberAll_39 (by decide) h (fun h => ?_) (fun h => ?_)
   · refine v_inc (fun z => [(2, .int z), (0, .ref (xb X + a0)), (1, .int l1), (3, .int l3), (4, .int l4)]) dX1_numberAll_121 h hl (k := 2) rfl (by rfl) (by decide) (fun _ => rfl) (fun l2_5 ls hl h => ?_)
     refine v_goto 4 dX1_numberAll_124 (by decide) ?_
     exact hk4 a0 l1 l2_5 s ls (lv_sub hl [1, 2, 0] rfl) h
   · refine v_aload_n dX1_numberAll_42 rfl (lv_at hl 0 rfl) ?_
     refine v_iload_n dX1_numberAll_43 rfl (lv_at hl 2 rfl) ?_
     refine v_iload dX1_numberAll_44 (lv_at hl 4 rfl) ?_
     refine k_X1_leastCode h qmX1_82 (by decide) hl.1 (Nat.le_of_ble_eq_true rfl) dX1_numberAll_46 (fun v6 s h => ?_)
     refine v_istore [(5, .int v6), (0, .ref (xb X + a0)), (1, .int l1), (2, .int l2), (3, .int l3), (4, .int l4)] dX1_numberAll_49 hl (by decide) rfl (fun ls hl => ?_)
     refine v_iload dX1_numberAll_51 (lv_at hl 0 rfl) ?_
     refine v_iload dX1_numberAll_53 (lv_at hl 5 rfl) ?_
     refine v_icmp_ne 97 dX1_numberAll_55 (by decide) h (fun h => ?_) (fun h => ?_)
     · exact L_X1_numberAll_97 N k4 (H_X1_numberAll_36 N k4 n) hk4 ih a0 l1 l2 l3 l4 v6 s ls (lv_sub hl [1, 2, 3, 4, 5, 0] rfl) h
     · refine v_iload_n dX1_numberAll_58 rfl (lv_at hl 2 rfl) ?_
       refine v_aload_n dX1_numberAll_59 rfl (lv_at hl 1 rfl) ?_
       refine v_getI 1 2 h (by decide) (Or.inl rfl) qfX1_35 dX1_numberAll_60 (fun v7 h => ?_)
       refine v_icmp_ge 97 dX1_numberAll_63 (by decide) h (fun h => ?_) (fun h => ?_)
       · exact L_X1_numberAll_97 N k4 (H_X1_numberAll_36 N k4 n) hk4 ih a0 l1 l2 l3 l4 v6 s ls (lv_sub hl [1, 2, 3, 4, 5, 0] rfl) h
       · refine v_aload_n dX1_numberAll_66 rfl (lv_at hl 1 rfl) ?_
         refine v_getR 1 3 h (by decide) rfl qfX1_41 dX1_numberAll_67 (fun r8 h => ?_)
         refine v_iload_n dX1_numberAll_70 rfl (lv_at hl 2 rfl) ?_
         refine v_iload_n dX1_numberAll_71 rfl (lv_at hl 3 rfl) ?_
         refine v_iast dX1_numberAll_72 h (fun s h => ?_)
         refine v_aload_n dX1_numberAll_73 rfl (lv_at hl 1 rfl) ?_
         refine v_getR 1 4 h (by decide) rfl qfX1_44 dX1_numberAll_74 (fun r9 h => ?_)
         refine v_iload_n dX1_numberAll_77 rfl (lv_at hl 2 rfl) ?_
         refine v_iload dX1_numberAll_78 (lv_at hl 5 rfl) ?_
         refine v_iast dX1_numberAll_80 h (fun s h => ?_)
         refine v_aload_n dX1_numberAll_81 rfl (lv_at hl 1 rfl) ?_
         refine v_getR 1 7 h (by decide) rfl qfX1_17 dX1_numberAll_82 (fun r10 h => ?_)
         refine v_iload_n dX1_numberAll_85 rfl (lv_at hl 3 rfl) ?_
         refine v_aald 6 dX1_numberAll_86 h (fun r11 h => ?_)
         refine v_iload dX1_numberAll_87 (lv_at hl 5 rfl) ?_
         refine v_iload_n dX1_numberAll_89 rfl (lv_at hl 2 rfl) ?_
         refine v_iast dX1_numberAll_90 h (fun s h => ?_)
         refine v_inc (fun z => [(1, .int z), (5, .int v6), (0, .ref (xb X + a0)), (2, .int l2), (3, .int l3), (4, .int l4)]) dX1_numberAll_91 h hl (k := 2) rfl (by rfl) (by decide) (fun _ => rfl) (fun l1_12 ls hl h => ?_)
         refine v_goto 115 dX1_numberAll_94 (by decide) ?_
         exact L_X1_numberAll_115 N k4 (H_X1_numberAll_36 N k4 n) hk4 ih a0 l1_12 l2 l3 l4 s ls (lv_sub hl [2, 0, 3, 4, 5] rfl) h
set_option maxHeartbeats 4000000 in
set_option maxRecDepth 100000 in
theorem L_X1_numberAll_32 {X : VX} {sF : vS} {r : Unit} (N : Nat) (k4 : Nat → Int32 → Int32 → vS → Option (Unit × vS)) (hk4 : ∀ (a0 : Nat) (l1 : Int32) (l2 : Int32) (s : vS) (ls : Array Slot), lv_has ls 6 [(0, .ref (xb X + a0)), (1, .int l1), (2, .int l2)] → k4 a0 l1 l2 s = some (r, sF) → V X (cX1_numberAll, RX1, 6, 3, 75, false) (vRet sF none none) sF s (G0 X 4 ls [])) (a0 : Nat) (l1 : Int32) (l2 : Int32) (k0 : Int32) (s : vS) (ls : Array Slot) (hl : lv_has ls 6 [(0, .ref (xb X + a0)), (1, .int l1), (2, .int l2)]) (h : J_X1_numberAll_32 N k4 a0 l1 l2 k0 s = some (r, sF)) : V X (cX1_numberAll, RX1, 6, 3, 75, false) (vRet sF none none) sF s (G0 X 32 ls [.int k0]) := by
  unfold J_X1_numberAll_32 at h
  refine v_istore_n [(3, .int k0), (0, .ref (xb X + a0)), (1, .int l1), (2, .int l2)] dX1_numberAll_32 rfl hl (by decide) rfl (fun ls hl => ?_)
  refine v_iconst (0 : Int32) dX1_numberAll_33 (by decide) ?_
  refine v_istore [(4, .int (0 : Int32)), (3, .int k0), (0, .ref (xb X + a0)), (1, .int l1), (2, .int l2)] dX1_numberAll_34 hl (by decide) rfl (fun ls hl => ?_)
  exact L_X1_numberAll_36 N k4 hk4 N a0 l1 l2 k0 (0 : Int32) s ls (lv_sub hl [2, 3, 4, 1, 0] rfl) h
set_option maxHeartbeats 4000000 in
set_option maxRecDepth 100000 in
theorem L_X1_numberAll_4 {X : VX} {sF : vS} {r : Unit} (N : Nat) : ∀ (n : Nat) (a0 : Nat) (l1 : Int32) (l2 : Int32) (s : vS) (ls : Array Slot), lv_has ls 6 [(0, .ref (xb X + a0)), (1, .int l1), (2, .int l2)] → H_X1_numberAll_4 N n a0 l1 l2 s = some (r, sF) → V X (cX1_numberAll, RX1, 6, 3, 75, false) (vRet sF none none) sF s (G0 X 4 ls []) := by
  intro n
  induction n with
  | zero => intro a0 l1 l2 s ls hl h; cases h
  | succ n ih =>
   intro a0 l1 l2 s ls hl h
   unfold H_X1_numberAll_4 at h
   refine v_iload_n dX1_numberAll_4 rfl (lv_at hl 2 rfl) ?_
   refine v_iconst (4 : Int32) dX1_numberAll_5 (by decide) ?_
   refine v_icmp_gt 127 dX1_numberAll_6 (by decide) h (fun h => ?_) (fun h => ?_)
   · refine v_aload_n dX1_numberAll_127 rfl (lv_at hl 0 rfl) ?_
     refine v_getR 1 6 h (by decide) rfl qfX1_9 dX1_numberAll_128 (fun r1 h => ?_)
     refine v_iconst (5 : Int32) dX1_numberAll_131 (by decide) ?_
     refine v_iload_n dX1_numberAll_132 rfl (lv_at hl 1 rfl) ?_
     refine v_iast dX1_numberAll_133 h (fun s h => ?_)
     exact v_vret dX1_numberAll_134 h
   · refine v_aload_n dX1_numberAll_9 rfl (lv_at hl 0 rfl) ?_
     refine v_getR 1 6 h (by decide) rfl qfX1_9 dX1_numberAll_10 (fun r2 h => ?_)
     refine v_iload_n dX1_numberAll_13 rfl (lv_at hl 2 rfl) ?_
     refine v_iload_n dX1_numberAll_14 rfl (lv_at hl 1 rfl) ?_
     refine v_iast dX1_numberAll_15 h (fun s h => ?_)
     refine v_aload_n dX1_numberAll_16 rfl (lv_at hl 0 rfl) ?_
     refine v_iload_n dX1_numberAll_17 rfl (lv_at hl 2 rfl) ?_
     refine k_X1_hasSize h qmX1_74 (by decide) hl.1 (Nat.le_of_ble_eq_true rfl) dX1_numberAll_18 (fun v3 s h => ?_)
     refine v_if_eq 31 dX1_numberAll_21 (by decide) h (fun h => ?_) (fun h => ?_)
     · refine v_iconst (0 : Int32) dX1_numberAll_31 (by decide) ?_
       exact L_X1_numberAll_32 N (H_X1_numberAll_4 N n) ih a0 l1 l2 (0 : Int32) s ls (lv_sub hl [0, 1, 2] rfl) h
     · refine v_iload_n dX1_numberAll_24 rfl (lv_at hl 2 rfl) ?_
       refine k_X1_codesOf h qmX1_78 (by decide) hl.1 (Nat.le_of_ble_eq_true rfl) dX1_numberAll_25 (fun v4 s h => ?_)
       refine v_goto 32 dX1_numberAll_28 (by decide) ?_
       exact L_X1_numberAll_32 N (H_X1_numberAll_4 N n) ih a0 l1 l2 v4 s ls (lv_sub hl [0, 1, 2] rfl) h
theorem vl_X1_numberAll : vCl yX1_numberAll cX1_numberAll 6 none 0 := ⟨qy_X1_numberAll, qjX1, by decide +kernel, by decide +kernel, by decide +kernel⟩
set_option maxHeartbeats 4000000 in
set_option maxRecDepth 100000 in
theorem c_X1_numberAll {l : Launch} {D : va_G} {ka : Nat → ClassId} (X0 : VX) (N : Nat) (a0 : Nat) (s sF : vS) (r : Unit) (h : F_X1_numberAll N a0 s = some (r, sF)) : isO s a0 1 = true ∧ vMet l D ka (xb X0) yX1_numberAll cX1_numberAll 6 none 3 75 [.ref (xb X0 + a0)] s sF none := by
  unfold F_X1_numberAll at h
  unfold rcv at h
  obtain ⟨hO, h⟩ := v_chk h
  refine ⟨hO, vMet.of (ini := false) X0 (plainFor_of_name (by decide +kernel)) (Nat.le_of_ble_eq_true rfl) (fun h => by cases h) (fun X ls hb hl => ?_) rfl⟩
  show V X (cX1_numberAll, RX1, 6, 3, 75, false) (vRet sF none none) sF s (G0 X 0 ls [])
  rw [← hb] at hl
  have hl : lv_has ls 6 [(0, .ref (xb X + a0))] := hl
  refine v_iconst (0 : Int32) dX1_numberAll_0 (by decide) ?_
  refine v_istore_n [(1, .int (0 : Int32)), (0, .ref (xb X + a0))] dX1_numberAll_1 rfl hl (by decide) rfl (fun ls hl => ?_)
  refine v_iconst (0 : Int32) dX1_numberAll_2 (by decide) ?_
  refine v_istore_n [(2, .int (0 : Int32)), (1, .int (0 : Int32)), (0, .ref (xb X + a0))] dX1_numberAll_3 rfl hl (by decide) rfl (fun ls hl => ?_)
  exact L_X1_numberAll_4 N N a0 (0 : Int32) (0 : Int32) s ls (lv_sub hl [2, 1, 0] rfl) h
theorem k_X1_numberAll {X : VX} {cc : ByteArray} {own : String} {nL fr lo : Nat} {ini : Bool} {E : VX → Prop} {sF s : vS} {ρ : Type} {res : ρ} {pc : Nat} {ls : Array Slot} {rest : List Value} {N index : Nat} {a0 : Nat} {f : Unit → vS → Option ρ} (h : bnd (F_X1_numberAll N a0 s) f = some res) (hlink : Cond.methodLink own index yX1_numberAll ∈ TT) (hR : 3 + 1 ≤ fr ∧ 8 + (6 + 11) + 75 ≤ lo) (hls : ls.size = nL) (hr : (rest.map fun v => v.category).sum ≤ 8) (hdg : decode cc pc = .ok (.invokevirtual index, 3)) (kk : ∀ r s', f r s' = some res → V X (cc, own, nL, fr, lo, ini) E sF s' (G0 X (pc + 3) ls (rest))) : V X (cc, own, nL, fr, lo, ini) E sF s (G0 X pc ls (.ref (xb X + a0) :: rest)) := by
  obtain ⟨r, s', e, h⟩ := bnd_some h
  exact v_callV (b := a0) (ci := 1) (As := []) (rest := rest) (c_X1_numberAll X N a0 s s' r e).2 (c_X1_numberAll (l := xl X) (D := xD X) (ka := xka X) X N a0 s s' r e).1 rfl vl_X1_numberAll qi_X1_numberAll qe_X1_numberAll hlink hR rfl rfl hls hr hdg (kk r s' h)
theorem vl_X3_init : vCl yX3_init cX3_init 1 none 0 := ⟨qy_X3_init, qjX3, by decide +kernel, by decide +kernel, by decide +kernel⟩
set_option maxHeartbeats 4000000 in
set_option maxRecDepth 100000 in
theorem c_X3_init {l : Launch} {D : va_G} {ka : Nat → ClassId} (X0 : VX) (N : Nat) (a0 : Nat) (s sF : vS) (r : Unit) (h : F_X3_init N a0 s = some (r, sF)) : isO s a0 3 = true ∧ vMet l D ka (xb X0) yX3_init cX3_init 1 none 1 20 [.ref (xb X0 + a0)] s sF none := by
  unfold F_X3_init at h
  unfold rcv at h
  obtain ⟨hO, h⟩ := v_chk h
  refine ⟨hO, vMet.of (ini := true) X0 (plainFor_of_name (by decide +kernel)) (Nat.le_of_ble_eq_true rfl) (fun _ => rfl) (fun X ls hb hl => ?_) rfl⟩
  show V X (cX3_init, RX3, 1, 1, 20, true) (vRet sF none none) sF s (G0 X 0 ls [])
  rw [← hb] at hl
  have hl : lv_has ls 1 [(0, .ref (xb X + a0))] := hl
  refine v_aload_n dX3_init_0 rfl (lv_at hl 0 rfl) ?_
  refine v_objI qmX3_3 qo_in qo_code hl.1 ⟨by decide, Nat.le_of_ble_eq_true rfl⟩ dX3_init_1 ?_
  refine v_aload_n dX3_init_4 rfl (lv_at hl 0 rfl) ?_
  refine v_iconst (0 : Int32) dX3_init_5 (by decide) ?_
  refine v_putI 3 0 h (by decide) rfl (Or.inl rfl) qfX3_9 dX3_init_6 (fun s h => ?_)
  refine v_aload_n dX3_init_9 rfl (lv_at hl 0 rfl) ?_
  refine v_bipush (8 : Int32) dX3_init_10 (by decide) ?_
  refine v_newa 1 h (by decide) qa_int dX3_init_12 (fun q1 s h => ?_)
  refine v_putR 3 1 h (by decide) rfl (Or.inr ⟨rfl, rfl, rfl⟩) qfX3_15 dX3_init_14 (fun s h => ?_)
  refine v_aload_n dX3_init_17 rfl (lv_at hl 0 rfl) ?_
  refine v_bipush (8 : Int32) dX3_init_18 (by decide) ?_
  refine v_newa 1 h (by decide) qa_int dX3_init_20 (fun q2 s h => ?_)
  refine v_putR 3 2 h (by decide) rfl (Or.inr ⟨rfl, rfl, rfl⟩) qfX3_19 dX3_init_22 (fun s h => ?_)
  exact v_vret dX3_init_25 h
theorem k_X3_init {X : VX} {cc : ByteArray} {own : String} {nL fr lo : Nat} {ini : Bool} {E : VX → Prop} {sF s : vS} {ρ : Type} {res : ρ} {pc : Nat} {ls : Array Slot} {rest : List Value} {N index : Nat} {a0 : Nat} {f : Unit → vS → Option ρ} (h : bnd (F_X3_init N a0 s) f = some res) (hlink : Cond.methodLink own index yX3_init ∈ TT) (hR : 1 + 1 ≤ fr ∧ 8 + (1 + 11) + 20 ≤ lo) (hls : ls.size = nL) (hr : (rest.map fun v => v.category).sum ≤ 8) (hdg : decode cc pc = .ok (.invokespecial index, 3)) (kk : ∀ r s', f r s' = some res → V X (cc, own, nL, fr, lo, ini) E sF s' (G0 X (pc + 3) ls (rest))) : V X (cc, own, nL, fr, lo, ini) E sF s (G0 X pc ls (.ref (xb X + a0) :: rest)) := by
  obtain ⟨r, s', e, h⟩ := bnd_some h
  exact v_callI (b := a0) (As := []) (rest := rest) (c_X3_init X N a0 s s' r e).2 rfl vl_X3_init qi_X3_init hlink hR rfl rfl hls hr hdg (kk r s' h)
theorem kn_X3_init_X1 {X : VX} {cc : ByteArray} {own : String} {nL fr lo : Nat} {ini : Bool} {E : VX → Prop} {sF s : vS} {ρ : Type} {res : ρ} {pc : Nat} {ls : Array Slot} {rest : List Value} {N index : Nat} {a0 : Nat} {f : Unit → vS → Option ρ} (h : bnd (F_X3_init N a0 s) f = some res) (hlink : Cond.methodLinkNest own index yX3_init RX8 ∈ nestW) (hR : 1 + 1 ≤ fr ∧ 8 + (1 + 11) + 20 ≤ lo) (hls : ls.size = nL) (hr : (rest.map fun v => v.category).sum ≤ 8) (hdg : decode cc pc = .ok (.invokespecial index, 3)) (kk : ∀ r s', f r s' = some res → V X (cc, own, nL, fr, lo, ini) E sF s' (G0 X (pc + 3) ls (rest))) : V X (cc, own, nL, fr, lo, ini) E sF s (G0 X pc ls (.ref (xb X + a0) :: rest)) := by
  obtain ⟨r, s', e, h⟩ := bnd_some h
  exact v_callIN (b := a0) (As := []) (rest := rest) (c_X3_init X N a0 s s' r e).2 rfl vl_X3_init qi_X3_init hlink hR rfl rfl hls hr hdg (kk r s' h)
theorem kn_X3_init_X8 {X : VX} {cc : ByteArray} {own : String} {nL fr lo : Nat} {ini : Bool} {E : VX → Prop} {sF s : vS} {ρ : Type} {res : ρ} {pc : Nat} {ls : Array Slot} {rest : List Value} {N index : Nat} {a0 : Nat} {f : Unit → vS → Option ρ} (h : bnd (F_X3_init N a0 s) f = some res) (hlink : Cond.methodLinkNest own index yX3_init RX8 ∈ nestW) (hR : 1 + 1 ≤ fr ∧ 8 + (1 + 11) + 20 ≤ lo) (hls : ls.size = nL) (hr : (rest.map fun v => v.category).sum ≤ 8) (hdg : decode cc pc = .ok (.invokespecial index, 3)) (kk : ∀ r s', f r s' = some res → V X (cc, own, nL, fr, lo, ini) E sF s' (G0 X (pc + 3) ls (rest))) : V X (cc, own, nL, fr, lo, ini) E sF s (G0 X pc ls (.ref (xb X + a0) :: rest)) := by
  obtain ⟨r, s', e, h⟩ := bnd_some h
  exact v_callIN (b := a0) (As := []) (rest := rest) (c_X3_init X N a0 s s' r e).2 rfl vl_X3_init qi_X3_init hlink hR rfl rfl hls hr hdg (kk r s' h)
set_option maxHeartbeats 4000000 in
set_option maxRecDepth 100000 in
theorem L_X3_startWith_16 {X : VX} {sF : vS} {r : Unit} (N : Nat) : ∀ (n : Nat) (a0 : Nat) (l2 : Int32) (s : vS) (ls : Array Slot), lv_has ls 3 [(0, .ref (xb X + a0)), (2, .int l2)] → H_X3_startWith_16 N n a0 l2 s = some (r, sF) → V X (cX3_startWith, RX3, 3, 1, 21, false) (vRet sF none none) sF s (G0 X 16 ls []) := by
  intro n
  induction n with
  | zero => intro a0 l2 s ls hl h; cases h
  | succ n ih =>
   intro a0 l2 s ls hl h
   unfold H_X3_startWith_16 at h
   refine v_iload_n dX3_startWith_16 rfl (lv_at hl 1 rfl) ?_
   refine v_bipush (8 : Int32) dX3_startWith_17 (by decide) ?_
   refine v_icmp_ge 35 dX3_startWith_19 (by decide) h (fun h => ?_) (fun h => ?_)
   · exact v_vret dX3_startWith_35 h
   · refine v_aload_n dX3_startWith_22 rfl (lv_at hl 0 rfl) ?_
     refine v_getR 3 1 h (by decide) rfl qfX3_15 dX3_startWith_23 (fun r3 h => ?_)
     refine v_iload_n dX3_startWith_26 rfl (lv_at hl 1 rfl) ?_
     refine v_iconst (0 : Int32) dX3_startWith_27 (by decide) ?_
     refine v_iast dX3_startWith_28 h (fun s h => ?_)
     refine v_inc (fun z => [(2, .int z), (0, .ref (xb X + a0))]) dX3_startWith_29 h hl (k := 1) rfl (by rfl) (by decide) (fun _ => rfl) (fun l2_4 ls hl h => ?_)
     refine v_goto 16 dX3_startWith_32 (by decide) ?_
     exact ih a0 l2_4 s ls (lv_sub hl [1, 0] rfl) h
theorem vl_X3_startWith : vCl yX3_startWith cX3_startWith 3 none 1 := ⟨qy_X3_startWith, qjX3, by decide +kernel, by decide +kernel, by decide +kernel⟩
set_option maxHeartbeats 4000000 in
set_option maxRecDepth 100000 in
theorem c_X3_startWith {l : Launch} {D : va_G} {ka : Nat → ClassId} (X0 : VX) (N : Nat) (a0 : Nat) (l1 : Int32) (s sF : vS) (r : Unit) (h : F_X3_startWith N a0 l1 s = some (r, sF)) : isO s a0 3 = true ∧ vMet l D ka (xb X0) yX3_startWith cX3_startWith 3 none 1 21 [.ref (xb X0 + a0), .int l1] s sF none := by
  unfold F_X3_startWith at h
  unfold rcv at h
  obtain ⟨hO, h⟩ := v_chk h
  refine ⟨hO, vMet.of (ini := false) X0 (plainFor_of_name (by decide +kernel)) (Nat.le_of_ble_eq_true rfl) (fun h => by cases h) (fun X ls hb hl => ?_) rfl⟩
  show V X (cX3_startWith, RX3, 3, 1, 21, false) (vRet sF none none) sF s (G0 X 0 ls [])
  rw [← hb] at hl
  have hl : lv_has ls 3 [(0, .ref (xb X + a0)), (1, .int l1)] := hl
  refine v_aload_n dX3_startWith_0 rfl (lv_at hl 0 rfl) ?_
  refine v_iconst (0 : Int32) dX3_startWith_1 (by decide) ?_
  refine v_iload_n dX3_startWith_2 rfl (lv_at hl 1 rfl) ?_
  refine v_bipush (8 : Int32) dX3_startWith_3 (by decide) ?_
  refine k_J9_min_7cf53 h qmX3_22 (by decide) hl.1 (Nat.le_of_ble_eq_true rfl) dX3_startWith_5 (fun v1 s h => ?_)
  refine k_J9_max_7cf53 h qmX3_28 (by decide) hl.1 (Nat.le_of_ble_eq_true rfl) dX3_startWith_8 (fun v2 s h => ?_)
  refine v_putI 3 0 h (by decide) rfl (Or.inl rfl) qfX3_9 dX3_startWith_11 (fun s h => ?_)
  refine v_iconst (0 : Int32) dX3_startWith_14 (by decide) ?_
  refine v_istore_n [(2, .int (0 : Int32)), (0, .ref (xb X + a0)), (1, .int l1)] dX3_startWith_15 rfl hl (by decide) rfl (fun ls hl => ?_)
  exact L_X3_startWith_16 N N a0 (0 : Int32) s ls (lv_sub hl [1, 0] rfl) h
theorem k_X3_startWith {X : VX} {cc : ByteArray} {own : String} {nL fr lo : Nat} {ini : Bool} {E : VX → Prop} {sF s : vS} {ρ : Type} {res : ρ} {pc : Nat} {ls : Array Slot} {rest : List Value} {N index : Nat} {a0 : Nat} {l1 : Int32} {f : Unit → vS → Option ρ} (h : bnd (F_X3_startWith N a0 l1 s) f = some res) (hlink : Cond.methodLink own index yX3_startWith ∈ TT) (hR : 1 + 1 ≤ fr ∧ 8 + (3 + 11) + 21 ≤ lo) (hls : ls.size = nL) (hr : (rest.map fun v => v.category).sum ≤ 8) (hdg : decode cc pc = .ok (.invokevirtual index, 3)) (kk : ∀ r s', f r s' = some res → V X (cc, own, nL, fr, lo, ini) E sF s' (G0 X (pc + 3) ls (rest))) : V X (cc, own, nL, fr, lo, ini) E sF s (G0 X pc ls (.int l1 :: .ref (xb X + a0) :: rest)) := by
  obtain ⟨r, s', e, h⟩ := bnd_some h
  exact v_callV (b := a0) (ci := 3) (As := [.int l1]) (rest := rest) (c_X3_startWith X N a0 l1 s s' r e).2 (c_X3_startWith (l := xl X) (D := xD X) (ka := xka X) X N a0 l1 s s' r e).1 rfl vl_X3_startWith qi_X3_startWith qe_X3_startWith hlink hR rfl rfl hls hr hdg (kk r s' h)
set_option maxHeartbeats 4000000 in
set_option maxRecDepth 100000 in
theorem L_X3_draw_86 {X : VX} {sF : vS} {r : Unit} (N : Nat) (k0 : Nat) (k1 : Int32) (k2 : Int32) (s : vS) (ls : Array Slot) (hl : lv_has ls 4 []) (h : J_X3_draw_86 N k0 k1 k2 s = some (r, sF)) : V X (cX3_draw, RX3, 4, 1, 21, false) (vRet sF none none) sF s (G0 X 86 ls [.int k2, .int k1, .ref (xb X + k0)]) := by
  unfold J_X3_draw_86 at h
  refine v_iast dX3_draw_86 h (fun s h => ?_)
  exact v_vret dX3_draw_87 h
set_option maxHeartbeats 4000000 in
set_option maxRecDepth 100000 in
theorem L_X3_draw_51 {X : VX} {sF : vS} {r : Unit} (N : Nat) (a0 : Nat) (l1 : Int32) (l2 : Int32) (l3 : Int32) (k0 : Nat) (k1 : Int32) (k2 : Int32) (s : vS) (ls : Array Slot) (hl : lv_has ls 4 [(0, .ref (xb X + a0)), (1, .int l1), (2, .int l2), (3, .int l3)]) (h : J_X3_draw_51 N a0 l1 l2 l3 k0 k1 k2 s = some (r, sF)) : V X (cX3_draw, RX3, 4, 1, 21, false) (vRet sF none none) sF s (G0 X 51 ls [.int k2, .int k1, .ref (xb X + k0)]) := by
  unfold J_X3_draw_51 at h
  refine v_iast dX3_draw_51 h (fun s h => ?_)
  refine v_aload_n dX3_draw_52 rfl (lv_at hl 0 rfl) ?_
  refine v_getR 3 1 h (by decide) rfl qfX3_15 dX3_draw_53 (fun r8 h => ?_)
  refine v_iload_n dX3_draw_56 rfl (lv_at hl 2 rfl) ?_
  refine v_iload_n dX3_draw_57 rfl (lv_at hl 3 rfl) ?_
  refine v_if_eq 74 dX3_draw_58 (by decide) h (fun h => ?_) (fun h => ?_)
  · refine v_aload_n dX3_draw_74 rfl (lv_at hl 0 rfl) ?_
    refine v_getR 3 1 h (by decide) rfl qfX3_15 dX3_draw_75 (fun r9 h => ?_)
    refine v_iload_n dX3_draw_78 rfl (lv_at hl 2 rfl) ?_
    refine v_iald dX3_draw_79 h (fun v10 h => ?_)
    refine v_iconst (1 : Int32) dX3_draw_80 (by decide) ?_
    refine v_iload_n dX3_draw_81 rfl (lv_at hl 1 rfl) ?_
    refine v_ishl dX3_draw_82 ?_
    refine v_iconst (-1 : Int32) dX3_draw_83 (by decide) ?_
    refine v_ixor dX3_draw_84 ?_
    refine v_iand dX3_draw_85 ?_
    exact L_X3_draw_86 N r8 l2 (v10 &&& (((1 : Int32) <<< (l1 &&& 31)) ^^^ (-1 : Int32))) s ls (lv_sub hl [] rfl) h
  · refine v_aload_n dX3_draw_61 rfl (lv_at hl 0 rfl) ?_
    refine v_getR 3 1 h (by decide) rfl qfX3_15 dX3_draw_62 (fun r11 h => ?_)
    refine v_iload_n dX3_draw_65 rfl (lv_at hl 2 rfl) ?_
    refine v_iald dX3_draw_66 h (fun v12 h => ?_)
    refine v_iconst (1 : Int32) dX3_draw_67 (by decide) ?_
    refine v_iload_n dX3_draw_68 rfl (lv_at hl 1 rfl) ?_
    refine v_ishl dX3_draw_69 ?_
    refine v_ior dX3_draw_70 ?_
    refine v_goto 86 dX3_draw_71 (by decide) ?_
    exact L_X3_draw_86 N r8 l2 (v12 ||| ((1 : Int32) <<< (l1 &&& 31))) s ls (lv_sub hl [] rfl) h
set_option maxHeartbeats 4000000 in
set_option maxRecDepth 100000 in
theorem L_X3_draw_16 {X : VX} {sF : vS} {r : Unit} (N : Nat) (s : vS) (ls : Array Slot) (hl : lv_has ls 4 []) (h : J_X3_draw_16 N  s = some (r, sF)) : V X (cX3_draw, RX3, 4, 1, 21, false) (vRet sF none none) sF s (G0 X 16 ls []) := by
  unfold J_X3_draw_16 at h
  exact v_vret dX3_draw_16 h
theorem vl_X3_draw : vCl yX3_draw cX3_draw 4 none 3 := ⟨qy_X3_draw, qjX3, by decide +kernel, by decide +kernel, by decide +kernel⟩
set_option maxHeartbeats 4000000 in
set_option maxRecDepth 100000 in
theorem c_X3_draw {l : Launch} {D : va_G} {ka : Nat → ClassId} (X0 : VX) (N : Nat) (a0 : Nat) (l1 : Int32) (l2 : Int32) (l3 : Int32) (s sF : vS) (r : Unit) (h : F_X3_draw N a0 l1 l2 l3 s = some (r, sF)) : isO s a0 3 = true ∧ vMet l D ka (xb X0) yX3_draw cX3_draw 4 none 1 21 [.ref (xb X0 + a0), .int l1, .int l2, .int l3] s sF none := by
  unfold F_X3_draw at h
  unfold rcv at h
  obtain ⟨hO, h⟩ := v_chk h
  refine ⟨hO, vMet.of (ini := false) X0 (plainFor_of_name (by decide +kernel)) (Nat.le_of_ble_eq_true rfl) (fun h => by cases h) (fun X ls hb hl => ?_) rfl⟩
  show V X (cX3_draw, RX3, 4, 1, 21, false) (vRet sF none none) sF s (G0 X 0 ls [])
  rw [← hb] at hl
  have hl : lv_has ls 4 [(0, .ref (xb X + a0)), (1, .int l1), (2, .int l2), (3, .int l3)] := hl
  refine v_aload_n dX3_draw_0 rfl (lv_at hl 0 rfl) ?_
  refine v_iload_n dX3_draw_1 rfl (lv_at hl 1 rfl) ?_
  refine k_X3_has h qmX3_44 (by decide) hl.1 (Nat.le_of_ble_eq_true rfl) dX3_draw_2 (fun v1 s h => ?_)
  refine v_if_eq 16 dX3_draw_5 (by decide) h (fun h => ?_) (fun h => ?_)
  · exact L_X3_draw_16 N  s ls (lv_sub hl [] rfl) h
  · refine v_aload_n dX3_draw_8 rfl (lv_at hl 0 rfl) ?_
    refine v_iload_n dX3_draw_9 rfl (lv_at hl 2 rfl) ?_
    refine k_X3_has h qmX3_44 (by decide) hl.1 (Nat.le_of_ble_eq_true rfl) dX3_draw_10 (fun v2 s h => ?_)
    refine v_if_ne 17 dX3_draw_13 (by decide) h (fun h => ?_) (fun h => ?_)
    · refine v_aload_n dX3_draw_17 rfl (lv_at hl 0 rfl) ?_
      refine v_getR 3 1 h (by decide) rfl qfX3_15 dX3_draw_18 (fun r3 h => ?_)
      refine v_iload_n dX3_draw_21 rfl (lv_at hl 1 rfl) ?_
      refine v_iload_n dX3_draw_22 rfl (lv_at hl 3 rfl) ?_
      refine v_if_eq 39 dX3_draw_23 (by decide) h (fun h => ?_) (fun h => ?_)
      · refine v_aload_n dX3_draw_39 rfl (lv_at hl 0 rfl) ?_
        refine v_getR 3 1 h (by decide) rfl qfX3_15 dX3_draw_40 (fun r4 h => ?_)
        refine v_iload_n dX3_draw_43 rfl (lv_at hl 1 rfl) ?_
        refine v_iald dX3_draw_44 h (fun v5 h => ?_)
        refine v_iconst (1 : Int32) dX3_draw_45 (by decide) ?_
        refine v_iload_n dX3_draw_46 rfl (lv_at hl 2 rfl) ?_
        refine v_ishl dX3_draw_47 ?_
        refine v_iconst (-1 : Int32) dX3_draw_48 (by decide) ?_
        refine v_ixor dX3_draw_49 ?_
        refine v_iand dX3_draw_50 ?_
        exact L_X3_draw_51 N a0 l1 l2 l3 r3 l1 (v5 &&& (((1 : Int32) <<< (l2 &&& 31)) ^^^ (-1 : Int32))) s ls (lv_sub hl [0, 1, 2, 3] rfl) h
      · refine v_aload_n dX3_draw_26 rfl (lv_at hl 0 rfl) ?_
        refine v_getR 3 1 h (by decide) rfl qfX3_15 dX3_draw_27 (fun r6 h => ?_)
        refine v_iload_n dX3_draw_30 rfl (lv_at hl 1 rfl) ?_
        refine v_iald dX3_draw_31 h (fun v7 h => ?_)
        refine v_iconst (1 : Int32) dX3_draw_32 (by decide) ?_
        refine v_iload_n dX3_draw_33 rfl (lv_at hl 2 rfl) ?_
        refine v_ishl dX3_draw_34 ?_
        refine v_ior dX3_draw_35 ?_
        refine v_goto 51 dX3_draw_36 (by decide) ?_
        exact L_X3_draw_51 N a0 l1 l2 l3 r3 l1 (v7 ||| ((1 : Int32) <<< (l2 &&& 31))) s ls (lv_sub hl [0, 1, 2, 3] rfl) h
    · exact L_X3_draw_16 N  s ls (lv_sub hl [] rfl) h
theorem k_X3_draw {X : VX} {cc : ByteArray} {own : String} {nL fr lo : Nat} {ini : Bool} {E : VX → Prop} {sF s : vS} {ρ : Type} {res : ρ} {pc : Nat} {ls : Array Slot} {rest : List Value} {N index : Nat} {a0 : Nat} {l1 : Int32} {l2 : Int32} {l3 : Int32} {f : Unit → vS → Option ρ} (h : bnd (F_X3_draw N a0 l1 l2 l3 s) f = some res) (hlink : Cond.methodLink own index yX3_draw ∈ TT) (hR : 1 + 1 ≤ fr ∧ 8 + (4 + 11) + 21 ≤ lo) (hls : ls.size = nL) (hr : (rest.map fun v => v.category).sum ≤ 8) (hdg : decode cc pc = .ok (.invokevirtual index, 3)) (kk : ∀ r s', f r s' = some res → V X (cc, own, nL, fr, lo, ini) E sF s' (G0 X (pc + 3) ls (rest))) : V X (cc, own, nL, fr, lo, ini) E sF s (G0 X pc ls (.int l3 :: .int l2 :: .int l1 :: .ref (xb X + a0) :: rest)) := by
  obtain ⟨r, s', e, h⟩ := bnd_some h
  exact v_callV (b := a0) (ci := 3) (As := [.int l1, .int l2, .int l3]) (rest := rest) (c_X3_draw X N a0 l1 l2 l3 s s' r e).2 (c_X3_draw (l := xl X) (D := xD X) (ka := xka X) X N a0 l1 l2 l3 s s' r e).1 rfl vl_X3_draw qi_X3_draw qe_X3_draw hlink hR rfl rfl hls hr hdg (kk r s' h)
set_option maxHeartbeats 4000000 in
set_option maxRecDepth 100000 in
theorem L_X3_unfold_44 {X : VX} {sF : vS} {r : Unit} (N : Nat) (k7 : Nat → Int32 → Int32 → vS → Option (Unit × vS)) (k18 : Nat → Int32 → Int32 → Int32 → vS → Option (Unit × vS)) (hk7 : ∀ (a0 : Nat) (l2 : Int32) (l3 : Int32) (s : vS) (ls : Array Slot), lv_has ls 5 [(0, .ref (xb X + a0)), (2, .int l2), (3, .int l3)] → k7 a0 l2 l3 s = some (r, sF) → V X (cX3_unfold, RX3, 5, 2, 44, false) (vRet sF none none) sF s (G0 X 7 ls [])) (hk18 : ∀ (a0 : Nat) (l2 : Int32) (l3 : Int32) (l4 : Int32) (s : vS) (ls : Array Slot), lv_has ls 5 [(0, .ref (xb X + a0)), (2, .int l2), (3, .int l3), (4, .int l4)] → k18 a0 l2 l3 l4 s = some (r, sF) → V X (cX3_unfold, RX3, 5, 2, 44, false) (vRet sF none none) sF s (G0 X 18 ls [])) (a0 : Nat) (l2 : Int32) (l3 : Int32) (l4 : Int32) (k0 : Nat) (k1 : Int32) (k2 : Int32) (k3 : Int32) (s : vS) (ls : Array Slot) (hl : lv_has ls 5 [(0, .ref (xb X + a0)), (2, .int l2), (3, .int l3), (4, .int l4)]) (h : J_X3_unfold_44 N k7 k18 a0 l2 l3 l4 k0 k1 k2 k3 s = some (r, sF)) : V X (cX3_unfold, RX3, 5, 2, 44, false) (vRet sF none none) sF s (G0 X 44 ls [.int k3, .int k2, .int k1, .ref (xb X + k0)]) := by
  unfold J_X3_unfold_44 at h
  refine k_X3_draw h qmX3_40 (by decide) hl.1 (Nat.le_of_ble_eq_true rfl) dX3_unfold_44 (fun v5 s h => ?_)
  refine v_inc (fun z => [(4, .int z), (0, .ref (xb X + a0)), (2, .int l2), (3, .int l3)]) dX3_unfold_47 h hl (k := 3) rfl (by rfl) (by decide) (fun _ => rfl) (fun l4_6 ls hl h => ?_)
  refine v_goto 18 dX3_unfold_50 (by decide) ?_
  exact hk18 a0 l2 l3 l4_6 s ls (lv_sub hl [1, 2, 3, 0] rfl) h
set_option maxHeartbeats 4000000 in
set_option maxRecDepth 100000 in
theorem L_X3_unfold_18 {X : VX} {sF : vS} {r : Unit} (N : Nat) (k7 : Nat → Int32 → Int32 → vS → Option (Unit × vS)) (hk7 : ∀ (a0 : Nat) (l2 : Int32) (l3 : Int32) (s : vS) (ls : Array Slot), lv_has ls 5 [(0, .ref (xb X + a0)), (2, .int l2), (3, .int l3)] → k7 a0 l2 l3 s = some (r, sF) → V X (cX3_unfold, RX3, 5, 2, 44, false) (vRet sF none none) sF s (G0 X 7 ls [])) : ∀ (n : Nat) (a0 : Nat) (l2 : Int32) (l3 : Int32) (l4 : Int32) (s : vS) (ls : Array Slot), lv_has ls 5 [(0, .ref (xb X + a0)), (2, .int l2), (3, .int l3), (4, .int l4)] → H_X3_unfold_18 N k7 n a0 l2 l3 l4 s = some (r, sF) → V X (cX3_unfold, RX3, 5, 2, 44, false) (vRet sF none none) sF s (G0 X 18 ls []) := by
  intro n
  induction n with
  | zero => intro a0 l2 l3 l4 s ls hl h; cases h
  | succ n ih =>
   intro a0 l2 l3 l4 s ls hl h
   unfold H_X3_unfold_18 at h
   refine v_iload dX3_unfold_18 (lv_at hl 3 rfl) ?_
   refine v_iload_n dX3_unfold_20 rfl (lv_at hl 2 rfl) ?_
   refine v_icmp_ge 53 dX3_unfold_21 (by decide) h (fun h => ?_) (fun h => ?_)
   · refine v_inc (fun z => [(3, .int z), (0, .ref (xb X + a0)), (2, .int l2), (4, .int l4)]) dX3_unfold_53 h hl (k := 2) rfl (by rfl) (by decide) (fun _ => rfl) (fun l3_3 ls hl h => ?_)
     refine v_goto 7 dX3_unfold_56 (by decide) ?_
     exact hk7 a0 l2 l3_3 s ls (lv_sub hl [1, 2, 0] rfl) h
   · refine v_aload_n dX3_unfold_24 rfl (lv_at hl 0 rfl) ?_
     refine v_iload dX3_unfold_25 (lv_at hl 3 rfl) ?_
     refine v_iload_n dX3_unfold_27 rfl (lv_at hl 2 rfl) ?_
     refine v_iload_n dX3_unfold_28 rfl (lv_at hl 1 rfl) ?_
     refine v_iload dX3_unfold_29 (lv_at hl 3 rfl) ?_
     refine v_iload_n dX3_unfold_31 rfl (lv_at hl 2 rfl) ?_
     refine k_X1_bitOf h qmX3_35 (by decide) hl.1 (Nat.le_of_ble_eq_true rfl) dX3_unfold_32 (fun v4 s h => ?_)
     refine v_iand dX3_unfold_35 ?_
     refine v_if_eq 43 dX3_unfold_36 (by decide) h (fun h => ?_) (fun h => ?_)
     · refine v_iconst (0 : Int32) dX3_unfold_43 (by decide) ?_
       exact L_X3_unfold_44 N k7 (H_X3_unfold_18 N k7 n) hk7 ih a0 l2 l3 l4 a0 l4 l3 (0 : Int32) s ls (lv_sub hl [0, 1, 2, 3] rfl) h
     · refine v_iconst (1 : Int32) dX3_unfold_39 (by decide) ?_
       refine v_goto 44 dX3_unfold_40 (by decide) ?_
       exact L_X3_unfold_44 N k7 (H_X3_unfold_18 N k7 n) hk7 ih a0 l2 l3 l4 a0 l4 l3 (1 : Int32) s ls (lv_sub hl [0, 1, 2, 3] rfl) h
set_option maxHeartbeats 4000000 in
set_option maxRecDepth 100000 in
theorem L_X3_unfold_7 {X : VX} {sF : vS} {r : Unit} (N : Nat) : ∀ (n : Nat) (a0 : Nat) (l2 : Int32) (l3 : Int32) (s : vS) (ls : Array Slot), lv_has ls 5 [(0, .ref (xb X + a0)), (2, .int l2), (3, .int l3)] → H_X3_unfold_7 N n a0 l2 l3 s = some (r, sF) → V X (cX3_unfold, RX3, 5, 2, 44, false) (vRet sF none none) sF s (G0 X 7 ls []) := by
  intro n
  induction n with
  | zero => intro a0 l2 l3 s ls hl h; cases h
  | succ n ih =>
   intro a0 l2 l3 s ls hl h
   unfold H_X3_unfold_7 at h
   refine v_iload_n dX3_unfold_7 rfl (lv_at hl 2 rfl) ?_
   refine v_aload_n dX3_unfold_8 rfl (lv_at hl 0 rfl) ?_
   refine v_getI 3 0 h (by decide) (Or.inl rfl) qfX3_9 dX3_unfold_9 (fun v2 h => ?_)
   refine v_icmp_ge 59 dX3_unfold_12 (by decide) h (fun h => ?_) (fun h => ?_)
   · exact v_vret dX3_unfold_59 h
   · refine v_iconst (0 : Int32) dX3_unfold_15 (by decide) ?_
     refine v_istore [(4, .int (0 : Int32)), (0, .ref (xb X + a0)), (2, .int l2), (3, .int l3)] dX3_unfold_16 hl (by decide) rfl (fun ls hl => ?_)
     exact L_X3_unfold_18 N (H_X3_unfold_7 N n) ih N a0 l2 l3 (0 : Int32) s ls (lv_sub hl [1, 2, 3, 0] rfl) h
theorem vl_X3_unfold : vCl yX3_unfold cX3_unfold 5 none 2 := ⟨qy_X3_unfold, qjX3, by decide +kernel, by decide +kernel, by decide +kernel⟩
set_option maxHeartbeats 4000000 in
set_option maxRecDepth 100000 in
theorem c_X3_unfold {l : Launch} {D : va_G} {ka : Nat → ClassId} (X0 : VX) (N : Nat) (a0 : Nat) (l1 : Int32) (l2 : Int32) (s sF : vS) (r : Unit) (h : F_X3_unfold N a0 l1 l2 s = some (r, sF)) : isO s a0 3 = true ∧ vMet l D ka (xb X0) yX3_unfold cX3_unfold 5 none 2 44 [.ref (xb X0 + a0), .int l1, .int l2] s sF none := by
  unfold F_X3_unfold at h
  unfold rcv at h
  obtain ⟨hO, h⟩ := v_chk h
  refine ⟨hO, vMet.of (ini := false) X0 (plainFor_of_name (by decide +kernel)) (Nat.le_of_ble_eq_true rfl) (fun h => by cases h) (fun X ls hb hl => ?_) rfl⟩
  show V X (cX3_unfold, RX3, 5, 2, 44, false) (vRet sF none none) sF s (G0 X 0 ls [])
  rw [← hb] at hl
  have hl : lv_has ls 5 [(0, .ref (xb X + a0)), (1, .int l1), (2, .int l2)] := hl
  refine v_aload_n dX3_unfold_0 rfl (lv_at hl 0 rfl) ?_
  refine v_iload_n dX3_unfold_1 rfl (lv_at hl 1 rfl) ?_
  refine k_X3_startWith h qmX3_31 (by decide) hl.1 (Nat.le_of_ble_eq_true rfl) dX3_unfold_2 (fun v1 s h => ?_)
  refine v_iconst (1 : Int32) dX3_unfold_5 (by decide) ?_
  refine v_istore_n [(3, .int (1 : Int32)), (0, .ref (xb X + a0)), (1, .int l1), (2, .int l2)] dX3_unfold_6 rfl hl (by decide) rfl (fun ls hl => ?_)
  exact L_X3_unfold_7 N N a0 l2 (1 : Int32) s ls (lv_sub hl [1, 3, 0] rfl) h
theorem k_X3_unfold {X : VX} {cc : ByteArray} {own : String} {nL fr lo : Nat} {ini : Bool} {E : VX → Prop} {sF s : vS} {ρ : Type} {res : ρ} {pc : Nat} {ls : Array Slot} {rest : List Value} {N index : Nat} {a0 : Nat} {l1 : Int32} {l2 : Int32} {f : Unit → vS → Option ρ} (h : bnd (F_X3_unfold N a0 l1 l2 s) f = some res) (hlink : Cond.methodLink own index yX3_unfold ∈ TT) (hR : 2 + 1 ≤ fr ∧ 8 + (5 + 11) + 44 ≤ lo) (hls : ls.size = nL) (hr : (rest.map fun v => v.category).sum ≤ 8) (hdg : decode cc pc = .ok (.invokevirtual index, 3)) (kk : ∀ r s', f r s' = some res → V X (cc, own, nL, fr, lo, ini) E sF s' (G0 X (pc + 3) ls (rest))) : V X (cc, own, nL, fr, lo, ini) E sF s (G0 X pc ls (.int l2 :: .int l1 :: .ref (xb X + a0) :: rest)) := by
  obtain ⟨r, s', e, h⟩ := bnd_some h
  exact v_callV (b := a0) (ci := 3) (As := [.int l1, .int l2]) (rest := rest) (c_X3_unfold X N a0 l1 l2 s s' r e).2 (c_X3_unfold (l := xl X) (D := xD X) (ka := xka X) X N a0 l1 l2 s s' r e).1 rfl vl_X3_unfold qi_X3_unfold qe_X3_unfold hlink hR rfl rfl hls hr hdg (kk r s' h)
set_option maxHeartbeats 4000000 in
set_option maxRecDepth 100000 in
theorem L_X1_init_192 {X : VX} {sF : vS} {r : Unit} (N : Nat) (k111 : Nat → Int32 → Int32 → Int32 → vS → Option (Unit × vS)) (k153 : Nat → Int32 → Int32 → Int32 → Int32 → vS → Option (Unit × vS)) (hk111 : ∀ (a0 : Nat) (l1 : Int32) (l2 : Int32) (l3 : Int32) (s : vS) (ls : Array Slot), lv_has ls 5 [(0, .ref (xb X + a0)), (1, .int l1), (2, .int l2), (3, .int l3)] → k111 a0 l1 l2 l3 s = some (r, sF) → V X (cX1_init, RX1, 5, 4, 100, true) (vRet sF none none) sF s (G0 X 111 ls [])) (hk153 : ∀ (a0 : Nat) (l1 : Int32) (l2 : Int32) (l3 : Int32) (l4 : Int32) (s : vS) (ls : Array Slot), lv_has ls 5 [(0, .ref (xb X + a0)), (1, .int l1), (2, .int l2), (3, .int l3), (4, .int l4)] → k153 a0 l1 l2 l3 l4 s = some (r, sF) → V X (cX1_init, RX1, 5, 4, 100, true) (vRet sF none none) sF s (G0 X 153 ls [])) (a0 : Nat) (l1 : Int32) (l2 : Int32) (l3 : Int32) (l4 : Int32) (k0 : Nat) (k1 : Int32) (k2 : Nat) (k3 : Nat) (k4 : Int32) (k5 : Int32) (s : vS) (ls : Array Slot) (hl : lv_has ls 5 [(0, .ref (xb X + a0)), (1, .int l1), (2, .int l2), (3, .int l3), (4, .int l4)]) (h : J_X1_init_192 N k111 k153 a0 l1 l2 l3 l4 k0 k1 k2 k3 k4 k5 s = some (r, sF)) : V X (cX1_init, RX1, 5, 4, 100, true) (vRet sF none none) sF s (G0 X 192 ls [.int k5, .int k4, .ref (xb X + k3), .ref (xb X + k2), .int k1, .ref (xb X + k0)]) := by
  unfold J_X1_init_192 at h
  refine k_X1_numberOn h qmX1_70 (by decide) hl.1 (Nat.le_of_ble_eq_true rfl) dX1_init_192 (fun v28 s h => ?_)
  refine v_iast dX1_init_195 h (fun s h => ?_)
  refine v_inc (fun z => [(4, .int z), (0, .ref (xb X + a0)), (1, .int l1), (2, .int l2), (3, .int l3)]) dX1_init_196 h hl (k := 4) rfl (by rfl) (by decide) (fun _ => rfl) (fun l4_29 ls hl h => ?_)
  refine v_goto 153 dX1_init_199 (by decide) ?_
  exact hk153 a0 l1 l2 l3 l4_29 s ls (lv_sub hl [1, 2, 3, 4, 0] rfl) h
set_option maxHeartbeats 4000000 in
set_option maxRecDepth 100000 in
theorem L_X1_init_153 {X : VX} {sF : vS} {r : Unit} (N : Nat) (k111 : Nat → Int32 → Int32 → Int32 → vS → Option (Unit × vS)) (hk111 : ∀ (a0 : Nat) (l1 : Int32) (l2 : Int32) (l3 : Int32) (s : vS) (ls : Array Slot), lv_has ls 5 [(0, .ref (xb X + a0)), (1, .int l1), (2, .int l2), (3, .int l3)] → k111 a0 l1 l2 l3 s = some (r, sF) → V X (cX1_init, RX1, 5, 4, 100, true) (vRet sF none none) sF s (G0 X 111 ls [])) : ∀ (n : Nat) (a0 : Nat) (l1 : Int32) (l2 : Int32) (l3 : Int32) (l4 : Int32) (s : vS) (ls : Array Slot), lv_has ls 5 [(0, .ref (xb X + a0)), (1, .int l1), (2, .int l2), (3, .int l3), (4, .int l4)] → H_X1_init_153 N k111 n a0 l1 l2 l3 l4 s = some (r, sF) → V X (cX1_init, RX1, 5, 4, 100, true) (vRet sF none none) sF s (G0 X 153 ls []) := by
  intro n
  induction n with
  | zero => intro a0 l1 l2 l3 l4 s ls hl h; cases h
  | succ n ih =>
   intro a0 l1 l2 l3 l4 s ls hl h
   unfold H_X1_init_153 at h
   refine v_iload dX1_init_153 (lv_at hl 4 rfl) ?_
   refine v_iconst (1 : Int32) dX1_init_155 (by decide) ?_
   refine v_aload_n dX1_init_156 rfl (lv_at hl 0 rfl) ?_
   refine v_getR 1 3 h (by decide) rfl qfX1_41 dX1_init_157 (fun r21 h => ?_)
   refine v_iload_n dX1_init_160 rfl (lv_at hl 3 rfl) ?_
   refine v_iald dX1_init_161 h (fun v22 h => ?_)
   refine v_ishl dX1_init_162 ?_
   refine v_icmp_ge 202 dX1_init_163 (by decide) h (fun h => ?_) (fun h => ?_)
   · refine v_inc (fun z => [(3, .int z), (0, .ref (xb X + a0)), (1, .int l1), (2, .int l2), (4, .int l4)]) dX1_init_202 h hl (k := 3) rfl (by rfl) (by decide) (fun _ => rfl) (fun l3_23 ls hl h => ?_)
     refine v_goto 111 dX1_init_205 (by decide) ?_
     exact hk111 a0 l1 l2 l3_23 s ls (lv_sub hl [1, 2, 3, 0] rfl) h
   · refine v_aload_n dX1_init_166 rfl (lv_at hl 0 rfl) ?_
     refine v_getR 1 8 h (by decide) rfl qfX1_53 dX1_init_167 (fun r24 h => ?_)
     refine v_iload_n dX1_init_170 rfl (lv_at hl 3 rfl) ?_
     refine v_aald 6 dX1_init_171 h (fun r25 h => ?_)
     refine v_iload dX1_init_172 (lv_at hl 4 rfl) ?_
     refine v_aload_n dX1_init_174 rfl (lv_at hl 0 rfl) ?_
     refine v_aload_n dX1_init_175 rfl (lv_at hl 0 rfl) ?_
     refine v_getR 1 5 h (by decide) rfl qfX1_49 dX1_init_176 (fun r26 h => ?_)
     refine v_iload_n dX1_init_179 rfl (lv_at hl 3 rfl) ?_
     refine v_aald 4 dX1_init_180 h (fun r27 h => ?_)
     refine v_iload dX1_init_181 (lv_at hl 4 rfl) ?_
     refine v_iload_n dX1_init_183 rfl (lv_at hl 1 rfl) ?_
     refine v_if_eq 191 dX1_init_184 (by decide) h (fun h => ?_) (fun h => ?_)
     · refine v_iconst (-1 : Int32) dX1_init_191 (by decide) ?_
       exact L_X1_init_192 N k111 (H_X1_init_153 N k111 n) hk111 ih a0 l1 l2 l3 l4 r25 l4 a0 r27 l4 (-1 : Int32) s ls (lv_sub hl [0, 1, 2, 3, 4] rfl) h
     · refine v_iconst (0 : Int32) dX1_init_187 (by decide) ?_
       refine v_goto 192 dX1_init_188 (by decide) ?_
       exact L_X1_init_192 N k111 (H_X1_init_153 N k111 n) hk111 ih a0 l1 l2 l3 l4 r25 l4 a0 r27 l4 (0 : Int32) s ls (lv_sub hl [0, 1, 2, 3, 4] rfl) h
set_option maxHeartbeats 4000000 in
set_option maxRecDepth 100000 in
theorem L_X1_init_111 {X : VX} {sF : vS} {r : Unit} (N : Nat) : ∀ (n : Nat) (a0 : Nat) (l1 : Int32) (l2 : Int32) (l3 : Int32) (s : vS) (ls : Array Slot), lv_has ls 5 [(0, .ref (xb X + a0)), (1, .int l1), (2, .int l2), (3, .int l3)] → H_X1_init_111 N n a0 l1 l2 l3 s = some (r, sF) → V X (cX1_init, RX1, 5, 4, 100, true) (vRet sF none none) sF s (G0 X 111 ls []) := by
  intro n
  induction n with
  | zero => intro a0 l1 l2 l3 s ls hl h; cases h
  | succ n ih =>
   intro a0 l1 l2 l3 s ls hl h
   unfold H_X1_init_111 at h
   refine v_iload_n dX1_init_111 rfl (lv_at hl 3 rfl) ?_
   refine v_iload_n dX1_init_112 rfl (lv_at hl 2 rfl) ?_
   refine v_icmp_ge 208 dX1_init_113 (by decide) h (fun h => ?_) (fun h => ?_)
   · exact v_vret dX1_init_208 h
   · refine v_aload_n dX1_init_116 rfl (lv_at hl 0 rfl) ?_
     refine v_getR 1 5 h (by decide) rfl qfX1_49 dX1_init_117 (fun r11 h => ?_)
     refine v_iload_n dX1_init_120 rfl (lv_at hl 3 rfl) ?_
     refine v_new 3 h (by decide) qcX1_47 qnX3 qjX3 dX1_init_121 (fun q12 s h => ?_)
     refine v_dup dX1_init_124 rfl ?_
     refine kn_X3_init_X1 h nstX1_65 (by decide) hl.1 (Nat.le_of_ble_eq_true rfl) dX1_init_125 (fun v13 s h => ?_)
     refine v_aast 4 3 dX1_init_128 h (fun s h => ?_)
     refine v_aload_n dX1_init_129 rfl (lv_at hl 0 rfl) ?_
     refine v_getR 1 5 h (by decide) rfl qfX1_49 dX1_init_130 (fun r14 h => ?_)
     refine v_iload_n dX1_init_133 rfl (lv_at hl 3 rfl) ?_
     refine v_aald 4 dX1_init_134 h (fun r15 h => ?_)
     refine v_aload_n dX1_init_135 rfl (lv_at hl 0 rfl) ?_
     refine v_getR 1 3 h (by decide) rfl qfX1_41 dX1_init_136 (fun r16 h => ?_)
     refine v_iload_n dX1_init_139 rfl (lv_at hl 3 rfl) ?_
     refine v_iald dX1_init_140 h (fun v17 h => ?_)
     refine v_aload_n dX1_init_141 rfl (lv_at hl 0 rfl) ?_
     refine v_getR 1 4 h (by decide) rfl qfX1_44 dX1_init_142 (fun r18 h => ?_)
     refine v_iload_n dX1_init_145 rfl (lv_at hl 3 rfl) ?_
     refine v_iald dX1_init_146 h (fun v19 h => ?_)
     refine k_X3_unfold h qmX1_66 (by decide) hl.1 (Nat.le_of_ble_eq_true rfl) dX1_init_147 (fun v20 s h => ?_)
     refine v_iconst (0 : Int32) dX1_init_150 (by decide) ?_
     refine v_istore [(4, .int (0 : Int32)), (0, .ref (xb X + a0)), (1, .int l1), (2, .int l2), (3, .int l3)] dX1_init_151 hl (by decide) rfl (fun ls hl => ?_)
     exact L_X1_init_153 N (H_X1_init_111 N n) ih N a0 l1 l2 l3 (0 : Int32) s ls (lv_sub hl [1, 2, 3, 4, 0] rfl) h
set_option maxHeartbeats 4000000 in
set_option maxRecDepth 100000 in
theorem L_X1_init_55 {X : VX} {sF : vS} {r : Unit} (N : Nat) (a0 : Nat) (l1 : Int32) (l2 : Int32) (k0 : Nat) (k1 : Int32) (s : vS) (ls : Array Slot) (hl : lv_has ls 5 [(0, .ref (xb X + a0)), (1, .int l1), (2, .int l2)]) (h : J_X1_init_55 N a0 l1 l2 k0 k1 s = some (r, sF)) : V X (cX1_init, RX1, 5, 4, 100, true) (vRet sF none none) sF s (G0 X 55 ls [.int k1, .ref (xb X + k0)]) := by
  unfold J_X1_init_55 at h
  refine v_putI 1 1 h (by decide) rfl (Or.inr ⟨rfl, rfl, rfl⟩) qfX1_38 dX1_init_55 (fun s h => ?_)
  refine v_aload_n dX1_init_58 rfl (lv_at hl 0 rfl) ?_
  refine v_iload_n dX1_init_59 rfl (lv_at hl 2 rfl) ?_
  refine v_newa 1 h (by decide) qa_int dX1_init_60 (fun q4 s h => ?_)
  refine v_putR 1 3 h (by decide) rfl (Or.inr ⟨rfl, rfl, rfl⟩) qfX1_41 dX1_init_62 (fun s h => ?_)
  refine v_aload_n dX1_init_65 rfl (lv_at hl 0 rfl) ?_
  refine v_iload_n dX1_init_66 rfl (lv_at hl 2 rfl) ?_
  refine v_newa 1 h (by decide) qa_int dX1_init_67 (fun q5 s h => ?_)
  refine v_putR 1 4 h (by decide) rfl (Or.inr ⟨rfl, rfl, rfl⟩) qfX1_44 dX1_init_69 (fun s h => ?_)
  refine v_aload_n dX1_init_72 rfl (lv_at hl 0 rfl) ?_
  refine v_iload_n dX1_init_73 rfl (lv_at hl 2 rfl) ?_
  refine v_newq 4 h (by decide) qqX1_47 dX1_init_74 (fun q6 s h => ?_)
  refine v_putR 1 5 h (by decide) rfl (Or.inr ⟨rfl, rfl, rfl⟩) qfX1_49 dX1_init_77 (fun s h => ?_)
  refine v_aload_n dX1_init_80 rfl (lv_at hl 0 rfl) ?_
  refine v_iload_n dX1_init_81 rfl (lv_at hl 2 rfl) ?_
  refine v_bipush (16 : Int32) dX1_init_82 (by decide) ?_
  refine v_newm h qvX1_15 qa_int dX1_init_84 (fun q7 s h => ?_)
  refine v_putR 1 8 h (by decide) rfl (Or.inr ⟨rfl, rfl, rfl⟩) qfX1_53 dX1_init_88 (fun s h => ?_)
  refine v_aload_n dX1_init_91 rfl (lv_at hl 0 rfl) ?_
  refine v_iload_n dX1_init_92 rfl (lv_at hl 2 rfl) ?_
  refine v_newa 1 h (by decide) qa_int dX1_init_93 (fun q8 s h => ?_)
  refine v_putR 1 10 h (by decide) rfl (Or.inr ⟨rfl, rfl, rfl⟩) qfX1_56 dX1_init_95 (fun s h => ?_)
  refine v_aload_n dX1_init_98 rfl (lv_at hl 0 rfl) ?_
  refine v_iload_n dX1_init_99 rfl (lv_at hl 2 rfl) ?_
  refine v_newa 1 h (by decide) qa_int dX1_init_100 (fun q9 s h => ?_)
  refine v_putR 1 11 h (by decide) rfl (Or.inr ⟨rfl, rfl, rfl⟩) qfX1_59 dX1_init_102 (fun s h => ?_)
  refine v_aload_n dX1_init_105 rfl (lv_at hl 0 rfl) ?_
  refine k_X1_numberAll h qmX1_62 (by decide) hl.1 (Nat.le_of_ble_eq_true rfl) dX1_init_106 (fun v10 s h => ?_)
  refine v_iconst (0 : Int32) dX1_init_109 (by decide) ?_
  refine v_istore_n [(3, .int (0 : Int32)), (0, .ref (xb X + a0)), (1, .int l1), (2, .int l2)] dX1_init_110 rfl hl (by decide) rfl (fun ls hl => ?_)
  exact L_X1_init_111 N N a0 l1 l2 (0 : Int32) s ls (lv_sub hl [1, 2, 3, 0] rfl) h
theorem vl_X1_init : vCl yX1_init cX1_init 5 none 2 := ⟨qy_X1_init, qjX1, by decide +kernel, by decide +kernel, by decide +kernel⟩
set_option maxHeartbeats 4000000 in
set_option maxRecDepth 100000 in
theorem c_X1_init {l : Launch} {D : va_G} {ka : Nat → ClassId} (X0 : VX) (N : Nat) (a0 : Nat) (l1 : Int32) (l2 : Int32) (s sF : vS) (r : Unit) (h : F_X1_init N a0 l1 l2 s = some (r, sF)) : isO s a0 1 = true ∧ vMet l D ka (xb X0) yX1_init cX1_init 5 none 4 100 [.ref (xb X0 + a0), .int l1, .int l2] s sF none := by
  unfold F_X1_init at h
  unfold rcv at h
  obtain ⟨hO, h⟩ := v_chk h
  refine ⟨hO, vMet.of (ini := true) X0 (plainFor_of_name (by decide +kernel)) (Nat.le_of_ble_eq_true rfl) (fun _ => rfl) (fun X ls hb hl => ?_) rfl⟩
  show V X (cX1_init, RX1, 5, 4, 100, true) (vRet sF none none) sF s (G0 X 0 ls [])
  rw [← hb] at hl
  have hl : lv_has ls 5 [(0, .ref (xb X + a0)), (1, .int l1), (2, .int l2)] := hl
  refine v_aload_n dX1_init_0 rfl (lv_at hl 0 rfl) ?_
  refine v_objI qmX1_3 qo_in qo_code hl.1 ⟨by decide, Nat.le_of_ble_eq_true rfl⟩ dX1_init_1 ?_
  refine v_aload_n dX1_init_4 rfl (lv_at hl 0 rfl) ?_
  refine v_bipush (6 : Int32) dX1_init_5 (by decide) ?_
  refine v_newa 1 h (by decide) qa_int dX1_init_7 (fun q1 s h => ?_)
  refine v_putR 1 6 h (by decide) rfl (Or.inr ⟨rfl, rfl, rfl⟩) qfX1_9 dX1_init_9 (fun s h => ?_)
  refine v_aload_n dX1_init_12 rfl (lv_at hl 0 rfl) ?_
  refine v_iconst (5 : Int32) dX1_init_13 (by decide) ?_
  refine v_bipush (64 : Int32) dX1_init_14 (by decide) ?_
  refine v_newm h qvX1_15 qa_int dX1_init_16 (fun q2 s h => ?_)
  refine v_putR 1 7 h (by decide) rfl (Or.inr ⟨rfl, rfl, rfl⟩) qfX1_17 dX1_init_20 (fun s h => ?_)
  refine v_aload_n dX1_init_23 rfl (lv_at hl 0 rfl) ?_
  refine k_X1_allRenamings h qmX1_20 (by decide) hl.1 (Nat.le_of_ble_eq_true rfl) dX1_init_24 (fun r3 s h => ?_)
  refine v_putR 1 9 h (by decide) rfl (Or.inr ⟨rfl, rfl, rfl⟩) qfX1_24 dX1_init_27 (fun s h => ?_)
  refine v_aload_n dX1_init_30 rfl (lv_at hl 0 rfl) ?_
  refine v_iconst (0 : Int32) dX1_init_31 (by decide) ?_
  refine v_putI 1 12 h (by decide) rfl (Or.inl rfl) qfX1_27 dX1_init_32 (fun s h => ?_)
  refine v_aload_n dX1_init_35 rfl (lv_at hl 0 rfl) ?_
  refine v_iload_n dX1_init_36 rfl (lv_at hl 1 rfl) ?_
  refine v_putZ 1 0 h (by decide) rfl (Or.inr ⟨rfl, rfl, rfl⟩) qfX1_31 dX1_init_37 (fun s h => ?_)
  refine v_aload_n dX1_init_40 rfl (lv_at hl 0 rfl) ?_
  refine v_iload_n dX1_init_41 rfl (lv_at hl 2 rfl) ?_
  refine v_putI 1 2 h (by decide) rfl (Or.inr ⟨rfl, rfl, rfl⟩) qfX1_35 dX1_init_42 (fun s h => ?_)
  refine v_aload_n dX1_init_45 rfl (lv_at hl 0 rfl) ?_
  refine v_iload_n dX1_init_46 rfl (lv_at hl 1 rfl) ?_
  refine v_if_eq 54 dX1_init_47 (by decide) h (fun h => ?_) (fun h => ?_)
  · refine v_iconst (0 : Int32) dX1_init_54 (by decide) ?_
    exact L_X1_init_55 N a0 l1 l2 a0 (0 : Int32) s ls (lv_sub hl [0, 1, 2] rfl) h
  · refine v_iconst (1 : Int32) dX1_init_50 (by decide) ?_
    refine v_goto 55 dX1_init_51 (by decide) ?_
    exact L_X1_init_55 N a0 l1 l2 a0 (1 : Int32) s ls (lv_sub hl [0, 1, 2] rfl) h
