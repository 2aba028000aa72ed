set_option maxHeartbeats 4000000 in
set_option maxRecDepth 100000 in
theorem L_X1_jointsIn_77 {X : VX} {sF : vS} {r : Int32} (N : Nat) (k24 : Nat → Int32 → Int32 → Nat → Int32 → Int32 → Int32 → vS → Option (Int32 × vS)) (k46 : Nat → Int32 → Int32 → Nat → Int32 → Int32 → Int32 → Int32 → vS → Option (Int32 × vS)) (hk24 : ∀ (a0 : Nat) (l1 : Int32) (l2 : Int32) (a4 : Nat) (l5 : Int32) (l6 : Int32) (l7 : Int32) (s : vS) (ls : Array Slot), lv_has ls 9 [(0, .ref (xb X + a0)), (1, .int l1), (2, .int l2), (4, .ref (xb X + a4)), (5, .int l5), (6, .int l6), (7, .int l7)] → k24 a0 l1 l2 a4 l5 l6 l7 s = some (r, sF) → V X (cX1_jointsIn, RX1, 9, 0, 0, false) (vRet sF (some (.int r)) (some .int)) sF s (G0 X 24 ls [])) (hk46 : ∀ (a0 : Nat) (l1 : Int32) (l2 : Int32) (a4 : Nat) (l5 : Int32) (l6 : Int32) (l7 : Int32) (l8 : Int32) (s : vS) (ls : Array Slot), lv_has ls 9 [(0, .ref (xb X + a0)), (1, .int l1), (2, .int l2), (4, .ref (xb X + a4)), (5, .int l5), (6, .int l6), (7, .int l7), (8, .int l8)] → k46 a0 l1 l2 a4 l5 l6 l7 l8 s = some (r, sF) → V X (cX1_jointsIn, RX1, 9, 0, 0, false) (vRet sF (some (.int r)) (some .int)) sF s (G0 X 46 ls [])) (a0 : Nat) (l1 : Int32) (l2 : Int32) (a4 : Nat) (l5 : Int32) (l6 : Int32) (l7 : Int32) (l8 : Int32) (s : vS) (ls : Array Slot) (hl : lv_has ls 9 [(0, .ref (xb X + a0)), (1, .int l1), (2, .int l2), (4, .ref (xb X + a4)), (5, .int l5), (6, .int l6), (7, .int l7), (8, .int l8)]) (h : J_X1_jointsIn_77 N k24 k46 a0 l1 l2 a4 l5 l6 l7 l8 s = some (r, sF)) : V X (cX1_jointsIn, RX1, 9, 0, 0, false) (vRet sF (some (.int r)) (some .int)) sF s (G0 X 77 ls []) := by
  unfold J_X1_jointsIn_77 at h
  refine v_inc (fun z => [(8, .int z), (0, .ref (xb X + a0)), (1, .int l1), (2, .int l2), (4, .ref (xb X + a4)), (5, .int l5), (6, .int l6), (7, .int l7)]) dX1_jointsIn_77 h hl (k := 7) rfl (by rfl) (by decide) (fun _ => rfl) (fun l8_11 ls hl h => ?_)
  refine v_goto 46 dX1_jointsIn_80 (by decide) ?_
  exact hk46 a0 l1 l2 a4 l5 l6 l7 l8_11 s ls (lv_sub hl [1, 2, 3, 4, 5, 6, 7, 0] rfl) h
set_option maxHeartbeats 4000000 in
set_option maxRecDepth 100000 in
theorem L_X1_jointsIn_46 {X : VX} {sF : vS} {r : Int32} (N : Nat) (k24 : Nat → Int32 → Int32 → Nat → Int32 → Int32 → Int32 → vS → Option (Int32 × vS)) (hk24 : ∀ (a0 : Nat) (l1 : Int32) (l2 : Int32) (a4 : Nat) (l5 : Int32) (l6 : Int32) (l7 : Int32) (s : vS) (ls : Array Slot), lv_has ls 9 [(0, .ref (xb X + a0)), (1, .int l1), (2, .int l2), (4, .ref (xb X + a4)), (5, .int l5), (6, .int l6), (7, .int l7)] → k24 a0 l1 l2 a4 l5 l6 l7 s = some (r, sF) → V X (cX1_jointsIn, RX1, 9, 0, 0, false) (vRet sF (some (.int r)) (some .int)) sF s (G0 X 24 ls [])) : ∀ (n : Nat) (a0 : Nat) (l1 : Int32) (l2 : Int32) (a4 : Nat) (l5 : Int32) (l6 : Int32) (l7 : Int32) (l8 : Int32) (s : vS) (ls : Array Slot), lv_has ls 9 [(0, .ref (xb X + a0)), (1, .int l1), (2, .int l2), (4, .ref (xb X + a4)), (5, .int l5), (6, .int l6), (7, .int l7), (8, .int l8)] → H_X1_jointsIn_46 N k24 n a0 l1 l2 a4 l5 l6 l7 l8 s = some (r, sF) → V X (cX1_jointsIn, RX1, 9, 0, 0, false) (vRet sF (some (.int r)) (some .int)) sF s (G0 X 46 ls []) := by
  intro n
  induction n with
  | zero => intro a0 l1 l2 a4 l5 l6 l7 l8 s ls hl h; cases h
  | succ n ih =>
   intro a0 l1 l2 a4 l5 l6 l7 l8 s ls hl h
   unfold H_X1_jointsIn_46 at h
   refine v_iload dX1_jointsIn_46 (lv_at hl 7 rfl) ?_
   refine v_iload dX1_jointsIn_48 (lv_at hl 4 rfl) ?_
   refine v_icmp_ge 83 dX1_jointsIn_50 (by decide) h (fun h => ?_) (fun h => ?_)
   · exact L_X1_jointsIn_83 N k24 hk24 a0 l1 l2 a4 l5 l6 l7 s ls (lv_sub hl [0, 1, 2, 3, 4, 5, 6] rfl) h
   · refine v_aload dX1_jointsIn_53 (lv_at hl 3 rfl) ?_
     refine v_iload dX1_jointsIn_55 (lv_at hl 7 rfl) ?_
     refine v_iald dX1_jointsIn_57 h (fun v7 h => ?_)
     refine v_iload_n dX1_jointsIn_58 rfl (lv_at hl 2 rfl) ?_
     refine v_icmp_ne 77 dX1_jointsIn_59 (by decide) h (fun h => ?_) (fun h => ?_)
     · exact L_X1_jointsIn_77 N k24 (H_X1_jointsIn_46 N k24 n) hk24 ih a0 l1 l2 a4 l5 l6 l7 l8 s ls (lv_sub hl [0, 1, 2, 3, 4, 5, 6, 7] rfl) h
     · refine v_iload dX1_jointsIn_62 (lv_at hl 6 rfl) ?_
       refine v_iload dX1_jointsIn_64 (lv_at hl 7 rfl) ?_
       refine v_iand dX1_jointsIn_66 ?_
       refine v_aload_n dX1_jointsIn_67 rfl (lv_at hl 0 rfl) ?_
       refine v_getI 1 1 h (by decide) (Or.inl rfl) qfX1_38 dX1_jointsIn_68 (fun v8 h => ?_)
       refine v_icmp_ne 77 dX1_jointsIn_71 (by decide) h (fun h => ?_) (fun h => ?_)
       · exact L_X1_jointsIn_77 N k24 (H_X1_jointsIn_46 N k24 n) hk24 ih a0 l1 l2 a4 l5 l6 l7 l8 s ls (lv_sub hl [0, 1, 2, 3, 4, 5, 6, 7] rfl) h
       · refine v_inc (fun z => [(6, .int z), (0, .ref (xb X + a0)), (1, .int l1), (2, .int l2), (4, .ref (xb X + a4)), (5, .int l5), (7, .int l7), (8, .int l8)]) dX1_jointsIn_74 h hl (k := 5) rfl (by rfl) (by decide) (fun _ => rfl) (fun l6_9 ls hl h => ?_)
         exact L_X1_jointsIn_77 N k24 (H_X1_jointsIn_46 N k24 n) hk24 ih a0 l1 l2 a4 l5 l6_9 l7 l8 s ls (lv_sub hl [1, 2, 3, 4, 5, 0, 6, 7] rfl) h
set_option maxHeartbeats 4000000 in
set_option maxRecDepth 100000 in
theorem L_X1_jointsIn_24 {X : VX} {sF : vS} {r : Int32} (N : Nat) : ∀ (n : Nat) (a0 : Nat) (l1 : Int32) (l2 : Int32) (a4 : Nat) (l5 : Int32) (l6 : Int32) (l7 : Int32) (s : vS) (ls : Array Slot), lv_has ls 9 [(0, .ref (xb X + a0)), (1, .int l1), (2, .int l2), (4, .ref (xb X + a4)), (5, .int l5), (6, .int l6), (7, .int l7)] → H_X1_jointsIn_24 N n a0 l1 l2 a4 l5 l6 l7 s = some (r, sF) → V X (cX1_jointsIn, RX1, 9, 0, 0, false) (vRet sF (some (.int r)) (some .int)) sF s (G0 X 24 ls []) := by
  intro n
  induction n with
  | zero => intro a0 l1 l2 a4 l5 l6 l7 s ls hl h; cases h
  | succ n ih =>
   intro a0 l1 l2 a4 l5 l6 l7 s ls hl h
   unfold H_X1_jointsIn_24 at h
   refine v_iload dX1_jointsIn_24 (lv_at hl 6 rfl) ?_
   refine v_iload dX1_jointsIn_26 (lv_at hl 4 rfl) ?_
   refine v_icmp_ge 89 dX1_jointsIn_28 (by decide) h (fun h => ?_) (fun h => ?_)
   · refine v_iload dX1_jointsIn_89 (lv_at hl 5 rfl) ?_
     exact v_iret dX1_jointsIn_91 h
   · refine v_aload dX1_jointsIn_31 (lv_at hl 3 rfl) ?_
     refine v_iload dX1_jointsIn_33 (lv_at hl 6 rfl) ?_
     refine v_iald dX1_jointsIn_35 h (fun v6 h => ?_)
     refine v_iload_n dX1_jointsIn_36 rfl (lv_at hl 1 rfl) ?_
     refine v_icmp_eq 43 dX1_jointsIn_37 (by decide) h (fun h => ?_) (fun h => ?_)
     · refine v_iconst (0 : Int32) dX1_jointsIn_43 (by decide) ?_
       refine v_istore [(8, .int (0 : Int32)), (0, .ref (xb X + a0)), (1, .int l1), (2, .int l2), (4, .ref (xb X + a4)), (5, .int l5), (6, .int l6), (7, .int l7)] dX1_jointsIn_44 hl (by decide) rfl (fun ls hl => ?_)
       exact L_X1_jointsIn_46 N (H_X1_jointsIn_24 N n) ih N a0 l1 l2 a4 l5 l6 l7 (0 : Int32) s ls (lv_sub hl [1, 2, 3, 4, 5, 6, 7, 0] rfl) h
     · refine v_goto 83 dX1_jointsIn_40 (by decide) ?_
       exact L_X1_jointsIn_83 N (H_X1_jointsIn_24 N n) ih a0 l1 l2 a4 l5 l6 l7 s ls (lv_sub hl [0, 1, 2, 3, 4, 5, 6] rfl) h
theorem vl_X1_jointsIn : vCl yX1_jointsIn cX1_jointsIn 9 (some .int) 3 := ⟨qy_X1_jointsIn, qjX1, by decide +kernel, by decide +kernel, by decide +kernel⟩
set_option maxHeartbeats 4000000 in
set_option maxRecDepth 100000 in
theorem c_X1_jointsIn {l : Launch} {D : va_G} {ka : Nat → ClassId} (X0 : VX) (N : Nat) (a0 : Nat) (l1 : Int32) (l2 : Int32) (l3 : Int32) (s sF : vS) (r : Int32) (h : F_X1_jointsIn N a0 l1 l2 l3 s = some (r, sF)) : isO s a0 1 = true ∧ vMet l D ka (xb X0) yX1_jointsIn cX1_jointsIn 9 (some .int) 0 0 [.ref (xb X0 + a0), .int l1, .int l2, .int l3] s sF (some (.int r)) := by
  unfold F_X1_jointsIn at h
  unfold rcv at h
  obtain ⟨hO, h⟩ := v_chk h
  refine ⟨hO, vMet.of (ini := false) X0 (plainFor_of_name (by decide +kernel)) (Nat.le_of_ble_eq_true rfl) (fun h => by cases h) (fun X ls hb hl => ?_) rfl⟩
  show V X (cX1_jointsIn, RX1, 9, 0, 0, false) (vRet sF (some (.int r)) (some .int)) sF s (G0 X 0 ls [])
  rw [← hb] at hl
  have hl : lv_has ls 9 [(0, .ref (xb X + a0)), (1, .int l1), (2, .int l2), (3, .int l3)] := hl
  refine v_aload_n dX1_jointsIn_0 rfl (lv_at hl 0 rfl) ?_
  refine v_getR 1 8 h (by decide) rfl qfX1_53 dX1_jointsIn_1 (fun r1 h => ?_)
  refine v_iload_n dX1_jointsIn_4 rfl (lv_at hl 3 rfl) ?_
  refine v_aald 6 dX1_jointsIn_5 h (fun r2 h => ?_)
  refine v_astore [(4, .ref (xb X + r2)), (0, .ref (xb X + a0)), (1, .int l1), (2, .int l2), (3, .int l3)] dX1_jointsIn_6 hl (by decide) rfl (fun ls hl => ?_)
  refine v_iconst (1 : Int32) dX1_jointsIn_8 (by decide) ?_
  refine v_aload_n dX1_jointsIn_9 rfl (lv_at hl 1 rfl) ?_
  refine v_getR 1 3 h (by decide) rfl qfX1_41 dX1_jointsIn_10 (fun r3 h => ?_)
  refine v_iload_n dX1_jointsIn_13 rfl (lv_at hl 4 rfl) ?_
  refine v_iald dX1_jointsIn_14 h (fun v4 h => ?_)
  refine v_ishl dX1_jointsIn_15 ?_
  refine v_nmI h (fun l5_5 h => ?_)
  refine v_istore [(5, .int l5_5), (4, .ref (xb X + r2)), (0, .ref (xb X + a0)), (1, .int l1), (2, .int l2), (3, .int l3)] dX1_jointsIn_16 hl (by decide) rfl (fun ls hl => ?_)
  refine v_iconst (0 : Int32) dX1_jointsIn_18 (by decide) ?_
  refine v_istore [(6, .int (0 : Int32)), (5, .int l5_5), (4, .ref (xb X + r2)), (0, .ref (xb X + a0)), (1, .int l1), (2, .int l2), (3, .int l3)] dX1_jointsIn_19 hl (by decide) rfl (fun ls hl => ?_)
  refine v_iconst (0 : Int32) dX1_jointsIn_21 (by decide) ?_
  refine v_istore [(7, .int (0 : Int32)), (6, .int (0 : Int32)), (5, .int l5_5), (4, .ref (xb X + r2)), (0, .ref (xb X + a0)), (1, .int l1), (2, .int l2), (3, .int l3)] dX1_jointsIn_22 hl (by decide) rfl (fun ls hl => ?_)
  exact L_X1_jointsIn_24 N N a0 l1 l2 r2 l5_5 (0 : Int32) (0 : Int32) s ls (lv_sub hl [4, 5, 6, 3, 2, 1, 0] rfl) h
theorem k_X1_jointsIn {X : VX} {cc : ByteArray} {own : String} {nL fr lo : Nat} {ini : Bool} {E : VX → Prop} {sF s : vS} {ρ : Type} {res : ρ} {pc : Nat} {ls : Array Slot} {rest : List Value} {N index : Nat} {a0 : Nat} {l1 : Int32} {l2 : Int32} {l3 : Int32} {f : Int32 → vS → Option ρ} (h : bnd (F_X1_jointsIn N a0 l1 l2 l3 s) f = some res) (hlink : Cond.methodLink own index yX1_jointsIn ∈ TT) (hR : 0 + 1 ≤ fr ∧ 8 + (9 + 11) + 0 ≤ lo) (hls : ls.size = nL) (hr : (rest.map fun v => v.category).sum ≤ 8) (hdg : decode cc pc = .ok (.invokevirtual index, 3)) (kk : ∀ r s', f r s' = some res → V X (cc, own, nL, fr, lo, ini) E sF s' (G0 X (pc + 3) ls (.int r :: rest))) : V X (cc, own, nL, fr, lo, ini) E sF s (G0 X pc ls (.int l3 :: .int l2 :: .int l1 :: .ref (xb X + a0) :: rest)) := by
  obtain ⟨r, s', e, h⟩ := bnd_some h
  exact v_callV (b := a0) (ci := 1) (As := [.int l1, .int l2, .int l3]) (rest := rest) (c_X1_jointsIn X N a0 l1 l2 l3 s s' r e).2 (c_X1_jointsIn (l := xl X) (D := xD X) (ka := xka X) X N a0 l1 l2 l3 s s' r e).1 rfl vl_X1_jointsIn qi_X1_jointsIn qe_X1_jointsIn hlink hR rfl rfl hls hr hdg (kk r s' h)
set_option maxHeartbeats 4000000 in
set_option maxRecDepth 100000 in
theorem L_X1_ways_15 {X : VX} {sF : vS} {r : Int32} (N : Nat) : ∀ (n : Nat) (l0 : Int32) (l1 : Int32) (l2 : Int32) (l3 : Int32) (s : vS) (ls : Array Slot), lv_has ls 4 [(0, .int l0), (1, .int l1), (2, .int l2), (3, .int l3)] → H_X1_ways_15 N n l0 l1 l2 l3 s = some (r, sF) → V X (cX1_ways, RX1, 4, 0, 0, false) (vRet sF (some (.int r)) (some .int)) sF s (G0 X 15 ls []) := by
  intro n
  induction n with
  | zero => intro l0 l1 l2 l3 s ls hl h; cases h
  | succ n ih =>
   intro l0 l1 l2 l3 s ls hl h
   unfold H_X1_ways_15 at h
   refine v_iload_n dX1_ways_15 rfl (lv_at hl 3 rfl) ?_
   refine v_iload_n dX1_ways_16 rfl (lv_at hl 1 rfl) ?_
   refine v_icmp_ge 36 dX1_ways_17 (by decide) h (fun h => ?_) (fun h => ?_)
   · refine v_iload_n dX1_ways_36 rfl (lv_at hl 2 rfl) ?_
     exact v_iret dX1_ways_37 h
   · refine v_iload_n dX1_ways_20 rfl (lv_at hl 2 rfl) ?_
     refine v_iload_n dX1_ways_21 rfl (lv_at hl 0 rfl) ?_
     refine v_iload_n dX1_ways_22 rfl (lv_at hl 3 rfl) ?_
     refine v_isub dX1_ways_23 ?_
     refine v_imul dX1_ways_24 ?_
     refine v_iload_n dX1_ways_25 rfl (lv_at hl 3 rfl) ?_
     refine v_iconst (1 : Int32) dX1_ways_26 (by decide) ?_
     refine v_iadd dX1_ways_27 ?_
     refine v_idiv dX1_ways_28 h (fun h => ?_)
     refine v_nmI h (fun l2_1 h => ?_)
     refine v_istore_n [(2, .int l2_1), (0, .int l0), (1, .int l1), (3, .int l3)] dX1_ways_29 rfl hl (by decide) rfl (fun ls hl => ?_)
     refine v_inc (fun z => [(3, .int z), (2, .int l2_1), (0, .int l0), (1, .int l1)]) dX1_ways_30 h hl (k := 3) rfl (by rfl) (by decide) (fun _ => rfl) (fun l3_2 ls hl h => ?_)
     refine v_goto 15 dX1_ways_33 (by decide) ?_
     exact ih l0 l1 l2_1 l3_2 s ls (lv_sub hl [2, 3, 1, 0] rfl) h
set_option maxHeartbeats 4000000 in
set_option maxRecDepth 100000 in
theorem L_X1_ways_9 {X : VX} {sF : vS} {r : Int32} (N : Nat) (s : vS) (ls : Array Slot) (hl : lv_has ls 4 []) (h : J_X1_ways_9 N  s = some (r, sF)) : V X (cX1_ways, RX1, 4, 0, 0, false) (vRet sF (some (.int r)) (some .int)) sF s (G0 X 9 ls []) := by
  unfold J_X1_ways_9 at h
  refine v_iconst (0 : Int32) dX1_ways_9 (by decide) ?_
  exact v_iret dX1_ways_10 h
theorem vl_X1_ways : vCl yX1_ways cX1_ways 4 (some .int) 2 := ⟨qy_X1_ways, qjX1, by decide +kernel, by decide +kernel, by decide +kernel⟩
set_option maxHeartbeats 4000000 in
set_option maxRecDepth 100000 in
theorem c_X1_ways {l : Launch} {D : va_G} {ka : Nat → ClassId} (X0 : VX) (N : Nat) (l0 : Int32) (l1 : Int32) (s sF : vS) (r : Int32) (h : F_X1_ways N l0 l1 s = some (r, sF)) : vMet l D ka (xb X0) yX1_ways cX1_ways 4 (some .int) 0 0 [.int l0, .int l1] s sF (some (.int r)) := by
  unfold F_X1_ways at h
  refine vMet.of (ini := false) X0 (plainFor_of_name (by decide +kernel)) (Nat.le_of_ble_eq_true rfl) (fun h => by cases h) (fun X ls hb hl => ?_) rfl
  show V X (cX1_ways, RX1, 4, 0, 0, false) (vRet sF (some (.int r)) (some .int)) sF s (G0 X 0 ls [])
  have hl : lv_has ls 4 [(0, .int l0), (1, .int l1)] := hl
  refine v_iload_n dX1_ways_0 rfl (lv_at hl 1 rfl) ?_
  refine v_if_lt 9 dX1_ways_1 (by decide) h (fun h => ?_) (fun h => ?_)
  · exact L_X1_ways_9 N  s ls (lv_sub hl [] rfl) h
  · refine v_iload_n dX1_ways_4 rfl (lv_at hl 1 rfl) ?_
    refine v_iload_n dX1_ways_5 rfl (lv_at hl 0 rfl) ?_
    refine v_icmp_le 11 dX1_ways_6 (by decide) h (fun h => ?_) (fun h => ?_)
    · refine v_iconst (1 : Int32) dX1_ways_11 (by decide) ?_
      refine v_istore_n [(2, .int (1 : Int32)), (0, .int l0), (1, .int l1)] dX1_ways_12 rfl hl (by decide) rfl (fun ls hl => ?_)
      refine v_iconst (0 : Int32) dX1_ways_13 (by decide) ?_
      refine v_istore_n [(3, .int (0 : Int32)), (2, .int (1 : Int32)), (0, .int l0), (1, .int l1)] dX1_ways_14 rfl hl (by decide) rfl (fun ls hl => ?_)
      exact L_X1_ways_15 N N l0 l1 (1 : Int32) (0 : Int32) s ls (lv_sub hl [2, 3, 1, 0] rfl) h
    · exact L_X1_ways_9 N  s ls (lv_sub hl [] rfl) h
theorem k_X1_ways {X : VX} {cc : ByteArray} {own : String} {nL fr lo : Nat} {ini : Bool} {E : VX → Prop} {sF s : vS} {ρ : Type} {res : ρ} {pc : Nat} {ls : Array Slot} {rest : List Value} {N index : Nat} {l0 : Int32} {l1 : Int32} {f : Int32 → vS → Option ρ} (h : bnd (F_X1_ways N l0 l1 s) f = some res) (hlink : Cond.methodLink own index yX1_ways ∈ TT) (hR : 0 + 1 ≤ fr ∧ 8 + (4 + 11) + 0 ≤ lo) (hls : ls.size = nL) (hr : (rest.map fun v => v.category).sum ≤ 8) (hdg : decode cc pc = .ok (.invokestatic index, 3)) (kk : ∀ r s', f r s' = some res → V X (cc, own, nL, fr, lo, ini) E sF s' (G0 X (pc + 3) ls (.int r :: rest))) : V X (cc, own, nL, fr, lo, ini) E sF s (G0 X pc ls (.int l1 :: .int l0 :: rest)) := by
  obtain ⟨r, s', e, h⟩ := bnd_some h
  exact v_callS (As := [.int l0, .int l1]) (rest := rest) (c_X1_ways X N l0 l1 s s' r e) vl_X1_ways qs_X1_ways hlink hR rfl rfl hls hr hdg (kk r s' h)
theorem vl_X1_pairsIn : vCl yX1_pairsIn cX1_pairsIn 4 (some .int) 3 := ⟨qy_X1_pairsIn, qjX1, by decide +kernel, by decide +kernel, by decide +kernel⟩
set_option maxHeartbeats 4000000 in
set_option maxRecDepth 100000 in
theorem c_X1_pairsIn {l : Launch} {D : va_G} {ka : Nat → ClassId} (X0 : VX) (N : Nat) (a0 : Nat) (l1 : Int32) (l2 : Int32) (l3 : Int32) (s sF : vS) (r : Int32) (h : F_X1_pairsIn N a0 l1 l2 l3 s = some (r, sF)) : isO s a0 1 = true ∧ vMet l D ka (xb X0) yX1_pairsIn cX1_pairsIn 4 (some .int) 1 23 [.ref (xb X0 + a0), .int l1, .int l2, .int l3] s sF (some (.int r)) := by
  unfold F_X1_pairsIn at h
  unfold rcv at h
  obtain ⟨hO, h⟩ := v_chk h
  refine ⟨hO, vMet.of (ini := false) X0 (plainFor_of_name (by decide +kernel)) (Nat.le_of_ble_eq_true rfl) (fun h => by cases h) (fun X ls hb hl => ?_) rfl⟩
  show V X (cX1_pairsIn, RX1, 4, 1, 23, false) (vRet sF (some (.int r)) (some .int)) sF s (G0 X 0 ls [])
  rw [← hb] at hl
  have hl : lv_has ls 4 [(0, .ref (xb X + a0)), (1, .int l1), (2, .int l2), (3, .int l3)] := hl
  refine v_aload_n dX1_pairsIn_0 rfl (lv_at hl 0 rfl) ?_
  refine v_getR 1 3 h (by decide) rfl qfX1_41 dX1_pairsIn_1 (fun r1 h => ?_)
  refine v_iload_n dX1_pairsIn_4 rfl (lv_at hl 3 rfl) ?_
  refine v_iald dX1_pairsIn_5 h (fun v2 h => ?_)
  refine v_aload_n dX1_pairsIn_6 rfl (lv_at hl 0 rfl) ?_
  refine v_getI 1 1 h (by decide) (Or.inl rfl) qfX1_38 dX1_pairsIn_7 (fun v3 h => ?_)
  refine v_isub dX1_pairsIn_10 ?_
  refine v_aload_n dX1_pairsIn_11 rfl (lv_at hl 0 rfl) ?_
  refine v_getR 1 3 h (by decide) rfl qfX1_41 dX1_pairsIn_12 (fun r4 h => ?_)
  refine v_iload_n dX1_pairsIn_15 rfl (lv_at hl 1 rfl) ?_
  refine v_iald dX1_pairsIn_16 h (fun v5 h => ?_)
  refine v_aload_n dX1_pairsIn_17 rfl (lv_at hl 0 rfl) ?_
  refine v_getI 1 1 h (by decide) (Or.inl rfl) qfX1_38 dX1_pairsIn_18 (fun v6 h => ?_)
  refine v_isub dX1_pairsIn_21 ?_
  refine k_X1_ways h qmX1_116 (by decide) hl.1 (Nat.le_of_ble_eq_true rfl) dX1_pairsIn_22 (fun v7 s h => ?_)
  refine v_aload_n dX1_pairsIn_25 rfl (lv_at hl 0 rfl) ?_
  refine v_getR 1 3 h (by decide) rfl qfX1_41 dX1_pairsIn_26 (fun r8 h => ?_)
  refine v_iload_n dX1_pairsIn_29 rfl (lv_at hl 3 rfl) ?_
  refine v_iald dX1_pairsIn_30 h (fun v9 h => ?_)
  refine v_aload_n dX1_pairsIn_31 rfl (lv_at hl 0 rfl) ?_
  refine v_getR 1 3 h (by decide) rfl qfX1_41 dX1_pairsIn_32 (fun r10 h => ?_)
  refine v_iload_n dX1_pairsIn_35 rfl (lv_at hl 1 rfl) ?_
  refine v_iald dX1_pairsIn_36 h (fun v11 h => ?_)
  refine v_isub dX1_pairsIn_37 ?_
  refine v_aload_n dX1_pairsIn_38 rfl (lv_at hl 0 rfl) ?_
  refine v_getR 1 3 h (by decide) rfl qfX1_41 dX1_pairsIn_39 (fun r12 h => ?_)
  refine v_iload_n dX1_pairsIn_42 rfl (lv_at hl 2 rfl) ?_
  refine v_iald dX1_pairsIn_43 h (fun v13 h => ?_)
  refine v_aload_n dX1_pairsIn_44 rfl (lv_at hl 0 rfl) ?_
  refine v_getI 1 1 h (by decide) (Or.inl rfl) qfX1_38 dX1_pairsIn_45 (fun v14 h => ?_)
  refine v_isub dX1_pairsIn_48 ?_
  refine k_X1_ways h qmX1_116 (by decide) hl.1 (Nat.le_of_ble_eq_true rfl) dX1_pairsIn_49 (fun v15 s h => ?_)
  refine v_imul dX1_pairsIn_52 ?_
  exact v_iret dX1_pairsIn_53 h
theorem k_X1_pairsIn {X : VX} {cc : ByteArray} {own : String} {nL fr lo : Nat} {ini : Bool} {E : VX → Prop} {sF s : vS} {ρ : Type} {res : ρ} {pc : Nat} {ls : Array Slot} {rest : List Value} {N index : Nat} {a0 : Nat} {l1 : Int32} {l2 : Int32} {l3 : Int32} {f : Int32 → vS → Option ρ} (h : bnd (F_X1_pairsIn N a0 l1 l2 l3 s) f = some res) (hlink : Cond.methodLink own index yX1_pairsIn ∈ TT) (hR : 1 + 1 ≤ fr ∧ 8 + (4 + 11) + 23 ≤ lo) (hls : ls.size = nL) (hr : (rest.map fun v => v.category).sum ≤ 8) (hdg : decode cc pc = .ok (.invokevirtual index, 3)) (kk : ∀ r s', f r s' = some res → V X (cc, own, nL, fr, lo, ini) E sF s' (G0 X (pc + 3) ls (.int r :: rest))) : V X (cc, own, nL, fr, lo, ini) E sF s (G0 X pc ls (.int l3 :: .int l2 :: .int l1 :: .ref (xb X + a0) :: rest)) := by
  obtain ⟨r, s', e, h⟩ := bnd_some h
  exact v_callV (b := a0) (ci := 1) (As := [.int l1, .int l2, .int l3]) (rest := rest) (c_X1_pairsIn X N a0 l1 l2 l3 s s' r e).2 (c_X1_pairsIn (l := xl X) (D := xD X) (ka := xka X) X N a0 l1 l2 l3 s s' r e).1 rfl vl_X1_pairsIn qi_X1_pairsIn qe_X1_pairsIn hlink hR rfl rfl hls hr hdg (kk r s' h)
set_option maxHeartbeats 4000000 in
set_option maxRecDepth 100000 in
theorem L_X6_add_84 {X : VX} {sF : vS} {r : Int32} (N : Nat) (s : vS) (ls : Array Slot) (hl : lv_has ls 17 []) (h : J_X6_add_84 N  s = some (r, sF)) : V X (cX6_add, RX6, 17, 1, 30, false) (vRet sF (some (.int r)) (some .boolean)) sF s (G0 X 84 ls []) := by
  unfold J_X6_add_84 at h
  refine v_iconst (0 : Int32) dX6_add_84 (by decide) ?_
  exact v_zret dX6_add_85 h
set_option maxHeartbeats 4000000 in
set_option maxRecDepth 100000 in
theorem L_X6_add_10 {X : VX} {sF : vS} {r : Int32} (N : Nat) (s : vS) (ls : Array Slot) (hl : lv_has ls 17 []) (h : J_X6_add_10 N  s = some (r, sF)) : V X (cX6_add, RX6, 17, 1, 30, false) (vRet sF (some (.int r)) (some .boolean)) sF s (G0 X 10 ls []) := by
  unfold J_X6_add_10 at h
  refine v_iconst (0 : Int32) dX6_add_10 (by decide) ?_
  exact v_zret dX6_add_11 h
theorem vl_X6_add : vCl yX6_add cX6_add 17 (some .boolean) 2 := ⟨qy_X6_add, qjX6, by decide +kernel, by decide +kernel, by decide +kernel⟩
set_option maxHeartbeats 4000000 in
set_option maxRecDepth 100000 in
theorem c_X6_add {l : Launch} {D : va_G} {ka : Nat → ClassId} (X0 : VX) (N : Nat) (a0 : Nat) (l1 : Int32) (a2 : Nat) (s sF : vS) (r : Int32) (h : F_X6_add N a0 l1 a2 s = some (r, sF)) : isO s a0 6 = true ∧ vMet l D ka (xb X0) yX6_add cX6_add 17 (some .boolean) 1 30 [.ref (xb X0 + a0), .int l1, .ref (xb X0 + a2)] s sF (some (.int r)) := by
  unfold F_X6_add at h
  unfold rcv at h
  obtain ⟨hO, h⟩ := v_chk h
  refine ⟨hO, vMet.of (ini := false) X0 (plainFor_of_name (by decide +kernel)) (Nat.le_of_ble_eq_true rfl) (fun h => by cases h) (fun X ls hb hl => ?_) rfl⟩
  show V X (cX6_add, RX6, 17, 1, 30, false) (vRet sF (some (.int r)) (some .boolean)) sF s (G0 X 0 ls [])
  rw [← hb] at hl
  have hl : lv_has ls 17 [(0, .ref (xb X + a0)), (1, .int l1), (2, .ref (xb X + a2))] := hl
  refine v_iload_n dX6_add_0 rfl (lv_at hl 1 rfl) ?_
  refine v_if_lt 10 dX6_add_1 (by decide) h (fun h => ?_) (fun h => ?_)
  · exact L_X6_add_10 N  s ls (lv_sub hl [] rfl) h
  · refine v_iload_n dX6_add_4 rfl (lv_at hl 1 rfl) ?_
    refine v_bipush (29 : Int32) dX6_add_5 (by decide) ?_
    refine v_icmp_lt 12 dX6_add_7 (by decide) h (fun h => ?_) (fun h => ?_)
    · refine v_aload_n dX6_add_12 rfl (lv_at hl 0 rfl) ?_
      refine v_getR 6 2 h (by decide) rfl qfX6_19 dX6_add_13 (fun r1 h => ?_)
      refine v_iload_n dX6_add_16 rfl (lv_at hl 1 rfl) ?_
      refine v_lald dX6_add_17 h (fun v2 h => ?_)
      refine v_aload_n dX6_add_18 rfl (lv_at hl 2 rfl) ?_
      refine v_getJ 2 1 h (by decide) rfl qfX6_30 dX6_add_19 (fun v3 h => ?_)
      refine k_X2_greatestIn h qmX6_32 (by decide) hl.1 (Nat.le_of_ble_eq_true rfl) dX6_add_22 (fun v4 s h => ?_)
      refine v_lstore_n [(3, .long v4), (0, .ref (xb X + a0)), (1, .int l1), (2, .ref (xb X + a2))] dX6_add_25 rfl hl (by decide) rfl (fun ls hl => ?_)
      refine v_aload_n dX6_add_26 rfl (lv_at hl 3 rfl) ?_
      refine v_getJ 2 1 h (by decide) rfl qfX6_30 dX6_add_27 (fun v5 h => ?_)
      refine v_lload_n dX6_add_30 rfl (lv_at hl 0 rfl) ?_
      refine v_ldiv dX6_add_31 h (fun h => ?_)
      refine v_nmJ h (fun l5_6 h => ?_)
      refine v_lstore [(5, .long l5_6), (3, .long v4), (0, .ref (xb X + a0)), (1, .int l1), (2, .ref (xb X + a2))] dX6_add_32 hl (by decide) rfl (fun ls hl => ?_)
      refine v_aload_n dX6_add_34 rfl (lv_at hl 2 rfl) ?_
      refine v_getR 6 2 h (by decide) rfl qfX6_19 dX6_add_35 (fun r7 h => ?_)
      refine v_iload_n dX6_add_38 rfl (lv_at hl 3 rfl) ?_
      refine v_lald dX6_add_39 h (fun v8 h => ?_)
      refine v_lload_n dX6_add_40 rfl (lv_at hl 1 rfl) ?_
      refine v_ldiv dX6_add_41 h (fun h => ?_)
      refine v_nmJ h (fun l7_9 h => ?_)
      refine v_lstore [(7, .long l7_9), (5, .long l5_6), (3, .long v4), (0, .ref (xb X + a0)), (1, .int l1), (2, .ref (xb X + a2))] dX6_add_42 hl (by decide) rfl (fun ls hl => ?_)
      refine v_aload_n dX6_add_44 rfl (lv_at hl 3 rfl) ?_
      refine v_getR 6 1 h (by decide) rfl qfX6_15 dX6_add_45 (fun r10 h => ?_)
      refine v_iload_n dX6_add_48 rfl (lv_at hl 4 rfl) ?_
      refine v_lald dX6_add_49 h (fun v11 h => ?_)
      refine v_lload dX6_add_50 (lv_at hl 1 rfl) ?_
      refine k_X2_isBeyond h qmX6_36 (by decide) hl.1 (Nat.le_of_ble_eq_true rfl) dX6_add_52 (fun v12 s h => ?_)
      refine v_if_ne 84 dX6_add_55 (by decide) h (fun h => ?_) (fun h => ?_)
      · exact L_X6_add_84 N  s ls (lv_sub hl [] rfl) h
      · refine v_aload_n dX6_add_58 rfl (lv_at hl 5 rfl) ?_
        refine v_getJ 2 0 h (by decide) rfl qfX6_25 dX6_add_59 (fun v13 h => ?_)
        refine v_lload dX6_add_62 (lv_at hl 0 rfl) ?_
        refine k_X2_isBeyond h qmX6_36 (by decide) hl.1 (Nat.le_of_ble_eq_true rfl) dX6_add_64 (fun v14 s h => ?_)
        refine v_if_ne 84 dX6_add_67 (by decide) h (fun h => ?_) (fun h => ?_)
        · exact L_X6_add_84 N  s ls (lv_sub hl [] rfl) h
        · refine v_aload_n dX6_add_70 rfl (lv_at hl 3 rfl) ?_
          refine v_getR 6 2 h (by decide) rfl qfX6_19 dX6_add_71 (fun r15 h => ?_)
          refine v_iload_n dX6_add_74 rfl (lv_at hl 4 rfl) ?_
          refine v_lald dX6_add_75 h (fun v16 h => ?_)
          refine v_lload dX6_add_76 (lv_at hl 1 rfl) ?_
          refine k_X2_isBeyond h qmX6_36 (by decide) hl.1 (Nat.le_of_ble_eq_true rfl) dX6_add_78 (fun v17 s h => ?_)
          refine v_if_eq 86 dX6_add_81 (by decide) h (fun h => ?_) (fun h => ?_)
          · refine v_aload_n dX6_add_86 rfl (lv_at hl 3 rfl) ?_
            refine v_getR 6 1 h (by decide) rfl qfX6_15 dX6_add_87 (fun r18 h => ?_)
            refine v_iload_n dX6_add_90 rfl (lv_at hl 4 rfl) ?_
            refine v_lald dX6_add_91 h (fun v19 h => ?_)
            refine v_lload dX6_add_92 (lv_at hl 1 rfl) ?_
            refine v_lmul dX6_add_94 ?_
            refine v_nmJ h (fun l9_20 h => ?_)
            refine v_lstore [(9, .long l9_20), (7, .long l7_9), (5, .long l5_6), (3, .long v4), (0, .ref (xb X + a0)), (1, .int l1), (2, .ref (xb X + a2))] dX6_add_95 hl (by decide) rfl (fun ls hl => ?_)
            refine v_aload_n dX6_add_97 rfl (lv_at hl 6 rfl) ?_
            refine v_getJ 2 0 h (by decide) rfl qfX6_25 dX6_add_98 (fun v21 h => ?_)
            refine v_lload dX6_add_101 (lv_at hl 1 rfl) ?_
            refine v_lmul dX6_add_103 ?_
            refine v_nmJ h (fun l11_22 h => ?_)
            refine v_lstore [(11, .long l11_22), (9, .long l9_20), (7, .long l7_9), (5, .long l5_6), (3, .long v4), (0, .ref (xb X + a0)), (1, .int l1), (2, .ref (xb X + a2))] dX6_add_104 hl (by decide) rfl (fun ls hl => ?_)
            refine v_lload dX6_add_106 (lv_at hl 1 rfl) ?_
            refine v_lload dX6_add_108 (lv_at hl 0 rfl) ?_
            refine v_ladd dX6_add_110 ?_
            refine v_nmJ h (fun l13_23 h => ?_)
            refine v_lstore [(13, .long l13_23), (11, .long l11_22), (9, .long l9_20), (7, .long l7_9), (5, .long l5_6), (3, .long v4), (0, .ref (xb X + a0)), (1, .int l1), (2, .ref (xb X + a2))] dX6_add_111 hl (by decide) rfl (fun ls hl => ?_)
            refine v_lload dX6_add_113 (lv_at hl 2 rfl) ?_
            refine v_lload dX6_add_115 (lv_at hl 0 rfl) ?_
            refine v_lxor dX6_add_117 ?_
            refine v_lload dX6_add_118 (lv_at hl 1 rfl) ?_
            refine v_lload dX6_add_120 (lv_at hl 0 rfl) ?_
            refine v_lxor dX6_add_122 ?_
            refine v_land dX6_add_123 ?_
            refine v_lconst (0 : Int64) dX6_add_124 (by decide) ?_
            refine v_lcmp dX6_add_125 ?_
            refine v_if_ge 131 dX6_add_126 (by decide) h (fun h => ?_) (fun h => ?_)
            · refine v_aload_n dX6_add_131 rfl (lv_at hl 6 rfl) ?_
              refine v_getR 6 2 h (by decide) rfl qfX6_19 dX6_add_132 (fun r24 h => ?_)
              refine v_iload_n dX6_add_135 rfl (lv_at hl 7 rfl) ?_
              refine v_lald dX6_add_136 h (fun v25 h => ?_)
              refine v_lload dX6_add_137 (lv_at hl 4 rfl) ?_
              refine v_lmul dX6_add_139 ?_
              refine v_nmJ h (fun l15_26 h => ?_)
              refine v_lstore [(15, .long l15_26), (13, .long l13_23), (11, .long l11_22), (9, .long l9_20), (7, .long l7_9), (5, .long l5_6), (3, .long v4), (0, .ref (xb X + a0)), (1, .int l1), (2, .ref (xb X + a2))] dX6_add_140 hl (by decide) rfl (fun ls hl => ?_)
              refine v_lload dX6_add_142 (lv_at hl 1 rfl) ?_
              refine v_lload dX6_add_144 (lv_at hl 0 rfl) ?_
              refine k_X2_greatestIn h qmX6_32 (by decide) hl.1 (Nat.le_of_ble_eq_true rfl) dX6_add_146 (fun v27 s h => ?_)
              refine v_lstore_n [(3, .long v27), (15, .long l15_26), (13, .long l13_23), (11, .long l11_22), (9, .long l9_20), (7, .long l7_9), (5, .long l5_6), (0, .ref (xb X + a0)), (1, .int l1), (2, .ref (xb X + a2))] dX6_add_149 rfl hl (by decide) rfl (fun ls hl => ?_)
              refine v_aload_n dX6_add_150 rfl (lv_at hl 7 rfl) ?_
              refine v_getR 6 1 h (by decide) rfl qfX6_15 dX6_add_151 (fun r28 h => ?_)
              refine v_iload_n dX6_add_154 rfl (lv_at hl 8 rfl) ?_
              refine v_lload dX6_add_155 (lv_at hl 2 rfl) ?_
              refine v_lload_n dX6_add_157 rfl (lv_at hl 0 rfl) ?_
              refine v_ldiv dX6_add_158 h (fun h => ?_)
              refine v_last dX6_add_159 h (fun s h => ?_)
              refine v_aload_n dX6_add_160 rfl (lv_at hl 7 rfl) ?_
              refine v_getR 6 2 h (by decide) rfl qfX6_19 dX6_add_161 (fun r29 h => ?_)
              refine v_iload_n dX6_add_164 rfl (lv_at hl 8 rfl) ?_
              refine v_lload dX6_add_165 (lv_at hl 1 rfl) ?_
              refine v_lload_n dX6_add_167 rfl (lv_at hl 0 rfl) ?_
              refine v_ldiv dX6_add_168 h (fun h => ?_)
              refine v_last dX6_add_169 h (fun s h => ?_)
              refine v_iconst (1 : Int32) dX6_add_170 (by decide) ?_
              exact v_zret dX6_add_171 h
            · refine v_iconst (0 : Int32) dX6_add_129 (by decide) ?_
              exact v_zret dX6_add_130 h
          · exact L_X6_add_84 N  s ls (lv_sub hl [] rfl) h
    · exact L_X6_add_10 N  s ls (lv_sub hl [] rfl) h
theorem k_X6_add {X : VX} {cc : ByteArray} {own : String} {nL fr lo : Nat} {ini : Bool} {E : VX → Prop} {sF s : vS} {ρ : Type} {res : ρ} {pc : Nat} {ls : Array Slot} {rest : List Value} {N index : Nat} {a0 : Nat} {l1 : Int32} {a2 : Nat} {f : Int32 → vS → Option ρ} (h : bnd (F_X6_add N a0 l1 a2 s) f = some res) (hlink : Cond.methodLink own index yX6_add ∈ TT) (hR : 1 + 1 ≤ fr ∧ 8 + (17 + 11) + 30 ≤ lo) (hls : ls.size = nL) (hr : (rest.map fun v => v.category).sum ≤ 8) (hdg : decode cc pc = .ok (.invokevirtual index, 3)) (kk : ∀ r s', f r s' = some res → V X (cc, own, nL, fr, lo, ini) E sF s' (G0 X (pc + 3) ls (.int r :: rest))) : V X (cc, own, nL, fr, lo, ini) E sF s (G0 X pc ls (.ref (xb X + a2) :: .int l1 :: .ref (xb X + a0) :: rest)) := by
  obtain ⟨r, s', e, h⟩ := bnd_some h
  exact v_callV (b := a0) (ci := 6) (As := [.int l1, .ref (xb X + a2)]) (rest := rest) (c_X6_add X N a0 l1 a2 s s' r e).2 (c_X6_add (l := xl X) (D := xD X) (ka := xka X) X N a0 l1 a2 s s' r e).1 rfl vl_X6_add qi_X6_add qe_X6_add hlink hR rfl rfl hls hr hdg (kk r s' h)
set_option maxHeartbeats 4000000 in
set_option maxRecDepth 100000 in
theorem L_X0_spread_136 {X : VX} {sF : vS} {r : Int32} (N : Nat) (k50 : Nat → Int32 → Int32 → Nat → Int32 → Int32 → vS → Option (Int32 × vS)) (hk50 : ∀ (a0 : Nat) (l1 : Int32) (l2 : Int32) (a3 : Nat) (l5 : Int32) (l7 : Int32) (s : vS) (ls : Array Slot), lv_has ls 8 [(0, .ref (xb X + a0)), (1, .int l1), (2, .int l2), (3, .ref (xb X + a3)), (5, .int l5), (7, .int l7)] → k50 a0 l1 l2 a3 l5 l7 s = some (r, sF) → V X (cX0_spread, RX0, 8, 2, 68, false) (vRet sF (some (.int r)) (some .boolean)) sF s (G0 X 50 ls [])) (a0 : Nat) (l1 : Int32) (l2 : Int32) (a3 : Nat) (l5 : Int32) (l7 : Int32) (s : vS) (ls : Array Slot) (hl : lv_has ls 8 [(0, .ref (xb X + a0)), (1, .int l1), (2, .int l2), (3, .ref (xb X + a3)), (5, .int l5), (7, .int l7)]) (h : J_X0_spread_136 N k50 a0 l1 l2 a3 l5 l7 s = some (r, sF)) : V X (cX0_spread, RX0, 8, 2, 68, false) (vRet sF (some (.int r)) (some .boolean)) sF s (G0 X 136 ls []) := by
  unfold J_X0_spread_136 at h
  refine v_inc (fun z => [(7, .int z), (0, .ref (xb X + a0)), (1, .int l1), (2, .int l2), (3, .ref (xb X + a3)), (5, .int l5)]) dX0_spread_136 h hl (k := 5) rfl (by rfl) (by decide) (fun _ => rfl) (fun l7_22 ls hl h => ?_)
  refine v_goto 50 dX0_spread_139 (by decide) ?_
  exact hk50 a0 l1 l2 a3 l5 l7_22 s ls (lv_sub hl [1, 2, 3, 4, 5, 0] rfl) h
set_option maxHeartbeats 4000000 in
set_option maxRecDepth 100000 in
theorem L_X0_spread_134 {X : VX} {sF : vS} {r : Int32} (N : Nat) (s : vS) (ls : Array Slot) (hl : lv_has ls 8 []) (h : J_X0_spread_134 N  s = some (r, sF)) : V X (cX0_spread, RX0, 8, 2, 68, false) (vRet sF (some (.int r)) (some .boolean)) sF s (G0 X 134 ls []) := by
  unfold J_X0_spread_134 at h
  refine v_iconst (0 : Int32) dX0_spread_134 (by decide) ?_
  exact v_zret dX0_spread_135 h
set_option maxHeartbeats 4000000 in
set_option maxRecDepth 100000 in
theorem L_X0_spread_50 {X : VX} {sF : vS} {r : Int32} (N : Nat) : ∀ (n : Nat) (a0 : Nat) (l1 : Int32) (l2 : Int32) (a3 : Nat) (l5 : Int32) (l7 : Int32) (s : vS) (ls : Array Slot), lv_has ls 8 [(0, .ref (xb X + a0)), (1, .int l1), (2, .int l2), (3, .ref (xb X + a3)), (5, .int l5), (7, .int l7)] → H_X0_spread_50 N n a0 l1 l2 a3 l5 l7 s = some (r, sF) → V X (cX0_spread, RX0, 8, 2, 68, false) (vRet sF (some (.int r)) (some .boolean)) sF s (G0 X 50 ls []) := by
  intro n
  induction n with
  | zero => intro a0 l1 l2 a3 l5 l7 s ls hl h; cases h
  | succ n ih =>
   intro a0 l1 l2 a3 l5 l7 s ls hl h
   unfold H_X0_spread_50 at h
   refine v_iload dX0_spread_50 (lv_at hl 5 rfl) ?_
   refine v_iload dX0_spread_52 (lv_at hl 4 rfl) ?_
   refine v_icmp_ge 142 dX0_spread_54 (by decide) h (fun h => ?_) (fun h => ?_)
   · refine v_iconst (1 : Int32) dX0_spread_142 (by decide) ?_
     exact v_zret dX0_spread_143 h
   · refine v_aload_n dX0_spread_57 rfl (lv_at hl 0 rfl) ?_
     refine v_getR 0 6 h (by decide) rfl qfX0_32 dX0_spread_58 (fun r7 h => ?_)
     refine v_aload_n dX0_spread_61 rfl (lv_at hl 3 rfl) ?_
     refine v_iload_n dX0_spread_62 rfl (lv_at hl 1 rfl) ?_
     refine v_iload_n dX0_spread_63 rfl (lv_at hl 2 rfl) ?_
     refine v_iload dX0_spread_64 (lv_at hl 5 rfl) ?_
     refine k_X1_jointsIn h qmX0_143 (by decide) hl.1 (Nat.le_of_ble_eq_true rfl) dX0_spread_66 (fun v8 s h => ?_)
     refine v_i2l dX0_spread_69 ?_
     refine v_aload_n dX0_spread_70 rfl (lv_at hl 3 rfl) ?_
     refine v_iload_n dX0_spread_71 rfl (lv_at hl 1 rfl) ?_
     refine v_iload_n dX0_spread_72 rfl (lv_at hl 2 rfl) ?_
     refine v_iload dX0_spread_73 (lv_at hl 5 rfl) ?_
     refine k_X1_pairsIn h qmX0_147 (by decide) hl.1 (Nat.le_of_ble_eq_true rfl) dX0_spread_75 (fun v9 s h => ?_)
     refine v_i2l dX0_spread_78 ?_
     refine k_X2_become h qmX0_45 (by decide) hl.1 (Nat.le_of_ble_eq_true rfl) dX0_spread_79 (fun v10 s h => ?_)
     refine v_aload_n dX0_spread_82 rfl (lv_at hl 0 rfl) ?_
     refine v_getR 0 6 h (by decide) rfl qfX0_32 dX0_spread_83 (fun r11 h => ?_)
     refine v_getJ 2 0 h (by decide) rfl qfX0_150 dX0_spread_86 (fun v12 h => ?_)
     refine v_lconst (0 : Int64) dX0_spread_89 (by decide) ?_
     refine v_lcmp dX0_spread_90 ?_
     refine v_if_eq 136 dX0_spread_91 (by decide) h (fun h => ?_) (fun h => ?_)
     · exact L_X0_spread_136 N (H_X0_spread_50 N n) ih a0 l1 l2 a3 l5 l7 s ls (lv_sub hl [0, 1, 2, 3, 4, 5] rfl) h
     · refine v_aload_n dX0_spread_94 rfl (lv_at hl 0 rfl) ?_
       refine v_getR 0 6 h (by decide) rfl qfX0_32 dX0_spread_95 (fun r13 h => ?_)
       refine v_aload_n dX0_spread_98 rfl (lv_at hl 0 rfl) ?_
       refine v_getR 0 5 h (by decide) rfl qfX0_28 dX0_spread_99 (fun r14 h => ?_)
       refine v_getJ 2 0 h (by decide) rfl qfX0_150 dX0_spread_102 (fun v15 h => ?_)
       refine v_aload_n dX0_spread_105 rfl (lv_at hl 0 rfl) ?_
       refine v_getR 0 5 h (by decide) rfl qfX0_28 dX0_spread_106 (fun r16 h => ?_)
       refine v_getJ 2 1 h (by decide) rfl qfX0_153 dX0_spread_109 (fun v17 h => ?_)
       refine k_X2_times h qmX0_118 (by decide) hl.1 (Nat.le_of_ble_eq_true rfl) dX0_spread_112 (fun v18 s h => ?_)
       refine v_if_eq 134 dX0_spread_115 (by decide) h (fun h => ?_) (fun h => ?_)
       · exact L_X0_spread_134 N  s ls (lv_sub hl [] rfl) h
       · refine v_aload_n dX0_spread_118 rfl (lv_at hl 0 rfl) ?_
         refine v_getR 0 4 h (by decide) rfl qfX0_21 dX0_spread_119 (fun r19 h => ?_)
         refine v_iload dX0_spread_122 (lv_at hl 5 rfl) ?_
         refine v_aload_n dX0_spread_124 rfl (lv_at hl 0 rfl) ?_
         refine v_getR 0 6 h (by decide) rfl qfX0_32 dX0_spread_125 (fun r20 h => ?_)
         refine k_X6_add h qmX0_122 (by decide) hl.1 (Nat.le_of_ble_eq_true rfl) dX0_spread_128 (fun v21 s h => ?_)
         refine v_if_ne 136 dX0_spread_131 (by decide) h (fun h => ?_) (fun h => ?_)
         · exact L_X0_spread_136 N (H_X0_spread_50 N n) ih a0 l1 l2 a3 l5 l7 s ls (lv_sub hl [0, 1, 2, 3, 4, 5] rfl) h
         · exact L_X0_spread_134 N  s ls (lv_sub hl [] rfl) h
set_option maxHeartbeats 4000000 in
set_option maxRecDepth 100000 in
theorem L_X0_spread_44 {X : VX} {sF : vS} {r : Int32} (N : Nat) (a0 : Nat) (l1 : Int32) (l2 : Int32) (a3 : Nat) (l5 : Int32) (k0 : Int32) (s : vS) (ls : Array Slot) (hl : lv_has ls 8 [(0, .ref (xb X + a0)), (1, .int l1), (2, .int l2), (3, .ref (xb X + a3)), (5, .int l5)]) (h : J_X0_spread_44 N a0 l1 l2 a3 l5 k0 s = some (r, sF)) : V X (cX0_spread, RX0, 8, 2, 68, false) (vRet sF (some (.int r)) (some .boolean)) sF s (G0 X 44 ls [.int k0]) := by
  unfold J_X0_spread_44 at h
  refine v_istore [(6, .int k0), (0, .ref (xb X + a0)), (1, .int l1), (2, .int l2), (3, .ref (xb X + a3)), (5, .int l5)] dX0_spread_44 hl (by decide) rfl (fun ls hl => ?_)
  refine v_iload dX0_spread_46 (lv_at hl 0 rfl) ?_
  refine v_istore [(7, .int k0), (6, .int k0), (0, .ref (xb X + a0)), (1, .int l1), (2, .int l2), (3, .ref (xb X + a3)), (5, .int l5)] dX0_spread_48 hl (by decide) rfl (fun ls hl => ?_)
  exact L_X0_spread_50 N N a0 l1 l2 a3 l5 k0 s ls (lv_sub hl [2, 3, 4, 5, 6, 0] rfl) h
set_option maxHeartbeats 4000000 in
set_option maxRecDepth 100000 in
theorem L_X0_spread_22 {X : VX} {sF : vS} {r : Int32} (N : Nat) (a0 : Nat) (l1 : Int32) (l2 : Int32) (a3 : Nat) (l4 : Int32) (k0 : Int32) (s : vS) (ls : Array Slot) (hl : lv_has ls 8 [(0, .ref (xb X + a0)), (1, .int l1), (2, .int l2), (3, .ref (xb X + a3)), (4, .int l4)]) (h : J_X0_spread_22 N a0 l1 l2 a3 l4 k0 s = some (r, sF)) : V X (cX0_spread, RX0, 8, 2, 68, false) (vRet sF (some (.int r)) (some .boolean)) sF s (G0 X 22 ls [.int k0]) := by
  unfold J_X0_spread_22 at h
  refine v_istore [(5, .int k0), (0, .ref (xb X + a0)), (1, .int l1), (2, .int l2), (3, .ref (xb X + a3)), (4, .int l4)] dX0_spread_22 hl (by decide) rfl (fun ls hl => ?_)
  refine v_aload_n dX0_spread_24 rfl (lv_at hl 4 rfl) ?_
  refine v_iload dX0_spread_25 (lv_at hl 5 rfl) ?_
  refine k_X1_hasSize h qmX0_136 (by decide) hl.1 (Nat.le_of_ble_eq_true rfl) dX0_spread_27 (fun v4 s h => ?_)
  refine v_if_eq 43 dX0_spread_30 (by decide) h (fun h => ?_) (fun h => ?_)
  · refine v_iconst (0 : Int32) dX0_spread_43 (by decide) ?_
    exact L_X0_spread_44 N a0 l1 l2 a3 k0 (0 : Int32) s ls (lv_sub hl [1, 2, 3, 4, 0] rfl) h
  · refine v_aload_n dX0_spread_33 rfl (lv_at hl 4 rfl) ?_
    refine v_getR 1 6 h (by decide) rfl qfX0_140 dX0_spread_34 (fun r5 h => ?_)
    refine v_iload dX0_spread_37 (lv_at hl 5 rfl) ?_
    refine v_iald dX0_spread_39 h (fun v6 h => ?_)
    refine v_goto 44 dX0_spread_40 (by decide) ?_
    exact L_X0_spread_44 N a0 l1 l2 a3 k0 v6 s ls (lv_sub hl [1, 2, 3, 4, 0] rfl) h
theorem vl_X0_spread : vCl yX0_spread cX0_spread 8 (some .boolean) 4 := ⟨qy_X0_spread, qjX0, by decide +kernel, by decide +kernel, by decide +kernel⟩
set_option maxHeartbeats 4000000 in
set_option maxRecDepth 100000 in
theorem c_X0_spread {l : Launch} {D : va_G} {ka : Nat → ClassId} (X0 : VX) (N : Nat) (a0 : Nat) (l1 : Int32) (l2 : Int32) (a3 : Nat) (l4 : Int32) (s sF : vS) (r : Int32) (h : F_X0_spread N a0 l1 l2 a3 l4 s = some (r, sF)) : isO s a0 0 = true ∧ vMet l D ka (xb X0) yX0_spread cX0_spread 8 (some .boolean) 2 68 [.ref (xb X0 + a0), .int l1, .int l2, .ref (xb X0 + a3), .int l4] s sF (some (.int r)) := by
  unfold F_X0_spread at h
  unfold rcv at h
  obtain ⟨hO, h⟩ := v_chk h
  refine ⟨hO, vMet.of (ini := false) X0 (plainFor_of_name (by decide +kernel)) (Nat.le_of_ble_eq_true rfl) (fun h => by cases h) (fun X ls hb hl => ?_) rfl⟩
  show V X (cX0_spread, RX0, 8, 2, 68, false) (vRet sF (some (.int r)) (some .boolean)) sF s (G0 X 0 ls [])
  rw [← hb] at hl
  have hl : lv_has ls 8 [(0, .ref (xb X + a0)), (1, .int l1), (2, .int l2), (3, .ref (xb X + a3)), (4, .int l4)] := hl
  refine v_aload_n dX0_spread_0 rfl (lv_at hl 3 rfl) ?_
  refine v_iload dX0_spread_1 (lv_at hl 4 rfl) ?_
  refine k_X1_hasSize h qmX0_136 (by decide) hl.1 (Nat.le_of_ble_eq_true rfl) dX0_spread_3 (fun v1 s h => ?_)
  refine v_if_eq 21 dX0_spread_6 (by decide) h (fun h => ?_) (fun h => ?_)
  · refine v_iconst (0 : Int32) dX0_spread_21 (by decide) ?_
    exact L_X0_spread_22 N a0 l1 l2 a3 l4 (0 : Int32) s ls (lv_sub hl [0, 1, 2, 3, 4] rfl) h
  · refine v_aload_n dX0_spread_9 rfl (lv_at hl 3 rfl) ?_
    refine v_getR 1 6 h (by decide) rfl qfX0_140 dX0_spread_10 (fun r2 h => ?_)
    refine v_iload dX0_spread_13 (lv_at hl 4 rfl) ?_
    refine v_iconst (1 : Int32) dX0_spread_15 (by decide) ?_
    refine v_iadd dX0_spread_16 ?_
    refine v_iald dX0_spread_17 h (fun v3 h => ?_)
    refine v_goto 22 dX0_spread_18 (by decide) ?_
    exact L_X0_spread_22 N a0 l1 l2 a3 l4 v3 s ls (lv_sub hl [0, 1, 2, 3, 4] rfl) h
theorem k_X0_spread {X : VX} {cc : ByteArray} {own : String} {nL fr lo : Nat} {ini : Bool} {E : VX → Prop} {sF s : vS} {ρ : Type} {res : ρ} {pc : Nat} {ls : Array Slot} {rest : List Value} {N index : Nat} {a0 : Nat} {l1 : Int32} {l2 : Int32} {a3 : Nat} {l4 : Int32} {f : Int32 → vS → Option ρ} (h : bnd (F_X0_spread N a0 l1 l2 a3 l4 s) f = some res) (hlink : Cond.methodLink own index yX0_spread ∈ TT) (hR : 2 + 1 ≤ fr ∧ 8 + (8 + 11) + 68 ≤ lo) (hls : ls.size = nL) (hr : (rest.map fun v => v.category).sum ≤ 8) (hdg : decode cc pc = .ok (.invokevirtual index, 3)) (kk : ∀ r s', f r s' = some res → V X (cc, own, nL, fr, lo, ini) E sF s' (G0 X (pc + 3) ls (.int r :: rest))) : V X (cc, own, nL, fr, lo, ini) E sF s (G0 X pc ls (.int l4 :: .ref (xb X + a3) :: .int l2 :: .int l1 :: .ref (xb X + a0) :: rest)) := by
  obtain ⟨r, s', e, h⟩ := bnd_some h
  exact v_callV (b := a0) (ci := 0) (As := [.int l1, .int l2, .ref (xb X + a3), .int l4]) (rest := rest) (c_X0_spread X N a0 l1 l2 a3 l4 s s' r e).2 (c_X0_spread (l := xl X) (D := xD X) (ka := xka X) X N a0 l1 l2 a3 l4 s s' r e).1 rfl vl_X0_spread qi_X0_spread qe_X0_spread hlink hR rfl rfl hls hr hdg (kk r s' h)
set_option maxHeartbeats 4000000 in
set_option maxRecDepth 100000 in
theorem L_X0_multiply_147 {X : VX} {sF : vS} {r : Int32} (N : Nat) (k17 : Nat → Nat → Nat → Int32 → Nat → Int32 → vS → Option (Int32 × vS)) (k30 : Nat → Nat → Nat → Int32 → Nat → Int32 → Int32 → vS → Option (Int32 × vS)) (hk17 : ∀ (a0 : Nat) (a1 : Nat) (a2 : Nat) (l4 : Int32) (a5 : Nat) (l6 : Int32) (s : vS) (ls : Array Slot), lv_has ls 8 [(0, .ref (xb X + a0)), (1, .ref (xb X + a1)), (2, .ref (xb X + a2)), (4, .int l4), (5, .ref (xb X + a5)), (6, .int l6)] → k17 a0 a1 a2 l4 a5 l6 s = some (r, sF) → V X (cX0_multiply, RX0, 8, 3, 95, false) (vRet sF (some (.int r)) (some .boolean)) sF s (G0 X 17 ls [])) (hk30 : ∀ (a0 : Nat) (a1 : Nat) (a2 : Nat) (l4 : Int32) (a5 : Nat) (l6 : Int32) (l7 : Int32) (s : vS) (ls : Array Slot), lv_has ls 8 [(0, .ref (xb X + a0)), (1, .ref (xb X + a1)), (2, .ref (xb X + a2)), (4, .int l4), (5, .ref (xb X + a5)), (6, .int l6), (7, .int l7)] → k30 a0 a1 a2 l4 a5 l6 l7 s = some (r, sF) → V X (cX0_multiply, RX0, 8, 3, 95, false) (vRet sF (some (.int r)) (some .boolean)) sF s (G0 X 30 ls [])) (a0 : Nat) (a1 : Nat) (a2 : Nat) (l4 : Int32) (a5 : Nat) (l6 : Int32) (l7 : Int32) (s : vS) (ls : Array Slot) (hl : lv_has ls 8 [(0, .ref (xb X + a0)), (1, .ref (xb X + a1)), (2, .ref (xb X + a2)), (4, .int l4), (5, .ref (xb X + a5)), (6, .int l6), (7, .int l7)]) (h : J_X0_multiply_147 N k17 k30 a0 a1 a2 l4 a5 l6 l7 s = some (r, sF)) : V X (cX0_multiply, RX0, 8, 3, 95, false) (vRet sF (some (.int r)) (some .boolean)) sF s (G0 X 147 ls []) := by
  unfold J_X0_multiply_147 at h
  refine v_inc (fun z => [(7, .int z), (0, .ref (xb X + a0)), (1, .ref (xb X + a1)), (2, .ref (xb X + a2)), (4, .int l4), (5, .ref (xb X + a5)), (6, .int l6)]) dX0_multiply_147 h hl (k := 6) rfl (by rfl) (by decide) (fun _ => rfl) (fun l7_24 ls hl h => ?_)
  refine v_goto 30 dX0_multiply_150 (by decide) ?_
  exact hk30 a0 a1 a2 l4 a5 l6 l7_24 s ls (lv_sub hl [1, 2, 3, 4, 5, 6, 0] rfl) h
set_option maxHeartbeats 4000000 in
set_option maxRecDepth 100000 in
theorem L_X0_multiply_145 {X : VX} {sF : vS} {r : Int32} (N : Nat) (s : vS) (ls : Array Slot) (hl : lv_has ls 8 []) (h : J_X0_multiply_145 N  s = some (r, sF)) : V X (cX0_multiply, RX0, 8, 3, 95, false) (vRet sF (some (.int r)) (some .boolean)) sF s (G0 X 145 ls []) := by
  unfold J_X0_multiply_145 at h
  refine v_iconst (0 : Int32) dX0_multiply_145 (by decide) ?_
  exact v_zret dX0_multiply_146 h
set_option maxHeartbeats 4000000 in
set_option maxRecDepth 100000 in
theorem L_X0_multiply_139 {X : VX} {sF : vS} {r : Int32} (N : Nat) (k17 : Nat → Nat → Nat → Int32 → Nat → Int32 → vS → Option (Int32 × vS)) (k30 : Nat → Nat → Nat → Int32 → Nat → Int32 → Int32 → vS → Option (Int32 × vS)) (hk17 : ∀ (a0 : Nat) (a1 : Nat) (a2 : Nat) (l4 : Int32) (a5 : Nat) (l6 : Int32) (s : vS) (ls : Array Slot), lv_has ls 8 [(0, .ref (xb X + a0)), (1, .ref (xb X + a1)), (2, .ref (xb X + a2)), (4, .int l4), (5, .ref (xb X + a5)), (6, .int l6)] → k17 a0 a1 a2 l4 a5 l6 s = some (r, sF) → V X (cX0_multiply, RX0, 8, 3, 95, false) (vRet sF (some (.int r)) (some .boolean)) sF s (G0 X 17 ls [])) (hk30 : ∀ (a0 : Nat) (a1 : Nat) (a2 : Nat) (l4 : Int32) (a5 : Nat) (l6 : Int32) (l7 : Int32) (s : vS) (ls : Array Slot), lv_has ls 8 [(0, .ref (xb X + a0)), (1, .ref (xb X + a1)), (2, .ref (xb X + a2)), (4, .int l4), (5, .ref (xb X + a5)), (6, .int l6), (7, .int l7)] → k30 a0 a1 a2 l4 a5 l6 l7 s = some (r, sF) → V X (cX0_multiply, RX0, 8, 3, 95, false) (vRet sF (some (.int r)) (some .boolean)) sF s (G0 X 30 ls [])) (a0 : Nat) (a1 : Nat) (a2 : Nat) (l4 : Int32) (a5 : Nat) (l6 : Int32) (l7 : Int32) (k0 : Nat) (k1 : Int32) (k2 : Int32) (k3 : Nat) (k4 : Int32) (s : vS) (ls : Array Slot) (hl : lv_has ls 8 [(0, .ref (xb X + a0)), (1, .ref (xb X + a1)), (2, .ref (xb X + a2)), (4, .int l4), (5, .ref (xb X + a5)), (6, .int l6), (7, .int l7)]) (h : J_X0_multiply_139 N k17 k30 a0 a1 a2 l4 a5 l6 l7 k0 k1 k2 k3 k4 s = some (r, sF)) : V X (cX0_multiply, RX0, 8, 3, 95, false) (vRet sF (some (.int r)) (some .boolean)) sF s (G0 X 139 ls [.int k4, .ref (xb X + k3), .int k2, .int k1, .ref (xb X + k0)]) := by
  unfold J_X0_multiply_139 at h
  refine k_X0_spread h qmX0_132 (by decide) hl.1 (Nat.le_of_ble_eq_true rfl) dX0_multiply_139 (fun v25 s h => ?_)
  refine v_if_ne 147 dX0_multiply_142 (by decide) h (fun h => ?_) (fun h => ?_)
  · exact L_X0_multiply_147 N k17 k30 hk17 hk30 a0 a1 a2 l4 a5 l6 l7 s ls (lv_sub hl [0, 1, 2, 3, 4, 5, 6] rfl) h
  · exact L_X0_multiply_145 N  s ls (lv_sub hl [] rfl) h
set_option maxHeartbeats 4000000 in
set_option maxRecDepth 100000 in
theorem L_X0_multiply_30 {X : VX} {sF : vS} {r : Int32} (N : Nat) (k17 : Nat → Nat → Nat → Int32 → Nat → Int32 → vS → Option (Int32 × vS)) (hk17 : ∀ (a0 : Nat) (a1 : Nat) (a2 : Nat) (l4 : Int32) (a5 : Nat) (l6 : Int32) (s : vS) (ls : Array Slot), lv_has ls 8 [(0, .ref (xb X + a0)), (1, .ref (xb X + a1)), (2, .ref (xb X + a2)), (4, .int l4), (5, .ref (xb X + a5)), (6, .int l6)] → k17 a0 a1 a2 l4 a5 l6 s = some (r, sF) → V X (cX0_multiply, RX0, 8, 3, 95, false) (vRet sF (some (.int r)) (some .boolean)) sF s (G0 X 17 ls [])) : ∀ (n : Nat) (a0 : Nat) (a1 : Nat) (a2 : Nat) (l4 : Int32) (a5 : Nat) (l6 : Int32) (l7 : Int32) (s : vS) (ls : Array Slot), lv_has ls 8 [(0, .ref (xb X + a0)), (1, .ref (xb X + a1)), (2, .ref (xb X + a2)), (4, .int l4), (5, .ref (xb X + a5)), (6, .int l6), (7, .int l7)] → H_X0_multiply_30 N k17 n a0 a1 a2 l4 a5 l6 l7 s = some (r, sF) → V X (cX0_multiply, RX0, 8, 3, 95, false) (vRet sF (some (.int r)) (some .boolean)) sF s (G0 X 30 ls []) := by
  intro n
  induction n with
  | zero => intro a0 a1 a2 l4 a5 l6 l7 s ls hl h; cases h
  | succ n ih =>
   intro a0 a1 a2 l4 a5 l6 l7 s ls hl h
   unfold H_X0_multiply_30 at h
   refine v_iload dX0_multiply_30 (lv_at hl 6 rfl) ?_
   refine v_aload dX0_multiply_32 (lv_at hl 4 rfl) ?_
   refine v_getI 1 2 h (by decide) (Or.inl rfl) qfX0_73 dX0_multiply_34 (fun v5 h => ?_)
   refine v_icmp_ge 153 dX0_multiply_37 (by decide) h (fun h => ?_) (fun h => ?_)
   · refine v_inc (fun z => [(6, .int z), (0, .ref (xb X + a0)), (1, .ref (xb X + a1)), (2, .ref (xb X + a2)), (4, .int l4), (5, .ref (xb X + a5)), (7, .int l7)]) dX0_multiply_153 h hl (k := 5) rfl (by rfl) (by decide) (fun _ => rfl) (fun l6_6 ls hl h => ?_)
     refine v_goto 17 dX0_multiply_156 (by decide) ?_
     exact hk17 a0 a1 a2 l4 a5 l6_6 s ls (lv_sub hl [1, 2, 3, 4, 5, 0] rfl) h
   · refine v_aload_n dX0_multiply_40 rfl (lv_at hl 1 rfl) ?_
     refine v_getR 6 1 h (by decide) rfl qfX0_74 dX0_multiply_41 (fun r7 h => ?_)
     refine v_iload dX0_multiply_44 (lv_at hl 5 rfl) ?_
     refine v_lald dX0_multiply_46 h (fun v8 h => ?_)
     refine v_lconst (0 : Int64) dX0_multiply_47 (by decide) ?_
     refine v_lcmp dX0_multiply_48 ?_
     refine v_if_eq 147 dX0_multiply_49 (by decide) h (fun h => ?_) (fun h => ?_)
     · exact L_X0_multiply_147 N k17 (H_X0_multiply_30 N k17 n) hk17 ih a0 a1 a2 l4 a5 l6 l7 s ls (lv_sub hl [0, 1, 2, 3, 4, 5, 6] rfl) h
     · refine v_aload_n dX0_multiply_52 rfl (lv_at hl 2 rfl) ?_
       refine v_getR 6 1 h (by decide) rfl qfX0_74 dX0_multiply_53 (fun r9 h => ?_)
       refine v_iload dX0_multiply_56 (lv_at hl 6 rfl) ?_
       refine v_lald dX0_multiply_58 h (fun v10 h => ?_)
       refine v_lconst (0 : Int64) dX0_multiply_59 (by decide) ?_
       refine v_lcmp dX0_multiply_60 ?_
       refine v_if_ne 67 dX0_multiply_61 (by decide) h (fun h => ?_) (fun h => ?_)
       · refine v_aload_n dX0_multiply_67 rfl (lv_at hl 0 rfl) ?_
         refine v_getR 0 5 h (by decide) rfl qfX0_28 dX0_multiply_68 (fun r11 h => ?_)
         refine v_aload_n dX0_multiply_71 rfl (lv_at hl 1 rfl) ?_
         refine v_getR 6 1 h (by decide) rfl qfX0_74 dX0_multiply_72 (fun r12 h => ?_)
         refine v_iload dX0_multiply_75 (lv_at hl 5 rfl) ?_
         refine v_lald dX0_multiply_77 h (fun v13 h => ?_)
         refine v_aload_n dX0_multiply_78 rfl (lv_at hl 1 rfl) ?_
         refine v_getR 6 2 h (by decide) rfl qfX0_113 dX0_multiply_79 (fun r14 h => ?_)
         refine v_iload dX0_multiply_82 (lv_at hl 5 rfl) ?_
         refine v_lald dX0_multiply_84 h (fun v15 h => ?_)
         refine k_X2_become h qmX0_45 (by decide) hl.1 (Nat.le_of_ble_eq_true rfl) dX0_multiply_85 (fun v16 s h => ?_)
         refine v_aload_n dX0_multiply_88 rfl (lv_at hl 0 rfl) ?_
         refine v_getR 0 5 h (by decide) rfl qfX0_28 dX0_multiply_89 (fun r17 h => ?_)
         refine v_aload_n dX0_multiply_92 rfl (lv_at hl 2 rfl) ?_
         refine v_getR 6 1 h (by decide) rfl qfX0_74 dX0_multiply_93 (fun r18 h => ?_)
         refine v_iload dX0_multiply_96 (lv_at hl 6 rfl) ?_
         refine v_lald dX0_multiply_98 h (fun v19 h => ?_)
         refine v_aload_n dX0_multiply_99 rfl (lv_at hl 2 rfl) ?_
         refine v_getR 6 2 h (by decide) rfl qfX0_113 dX0_multiply_100 (fun r20 h => ?_)
         refine v_iload dX0_multiply_103 (lv_at hl 6 rfl) ?_
         refine v_lald dX0_multiply_105 h (fun v21 h => ?_)
         refine k_X2_times h qmX0_118 (by decide) hl.1 (Nat.le_of_ble_eq_true rfl) dX0_multiply_106 (fun v22 s h => ?_)
         refine v_if_eq 145 dX0_multiply_109 (by decide) h (fun h => ?_) (fun h => ?_)
         · exact L_X0_multiply_145 N  s ls (lv_sub hl [] rfl) h
         · refine v_aload_n dX0_multiply_112 rfl (lv_at hl 0 rfl) ?_
           refine v_iload dX0_multiply_113 (lv_at hl 5 rfl) ?_
           refine v_iload dX0_multiply_115 (lv_at hl 6 rfl) ?_
           refine v_aload dX0_multiply_117 (lv_at hl 4 rfl) ?_
           refine v_iload dX0_multiply_119 (lv_at hl 3 rfl) ?_
           refine v_iconst (-1 : Int32) dX0_multiply_121 (by decide) ?_
           refine v_icmp_ne 137 dX0_multiply_122 (by decide) h (fun h => ?_) (fun h => ?_)
           · refine v_iload dX0_multiply_137 (lv_at hl 3 rfl) ?_
             exact L_X0_multiply_139 N k17 (H_X0_multiply_30 N k17 n) hk17 ih a0 a1 a2 l4 a5 l6 l7 a0 l6 l7 a5 l4 s ls (lv_sub hl [0, 1, 2, 3, 4, 5, 6] rfl) h
           · refine v_aload dX0_multiply_125 (lv_at hl 4 rfl) ?_
             refine v_iload dX0_multiply_127 (lv_at hl 5 rfl) ?_
             refine v_iload dX0_multiply_129 (lv_at hl 6 rfl) ?_
             refine k_X1_sizeOfBoth h qmX0_129 (by decide) hl.1 (Nat.le_of_ble_eq_true rfl) dX0_multiply_131 (fun v23 s h => ?_)
             refine v_goto 139 dX0_multiply_134 (by decide) ?_
             exact L_X0_multiply_139 N k17 (H_X0_multiply_30 N k17 n) hk17 ih a0 a1 a2 l4 a5 l6 l7 a0 l6 l7 a5 v23 s ls (lv_sub hl [0, 1, 2, 3, 4, 5, 6] rfl) h
       · refine v_goto 147 dX0_multiply_64 (by decide) ?_
         exact L_X0_multiply_147 N k17 (H_X0_multiply_30 N k17 n) hk17 ih a0 a1 a2 l4 a5 l6 l7 s ls (lv_sub hl [0, 1, 2, 3, 4, 5, 6] rfl) h
set_option maxHeartbeats 4000000 in
set_option maxRecDepth 100000 in
theorem L_X0_multiply_17 {X : VX} {sF : vS} {r : Int32} (N : Nat) : ∀ (n : Nat) (a0 : Nat) (a1 : Nat) (a2 : Nat) (l4 : Int32) (a5 : Nat) (l6 : Int32) (s : vS) (ls : Array Slot), lv_has ls 8 [(0, .ref (xb X + a0)), (1, .ref (xb X + a1)), (2, .ref (xb X + a2)), (4, .int l4), (5, .ref (xb X + a5)), (6, .int l6)] → H_X0_multiply_17 N n a0 a1 a2 l4 a5 l6 s = some (r, sF) → V X (cX0_multiply, RX0, 8, 3, 95, false) (vRet sF (some (.int r)) (some .boolean)) sF s (G0 X 17 ls []) := by
  intro n
  induction n with
  | zero => intro a0 a1 a2 l4 a5 l6 s ls hl h; cases h
  | succ n ih =>
   intro a0 a1 a2 l4 a5 l6 s ls hl h
   unfold H_X0_multiply_17 at h
   refine v_iload dX0_multiply_17 (lv_at hl 5 rfl) ?_
   refine v_aload dX0_multiply_19 (lv_at hl 4 rfl) ?_
   refine v_getI 1 2 h (by decide) (Or.inl rfl) qfX0_73 dX0_multiply_21 (fun v4 h => ?_)
   refine v_icmp_ge 159 dX0_multiply_24 (by decide) h (fun h => ?_) (fun h => ?_)
   · refine v_iconst (1 : Int32) dX0_multiply_159 (by decide) ?_
     exact v_zret dX0_multiply_160 h
   · refine v_iconst (0 : Int32) dX0_multiply_27 (by decide) ?_
     refine v_istore [(7, .int (0 : Int32)), (0, .ref (xb X + a0)), (1, .ref (xb X + a1)), (2, .ref (xb X + a2)), (4, .int l4), (5, .ref (xb X + a5)), (6, .int l6)] dX0_multiply_28 hl (by decide) rfl (fun ls hl => ?_)
     exact L_X0_multiply_30 N (H_X0_multiply_17 N n) ih N a0 a1 a2 l4 a5 l6 (0 : Int32) s ls (lv_sub hl [1, 2, 3, 4, 5, 6, 0] rfl) h
theorem vl_X0_multiply : vCl yX0_multiply cX0_multiply 8 (some .boolean) 4 := ⟨qy_X0_multiply, qjX0, by decide +kernel, by decide +kernel, by decide +kernel⟩
set_option maxHeartbeats 4000000 in
set_option maxRecDepth 100000 in
theorem c_X0_multiply {l : Launch} {D : va_G} {ka : Nat → ClassId} (X0 : VX) (N : Nat) (a0 : Nat) (a1 : Nat) (a2 : Nat) (l3 : Int32) (l4 : Int32) (s sF : vS) (r : Int32) (h : F_X0_multiply N a0 a1 a2 l3 l4 s = some (r, sF)) : isO s a0 0 = true ∧ vMet l D ka (xb X0) yX0_multiply cX0_multiply 8 (some .boolean) 3 95 [.ref (xb X0 + a0), .ref (xb X0 + a1), .ref (xb X0 + a2), .int l3, .int l4] s sF (some (.int r)) := by
  unfold F_X0_multiply at h
  unfold rcv at h
  obtain ⟨hO, h⟩ := v_chk h
  refine ⟨hO, vMet.of (ini := false) X0 (plainFor_of_name (by decide +kernel)) (Nat.le_of_ble_eq_true rfl) (fun h => by cases h) (fun X ls hb hl => ?_) rfl⟩
  show V X (cX0_multiply, RX0, 8, 3, 95, false) (vRet sF (some (.int r)) (some .boolean)) sF s (G0 X 0 ls [])
  rw [← hb] at hl
  have hl : lv_has ls 8 [(0, .ref (xb X + a0)), (1, .ref (xb X + a1)), (2, .ref (xb X + a2)), (3, .int l3), (4, .int l4)] := hl
  refine v_aload_n dX0_multiply_0 rfl (lv_at hl 0 rfl) ?_
  refine v_iload_n dX0_multiply_1 rfl (lv_at hl 3 rfl) ?_
  refine k_X0_familyOf h qmX0_69 (by decide) hl.1 (Nat.le_of_ble_eq_true rfl) dX0_multiply_2 (fun r1 s h => ?_)
  refine v_astore [(5, .ref (xb X + r1)), (0, .ref (xb X + a0)), (1, .ref (xb X + a1)), (2, .ref (xb X + a2)), (3, .int l3), (4, .int l4)] dX0_multiply_5 hl (by decide) rfl (fun ls hl => ?_)
  refine v_aload_n dX0_multiply_7 rfl (lv_at hl 1 rfl) ?_
  refine v_getR 0 4 h (by decide) rfl qfX0_21 dX0_multiply_8 (fun r2 h => ?_)
  refine k_X6_empty h qmX0_126 (by decide) hl.1 (Nat.le_of_ble_eq_true rfl) dX0_multiply_11 (fun v3 s h => ?_)
  refine v_iconst (0 : Int32) dX0_multiply_14 (by decide) ?_
  refine v_istore [(6, .int (0 : Int32)), (5, .ref (xb X + r1)), (0, .ref (xb X + a0)), (1, .ref (xb X + a1)), (2, .ref (xb X + a2)), (3, .int l3), (4, .int l4)] dX0_multiply_15 hl (by decide) rfl (fun ls hl => ?_)
  exact L_X0_multiply_17 N N a0 a1 a2 l4 r1 (0 : Int32) s ls (lv_sub hl [2, 3, 4, 6, 1, 0] rfl) h
theorem k_X0_multiply {X : VX} {cc : ByteArray} {own : String} {nL fr lo : Nat} {ini : Bool} {E : VX → Prop} {sF s : vS} {ρ : Type} {res : ρ} {pc : Nat} {ls : Array Slot} {rest : List Value} {N index : Nat} {a0 : Nat} {a1 : Nat} {a2 : Nat} {l3 : Int32} {l4 : Int32} {f : Int32 → vS → Option ρ} (h : bnd (F_X0_multiply N a0 a1 a2 l3 l4 s) f = some res) (hlink : Cond.methodLink own index yX0_multiply ∈ TT) (hR : 3 + 1 ≤ fr ∧ 8 + (8 + 11) + 95 ≤ lo) (hls : ls.size = nL) (hr : (rest.map fun v => v.category).sum ≤ 8) (hdg : decode cc pc = .ok (.invokevirtual index, 3)) (kk : ∀ r s', f r s' = some res → V X (cc, own, nL, fr, lo, ini) E sF s' (G0 X (pc + 3) ls (.int r :: rest))) : V X (cc, own, nL, fr, lo, ini) E sF s (G0 X pc ls (.int l4 :: .int l3 :: .ref (xb X + a2) :: .ref (xb X + a1) :: .ref (xb X + a0) :: rest)) := by
  obtain ⟨r, s', e, h⟩ := bnd_some h
  exact v_callV (b := a0) (ci := 0) (As := [.ref (xb X + a1), .ref (xb X + a2), .int l3, .int l4]) (rest := rest) (c_X0_multiply X N a0 a1 a2 l3 l4 s s' r e).2 (c_X0_multiply (l := xl X) (D := xD X) (ka := xka X) X N a0 a1 a2 l3 l4 s s' r e).1 rfl vl_X0_multiply qi_X0_multiply qe_X0_multiply hlink hR rfl rfl hls hr hdg (kk r s' h)
set_option maxHeartbeats 4000000 in
set_option maxRecDepth 100000 in
theorem L_X6_become_10 {X : VX} {sF : vS} {r : Unit} (N : Nat) : ∀ (n : Nat) (a0 : Nat) (a1 : Nat) (l2 : Int32) (s : vS) (ls : Array Slot), lv_has ls 3 [(0, .ref (xb X + a0)), (1, .ref (xb X + a1)), (2, .int l2)] → H_X6_become_10 N n a0 a1 l2 s = some (r, sF) → V X (cX6_become, RX6, 3, 0, 0, false) (vRet sF none none) sF s (G0 X 10 ls []) := by
  intro n
  induction n with
  | zero => intro a0 a1 l2 s ls hl h; cases h
  | succ n ih =>
   intro a0 a1 l2 s ls hl h
   unfold H_X6_become_10 at h
   refine v_iload_n dX6_become_10 rfl (lv_at hl 2 rfl) ?_
   refine v_bipush (29 : Int32) dX6_become_11 (by decide) ?_
   refine v_icmp_ge 46 dX6_become_13 (by decide) h (fun h => ?_) (fun h => ?_)
   · exact v_vret dX6_become_46 h
   · refine v_aload_n dX6_become_16 rfl (lv_at hl 0 rfl) ?_
     refine v_getR 6 1 h (by decide) rfl qfX6_15 dX6_become_17 (fun r2 h => ?_)
     refine v_iload_n dX6_become_20 rfl (lv_at hl 2 rfl) ?_
     refine v_aload_n dX6_become_21 rfl (lv_at hl 1 rfl) ?_
     refine v_getR 6 1 h (by decide) rfl qfX6_15 dX6_become_22 (fun r3 h => ?_)
     refine v_iload_n dX6_become_25 rfl (lv_at hl 2 rfl) ?_
     refine v_lald dX6_become_26 h (fun v4 h => ?_)
     refine v_last dX6_become_27 h (fun s h => ?_)
     refine v_aload_n dX6_become_28 rfl (lv_at hl 0 rfl) ?_
     refine v_getR 6 2 h (by decide) rfl qfX6_19 dX6_become_29 (fun r5 h => ?_)
     refine v_iload_n dX6_become_32 rfl (lv_at hl 2 rfl) ?_
     refine v_aload_n dX6_become_33 rfl (lv_at hl 1 rfl) ?_
     refine v_getR 6 2 h (by decide) rfl qfX6_19 dX6_become_34 (fun r6 h => ?_)
     refine v_iload_n dX6_become_37 rfl (lv_at hl 2 rfl) ?_
     refine v_lald dX6_become_38 h (fun v7 h => ?_)
     refine v_last dX6_become_39 h (fun s h => ?_)
     refine v_inc (fun z => [(2, .int z), (0, .ref (xb X + a0)), (1, .ref (xb X + a1))]) dX6_become_40 h hl (k := 2) rfl (by rfl) (by decide) (fun _ => rfl) (fun l2_8 ls hl h => ?_)
     refine v_goto 10 dX6_become_43 (by decide) ?_
     exact ih a0 a1 l2_8 s ls (lv_sub hl [1, 2, 0] rfl) h
theorem vl_X6_become : vCl yX6_become cX6_become 3 none 1 := ⟨qy_X6_become, qjX6, by decide +kernel, by decide +kernel, by decide +kernel⟩
set_option maxHeartbeats 4000000 in
set_option maxRecDepth 100000 in
theorem c_X6_become {l : Launch} {D : va_G} {ka : Nat → ClassId} (X0 : VX) (N : Nat) (a0 : Nat) (a1 : Nat) (s sF : vS) (r : Unit) (h : F_X6_become N a0 a1 s = some (r, sF)) : isO s a0 6 = true ∧ vMet l D ka (xb X0) yX6_become cX6_become 3 none 0 0 [.ref (xb X0 + a0), .ref (xb X0 + a1)] s sF none := by
  unfold F_X6_become at h
  unfold rcv at h
  obtain ⟨hO, h⟩ := v_chk h
  refine ⟨hO, vMet.of (ini := false) X0 (plainFor_of_name (by decide +kernel)) (Nat.le_of_ble_eq_true rfl) (fun h => by cases h) (fun X ls hb hl => ?_) rfl⟩
  show V X (cX6_become, RX6, 3, 0, 0, false) (vRet sF none none) sF s (G0 X 0 ls [])
  rw [← hb] at hl
  have hl : lv_has ls 3 [(0, .ref (xb X + a0)), (1, .ref (xb X + a1))] := hl
  refine v_aload_n dX6_become_0 rfl (lv_at hl 0 rfl) ?_
  refine v_aload_n dX6_become_1 rfl (lv_at hl 1 rfl) ?_
  refine v_getI 6 0 h (by decide) (Or.inl rfl) qfX6_9 dX6_become_2 (fun v1 h => ?_)
  refine v_putI 6 0 h (by decide) rfl (Or.inl rfl) qfX6_9 dX6_become_5 (fun s h => ?_)
  refine v_iconst (0 : Int32) dX6_become_8 (by decide) ?_
  refine v_istore_n [(2, .int (0 : Int32)), (0, .ref (xb X + a0)), (1, .ref (xb X + a1))] dX6_become_9 rfl hl (by decide) rfl (fun ls hl => ?_)
  exact L_X6_become_10 N N a0 a1 (0 : Int32) s ls (lv_sub hl [1, 2, 0] rfl) h
theorem k_X6_become {X : VX} {cc : ByteArray} {own : String} {nL fr lo : Nat} {ini : Bool} {E : VX → Prop} {sF s : vS} {ρ : Type} {res : ρ} {pc : Nat} {ls : Array Slot} {rest : List Value} {N index : Nat} {a0 : Nat} {a1 : Nat} {f : Unit → vS → Option ρ} (h : bnd (F_X6_become N a0 a1 s) f = some res) (hlink : Cond.methodLink own index yX6_become ∈ TT) (hR : 0 + 1 ≤ fr ∧ 8 + (3 + 11) + 0 ≤ lo) (hls : ls.size = nL) (hr : (rest.map fun v => v.category).sum ≤ 8) (hdg : decode cc pc = .ok (.invokevirtual index, 3)) (kk : ∀ r s', f r s' = some res → V X (cc, own, nL, fr, lo, ini) E sF s' (G0 X (pc + 3) ls (rest))) : V X (cc, own, nL, fr, lo, ini) E sF s (G0 X pc ls (.ref (xb X + a1) :: .ref (xb X + a0) :: rest)) := by
  obtain ⟨r, s', e, h⟩ := bnd_some h
  exact v_callV (b := a0) (ci := 6) (As := [.ref (xb X + a1)]) (rest := rest) (c_X6_become X N a0 a1 s s' r e).2 (c_X6_become (l := xl X) (D := xD X) (ka := xka X) X N a0 a1 s s' r e).1 rfl vl_X6_become qi_X6_become qe_X6_become hlink hR rfl rfl hls hr hdg (kk r s' h)
set_option maxHeartbeats 4000000 in
set_option maxRecDepth 100000 in
theorem L_X0_unite_90 {X : VX} {sF : vS} {r : Int32} (N : Nat) (k11 : Nat → Nat → Int32 → Int32 → vS → Option (Int32 × vS)) (hk11 : ∀ (a0 : Nat) (a2 : Nat) (l3 : Int32) (l4 : Int32) (s : vS) (ls : Array Slot), lv_has ls 5 [(0, .ref (xb X + a0)), (2, .ref (xb X + a2)), (3, .int l3), (4, .int l4)] → k11 a0 a2 l3 l4 s = some (r, sF) → V X (cX0_unite, RX0, 5, 2, 68, false) (vRet sF (some (.int r)) (some .boolean)) sF s (G0 X 11 ls [])) (a0 : Nat) (a2 : Nat) (l3 : Int32) (l4 : Int32) (s : vS) (ls : Array Slot) (hl : lv_has ls 5 [(0, .ref (xb X + a0)), (2, .ref (xb X + a2)), (3, .int l3), (4, .int l4)]) (h : J_X0_unite_90 N k11 a0 a2 l3 l4 s = some (r, sF)) : V X (cX0_unite, RX0, 5, 2, 68, false) (vRet sF (some (.int r)) (some .boolean)) sF s (G0 X 90 ls []) := by
  unfold J_X0_unite_90 at h
  refine v_inc (fun z => [(4, .int z), (0, .ref (xb X + a0)), (2, .ref (xb X + a2)), (3, .int l3)]) dX0_unite_90 h hl (k := 3) rfl (by rfl) (by decide) (fun _ => rfl) (fun l4_16 ls hl h => ?_)
  refine v_goto 11 dX0_unite_93 (by decide) ?_
  exact hk11 a0 a2 l3 l4_16 s ls (lv_sub hl [1, 2, 3, 0] rfl) h
set_option maxHeartbeats 4000000 in
set_option maxRecDepth 100000 in
theorem L_X0_unite_88 {X : VX} {sF : vS} {r : Int32} (N : Nat) (s : vS) (ls : Array Slot) (hl : lv_has ls 5 []) (h : J_X0_unite_88 N  s = some (r, sF)) : V X (cX0_unite, RX0, 5, 2, 68, false) (vRet sF (some (.int r)) (some .boolean)) sF s (G0 X 88 ls []) := by
  unfold J_X0_unite_88 at h
  refine v_iconst (0 : Int32) dX0_unite_88 (by decide) ?_
  exact v_zret dX0_unite_89 h
set_option maxHeartbeats 4000000 in
set_option maxRecDepth 100000 in
theorem L_X0_unite_72 {X : VX} {sF : vS} {r : Int32} (N : Nat) (k11 : Nat → Nat → Int32 → Int32 → vS → Option (Int32 × vS)) (hk11 : ∀ (a0 : Nat) (a2 : Nat) (l3 : Int32) (l4 : Int32) (s : vS) (ls : Array Slot), lv_has ls 5 [(0, .ref (xb X + a0)), (2, .ref (xb X + a2)), (3, .int l3), (4, .int l4)] → k11 a0 a2 l3 l4 s = some (r, sF) → V X (cX0_unite, RX0, 5, 2, 68, false) (vRet sF (some (.int r)) (some .boolean)) sF s (G0 X 11 ls [])) (a0 : Nat) (a2 : Nat) (l3 : Int32) (l4 : Int32) (s : vS) (ls : Array Slot) (hl : lv_has ls 5 [(0, .ref (xb X + a0)), (2, .ref (xb X + a2)), (3, .int l3), (4, .int l4)]) (h : J_X0_unite_72 N k11 a0 a2 l3 l4 s = some (r, sF)) : V X (cX0_unite, RX0, 5, 2, 68, false) (vRet sF (some (.int r)) (some .boolean)) sF s (G0 X 72 ls []) := by
  unfold J_X0_unite_72 at h
  refine v_aload_n dX0_unite_72 rfl (lv_at hl 0 rfl) ?_
  refine v_getR 0 4 h (by decide) rfl qfX0_21 dX0_unite_73 (fun r13 h => ?_)
  refine v_iload dX0_unite_76 (lv_at hl 3 rfl) ?_
  refine v_aload_n dX0_unite_78 rfl (lv_at hl 0 rfl) ?_
  refine v_getR 0 6 h (by decide) rfl qfX0_32 dX0_unite_79 (fun r14 h => ?_)
  refine k_X6_add h qmX0_122 (by decide) hl.1 (Nat.le_of_ble_eq_true rfl) dX0_unite_82 (fun v15 s h => ?_)
  refine v_if_ne 90 dX0_unite_85 (by decide) h (fun h => ?_) (fun h => ?_)
  · exact L_X0_unite_90 N k11 hk11 a0 a2 l3 l4 s ls (lv_sub hl [0, 1, 2, 3] rfl) h
  · exact L_X0_unite_88 N  s ls (lv_sub hl [] rfl) h
set_option maxHeartbeats 4000000 in
set_option maxRecDepth 100000 in
theorem L_X0_unite_11 {X : VX} {sF : vS} {r : Int32} (N : Nat) : ∀ (n : Nat) (a0 : Nat) (a2 : Nat) (l3 : Int32) (l4 : Int32) (s : vS) (ls : Array Slot), lv_has ls 5 [(0, .ref (xb X + a0)), (2, .ref (xb X + a2)), (3, .int l3), (4, .int l4)] → H_X0_unite_11 N n a0 a2 l3 l4 s = some (r, sF) → V X (cX0_unite, RX0, 5, 2, 68, false) (vRet sF (some (.int r)) (some .boolean)) sF s (G0 X 11 ls []) := by
  intro n
  induction n with
  | zero => intro a0 a2 l3 l4 s ls hl h; cases h
  | succ n ih =>
   intro a0 a2 l3 l4 s ls hl h
   unfold H_X0_unite_11 at h
   refine v_iload dX0_unite_11 (lv_at hl 3 rfl) ?_
   refine v_bipush (29 : Int32) dX0_unite_13 (by decide) ?_
   refine v_icmp_ge 96 dX0_unite_15 (by decide) h (fun h => ?_) (fun h => ?_)
   · refine v_iconst (1 : Int32) dX0_unite_96 (by decide) ?_
     exact v_zret dX0_unite_97 h
   · refine v_aload_n dX0_unite_18 rfl (lv_at hl 1 rfl) ?_
     refine v_getR 6 1 h (by decide) rfl qfX0_74 dX0_unite_19 (fun r3 h => ?_)
     refine v_iload dX0_unite_22 (lv_at hl 3 rfl) ?_
     refine v_lald dX0_unite_24 h (fun v4 h => ?_)
     refine v_lconst (0 : Int64) dX0_unite_25 (by decide) ?_
     refine v_lcmp dX0_unite_26 ?_
     refine v_if_ne 33 dX0_unite_27 (by decide) h (fun h => ?_) (fun h => ?_)
     · refine v_aload_n dX0_unite_33 rfl (lv_at hl 0 rfl) ?_
       refine v_getR 0 6 h (by decide) rfl qfX0_32 dX0_unite_34 (fun r5 h => ?_)
       refine v_aload_n dX0_unite_37 rfl (lv_at hl 1 rfl) ?_
       refine v_getR 6 1 h (by decide) rfl qfX0_74 dX0_unite_38 (fun r6 h => ?_)
       refine v_iload dX0_unite_41 (lv_at hl 3 rfl) ?_
       refine v_lald dX0_unite_43 h (fun v7 h => ?_)
       refine v_aload_n dX0_unite_44 rfl (lv_at hl 1 rfl) ?_
       refine v_getR 6 2 h (by decide) rfl qfX0_113 dX0_unite_45 (fun r8 h => ?_)
       refine v_iload dX0_unite_48 (lv_at hl 3 rfl) ?_
       refine v_lald dX0_unite_50 h (fun v9 h => ?_)
       refine k_X2_become h qmX0_45 (by decide) hl.1 (Nat.le_of_ble_eq_true rfl) dX0_unite_51 (fun v10 s h => ?_)
       refine v_iload_n dX0_unite_54 rfl (lv_at hl 2 rfl) ?_
       refine v_if_eq 72 dX0_unite_55 (by decide) h (fun h => ?_) (fun h => ?_)
       · exact L_X0_unite_72 N (H_X0_unite_11 N n) ih a0 a2 l3 l4 s ls (lv_sub hl [0, 1, 2, 3] rfl) h
       · refine v_aload_n dX0_unite_58 rfl (lv_at hl 0 rfl) ?_
         refine v_getR 0 6 h (by decide) rfl qfX0_32 dX0_unite_59 (fun r11 h => ?_)
         refine v_ldc2 qkX0_116 dX0_unite_62 ?_
         refine v_lconst (1 : Int64) dX0_unite_65 (by decide) ?_
         refine k_X2_times h qmX0_118 (by decide) hl.1 (Nat.le_of_ble_eq_true rfl) dX0_unite_66 (fun v12 s h => ?_)
         refine v_if_eq 88 dX0_unite_69 (by decide) h (fun h => ?_) (fun h => ?_)
         · exact L_X0_unite_88 N  s ls (lv_sub hl [] rfl) h
         · exact L_X0_unite_72 N (H_X0_unite_11 N n) ih a0 a2 l3 l4 s ls (lv_sub hl [0, 1, 2, 3] rfl) h
     · refine v_goto 90 dX0_unite_30 (by decide) ?_
       exact L_X0_unite_90 N (H_X0_unite_11 N n) ih a0 a2 l3 l4 s ls (lv_sub hl [0, 1, 2, 3] rfl) h
theorem vl_X0_unite : vCl yX0_unite cX0_unite 5 (some .boolean) 3 := ⟨qy_X0_unite, qjX0, by decide +kernel, by decide +kernel, by decide +kernel⟩
set_option maxHeartbeats 4000000 in
set_option maxRecDepth 100000 in
theorem c_X0_unite {l : Launch} {D : va_G} {ka : Nat → ClassId} (X0 : VX) (N : Nat) (a0 : Nat) (a1 : Nat) (a2 : Nat) (l3 : Int32) (s sF : vS) (r : Int32) (h : F_X0_unite N a0 a1 a2 l3 s = some (r, sF)) : isO s a0 0 = true ∧ vMet l D ka (xb X0) yX0_unite cX0_unite 5 (some .boolean) 2 68 [.ref (xb X0 + a0), .ref (xb X0 + a1), .ref (xb X0 + a2), .int l3] s sF (some (.int r)) := by
  unfold F_X0_unite at h
  unfold rcv at h
  obtain ⟨hO, h⟩ := v_chk h
  refine ⟨hO, vMet.of (ini := false) X0 (plainFor_of_name (by decide +kernel)) (Nat.le_of_ble_eq_true rfl) (fun h => by cases h) (fun X ls hb hl => ?_) rfl⟩
  show V X (cX0_unite, RX0, 5, 2, 68, false) (vRet sF (some (.int r)) (some .boolean)) sF s (G0 X 0 ls [])
  rw [← hb] at hl
  have hl : lv_has ls 5 [(0, .ref (xb X + a0)), (1, .ref (xb X + a1)), (2, .ref (xb X + a2)), (3, .int l3)] := hl
  refine v_aload_n dX0_unite_0 rfl (lv_at hl 0 rfl) ?_
  refine v_getR 0 4 h (by decide) rfl qfX0_21 dX0_unite_1 (fun r1 h => ?_)
  refine v_aload_n dX0_unite_4 rfl (lv_at hl 1 rfl) ?_
  refine k_X6_become h qmX0_110 (by decide) hl.1 (Nat.le_of_ble_eq_true rfl) dX0_unite_5 (fun v2 s h => ?_)
  refine v_iconst (0 : Int32) dX0_unite_8 (by decide) ?_
  refine v_istore [(4, .int (0 : Int32)), (0, .ref (xb X + a0)), (1, .ref (xb X + a1)), (2, .ref (xb X + a2)), (3, .int l3)] dX0_unite_9 hl (by decide) rfl (fun ls hl => ?_)
  exact L_X0_unite_11 N N a0 a2 l3 (0 : Int32) s ls (lv_sub hl [1, 3, 4, 0] rfl) h
theorem k_X0_unite {X : VX} {cc : ByteArray} {own : String} {nL fr lo : Nat} {ini : Bool} {E : VX → Prop} {sF s : vS} {ρ : Type} {res : ρ} {pc : Nat} {ls : Array Slot} {rest : List Value} {N index : Nat} {a0 : Nat} {a1 : Nat} {a2 : Nat} {l3 : Int32} {f : Int32 → vS → Option ρ} (h : bnd (F_X0_unite N a0 a1 a2 l3 s) f = some res) (hlink : Cond.methodLink own index yX0_unite ∈ TT) (hR : 2 + 1 ≤ fr ∧ 8 + (5 + 11) + 68 ≤ lo) (hls : ls.size = nL) (hr : (rest.map fun v => v.category).sum ≤ 8) (hdg : decode cc pc = .ok (.invokevirtual index, 3)) (kk : ∀ r s', f r s' = some res → V X (cc, own, nL, fr, lo, ini) E sF s' (G0 X (pc + 3) ls (.int r :: rest))) : V X (cc, own, nL, fr, lo, ini) E sF s (G0 X pc ls (.int l3 :: .ref (xb X + a2) :: .ref (xb X + a1) :: .ref (xb X + a0) :: rest)) := by
  obtain ⟨r, s', e, h⟩ := bnd_some h
  exact v_callV (b := a0) (ci := 0) (As := [.ref (xb X + a1), .ref (xb X + a2), .int l3]) (rest := rest) (c_X0_unite X N a0 a1 a2 l3 s s' r e).2 (c_X0_unite (l := xl X) (D := xD X) (ka := xka X) X N a0 a1 a2 l3 s s' r e).1 rfl vl_X0_unite qi_X0_unite qe_X0_unite hlink hR rfl rfl hls hr hdg (kk r s' h)
set_option maxHeartbeats 4000000 in
set_option maxRecDepth 100000 in
theorem L_X6_terms_24 {X : VX} {sF : vS} {r : Int32} (N : Nat) (k4 : Nat → Int32 → Int32 → vS → Option (Int32 × vS)) (hk4 : ∀ (a0 : Nat) (l1 : Int32) (l2 : Int32) (s : vS) (ls : Array Slot), lv_has ls 3 [(0, .ref (xb X + a0)), (1, .int l1), (2, .int l2)] → k4 a0 l1 l2 s = some (r, sF) → V X (cX6_terms, RX6, 3, 0, 0, false) (vRet sF (some (.int r)) (some .int)) sF s (G0 X 4 ls [])) (a0 : Nat) (l1 : Int32) (l2 : Int32) (s : vS) (ls : Array Slot) (hl : lv_has ls 3 [(0, .ref (xb X + a0)), (1, .int l1), (2, .int l2)]) (h : J_X6_terms_24 N k4 a0 l1 l2 s = some (r, sF)) : V X (cX6_terms, RX6, 3, 0, 0, false) (vRet sF (some (.int r)) (some .int)) sF s (G0 X 24 ls []) := by
  unfold J_X6_terms_24 at h
  refine v_inc (fun z => [(2, .int z), (0, .ref (xb X + a0)), (1, .int l1)]) dX6_terms_24 h hl (k := 2) rfl (by rfl) (by decide) (fun _ => rfl) (fun l2_4 ls hl h => ?_)
  refine v_goto 4 dX6_terms_27 (by decide) ?_
  exact hk4 a0 l1 l2_4 s ls (lv_sub hl [1, 2, 0] rfl) h
set_option maxHeartbeats 4000000 in
set_option maxRecDepth 100000 in
theorem L_X6_terms_4 {X : VX} {sF : vS} {r : Int32} (N : Nat) : ∀ (n : Nat) (a0 : Nat) (l1 : Int32) (l2 : Int32) (s : vS) (ls : Array Slot), lv_has ls 3 [(0, .ref (xb X + a0)), (1, .int l1), (2, .int l2)] → H_X6_terms_4 N n a0 l1 l2 s = some (r, sF) → V X (cX6_terms, RX6, 3, 0, 0, false) (vRet sF (some (.int r)) (some .int)) sF s (G0 X 4 ls []) := by
  intro n
  induction n with
  | zero => intro a0 l1 l2 s ls hl h; cases h
  | succ n ih =>
   intro a0 l1 l2 s ls hl h
   unfold H_X6_terms_4 at h
   refine v_iload_n dX6_terms_4 rfl (lv_at hl 2 rfl) ?_
   refine v_bipush (29 : Int32) dX6_terms_5 (by decide) ?_
   refine v_icmp_ge 30 dX6_terms_7 (by decide) h (fun h => ?_) (fun h => ?_)
   · refine v_iload_n dX6_terms_30 rfl (lv_at hl 1 rfl) ?_
     exact v_iret dX6_terms_31 h
   · refine v_aload_n dX6_terms_10 rfl (lv_at hl 0 rfl) ?_
     refine v_getR 6 1 h (by decide) rfl qfX6_15 dX6_terms_11 (fun r1 h => ?_)
     refine v_iload_n dX6_terms_14 rfl (lv_at hl 2 rfl) ?_
     refine v_lald dX6_terms_15 h (fun v2 h => ?_)
     refine v_lconst (0 : Int64) dX6_terms_16 (by decide) ?_
     refine v_lcmp dX6_terms_17 ?_
     refine v_if_eq 24 dX6_terms_18 (by decide) h (fun h => ?_) (fun h => ?_)
     · exact L_X6_terms_24 N (H_X6_terms_4 N n) ih a0 l1 l2 s ls (lv_sub hl [0, 1, 2] rfl) h
     · refine v_inc (fun z => [(1, .int z), (0, .ref (xb X + a0)), (2, .int l2)]) dX6_terms_21 h hl (k := 1) rfl (by rfl) (by decide) (fun _ => rfl) (fun l1_3 ls hl h => ?_)
       exact L_X6_terms_24 N (H_X6_terms_4 N n) ih a0 l1_3 l2 s ls (lv_sub hl [1, 0, 2] rfl) h
theorem vl_X6_terms : vCl yX6_terms cX6_terms 3 (some .int) 0 := ⟨qy_X6_terms, qjX6, by decide +kernel, by decide +kernel, by decide +kernel⟩
set_option maxHeartbeats 4000000 in
set_option maxRecDepth 100000 in
theorem c_X6_terms {l : Launch} {D : va_G} {ka : Nat → ClassId} (X0 : VX) (N : Nat) (a0 : Nat) (s sF : vS) (r : Int32) (h : F_X6_terms N a0 s = some (r, sF)) : isO s a0 6 = true ∧ vMet l D ka (xb X0) yX6_terms cX6_terms 3 (some .int) 0 0 [.ref (xb X0 + a0)] s sF (some (.int r)) := by
  unfold F_X6_terms at h
  unfold rcv at h
  obtain ⟨hO, h⟩ := v_chk h
  refine ⟨hO, vMet.of (ini := false) X0 (plainFor_of_name (by decide +kernel)) (Nat.le_of_ble_eq_true rfl) (fun h => by cases h) (fun X ls hb hl => ?_) rfl⟩
  show V X (cX6_terms, RX6, 3, 0, 0, false) (vRet sF (some (.int r)) (some .int)) sF s (G0 X 0 ls [])
  rw [← hb] at hl
  have hl : lv_has ls 3 [(0, .ref (xb X + a0))] := hl
  refine v_iconst (0 : Int32) dX6_terms_0 (by decide) ?_
  refine v_istore_n [(1, .int (0 : Int32)), (0, .ref (xb X + a0))] dX6_terms_1 rfl hl (by decide) rfl (fun ls hl => ?_)
  refine v_iconst (0 : Int32) dX6_terms_2 (by decide) ?_
  refine v_istore_n [(2, .int (0 : Int32)), (1, .int (0 : Int32)), (0, .ref (xb X + a0))] dX6_terms_3 rfl hl (by decide) rfl (fun ls hl => ?_)
  exact L_X6_terms_4 N N a0 (0 : Int32) (0 : Int32) s ls (lv_sub hl [2, 1, 0] rfl) h
theorem k_X6_terms {X : VX} {cc : ByteArray} {own : String} {nL fr lo : Nat} {ini : Bool} {E : VX → Prop} {sF s : vS} {ρ : Type} {res : ρ} {pc : Nat} {ls : Array Slot} {rest : List Value} {N index : Nat} {a0 : Nat} {f : Int32 → vS → Option ρ} (h : bnd (F_X6_terms N a0 s) f = some res) (hlink : Cond.methodLink own index yX6_terms ∈ TT) (hR : 0 + 1 ≤ fr ∧ 8 + (3 + 11) + 0 ≤ lo) (hls : ls.size = nL) (hr : (rest.map fun v => v.category).sum ≤ 8) (hdg : decode cc pc = .ok (.invokevirtual index, 3)) (kk : ∀ r s', f r s' = some res → V X (cc, own, nL, fr, lo, ini) E sF s' (G0 X (pc + 3) ls (.int r :: rest))) : V X (cc, own, nL, fr, lo, ini) E sF s (G0 X pc ls (.ref (xb X + a0) :: rest)) := by
  obtain ⟨r, s', e, h⟩ := bnd_some h
  exact v_callV (b := a0) (ci := 6) (As := []) (rest := rest) (c_X6_terms X N a0 s s' r e).2 (c_X6_terms (l := xl X) (D := xD X) (ka := xka X) X N a0 s s' r e).1 rfl vl_X6_terms qi_X6_terms qe_X6_terms hlink hR rfl rfl hls hr hdg (kk r s' h)
set_option maxHeartbeats 4000000 in
set_option maxRecDepth 100000 in
theorem L_X6_settle_13 {X : VX} {sF : vS} {r : Unit} (N : Nat) (k0 : Nat) (k1 : Int32) (s : vS) (ls : Array Slot) (hl : lv_has ls 2 []) (h : J_X6_settle_13 N k0 k1 s = some (r, sF)) : V X (cX6_settle, RX6, 2, 1, 22, false) (vRet sF none none) sF s (G0 X 13 ls [.int k1, .ref (xb X + k0)]) := by
  unfold J_X6_settle_13 at h
  refine v_putI 6 0 h (by decide) rfl (Or.inl rfl) qfX6_9 dX6_settle_13 (fun s h => ?_)
  exact v_vret dX6_settle_16 h
theorem vl_X6_settle : vCl yX6_settle cX6_settle 2 none 1 := ⟨qy_X6_settle, qjX6, by decide +kernel, by decide +kernel, by decide +kernel⟩
set_option maxHeartbeats 4000000 in
set_option maxRecDepth 100000 in
theorem c_X6_settle {l : Launch} {D : va_G} {ka : Nat → ClassId} (X0 : VX) (N : Nat) (a0 : Nat) (l1 : Int32) (s sF : vS) (r : Unit) (h : F_X6_settle N a0 l1 s = some (r, sF)) : isO s a0 6 = true ∧ vMet l D ka (xb X0) yX6_settle cX6_settle 2 none 1 22 [.ref (xb X0 + a0), .int l1] s sF none := by
  unfold F_X6_settle at h
  unfold rcv at h
  obtain ⟨hO, h⟩ := v_chk h
  refine ⟨hO, vMet.of (ini := false) X0 (plainFor_of_name (by decide +kernel)) (Nat.le_of_ble_eq_true rfl) (fun h => by cases h) (fun X ls hb hl => ?_) rfl⟩
  show V X (cX6_settle, RX6, 2, 1, 22, false) (vRet sF none none) sF s (G0 X 0 ls [])
  rw [← hb] at hl
  have hl : lv_has ls 2 [(0, .ref (xb X + a0)), (1, .int l1)] := hl
  refine v_aload_n dX6_settle_0 rfl (lv_at hl 0 rfl) ?_
  refine v_aload_n dX6_settle_1 rfl (lv_at hl 0 rfl) ?_
  refine k_X6_terms h qmX6_40 (by decide) hl.1 (Nat.le_of_ble_eq_true rfl) dX6_settle_2 (fun v1 s h => ?_)
  refine v_if_ne 12 dX6_settle_5 (by decide) h (fun h => ?_) (fun h => ?_)
  · refine v_iload_n dX6_settle_12 rfl (lv_at hl 1 rfl) ?_
    exact L_X6_settle_13 N a0 l1 s ls (lv_sub hl [] rfl) h
  · refine v_iconst (0 : Int32) dX6_settle_8 (by decide) ?_
    refine v_goto 13 dX6_settle_9 (by decide) ?_
    exact L_X6_settle_13 N a0 (0 : Int32) s ls (lv_sub hl [] rfl) h
theorem k_X6_settle {X : VX} {cc : ByteArray} {own : String} {nL fr lo : Nat} {ini : Bool} {E : VX → Prop} {sF s : vS} {ρ : Type} {res : ρ} {pc : Nat} {ls : Array Slot} {rest : List Value} {N index : Nat} {a0 : Nat} {l1 : Int32} {f : Unit → vS → Option ρ} (h : bnd (F_X6_settle N a0 l1 s) f = some res) (hlink : Cond.methodLink own index yX6_settle ∈ TT) (hR : 1 + 1 ≤ fr ∧ 8 + (2 + 11) + 22 ≤ lo) (hls : ls.size = nL) (hr : (rest.map fun v => v.category).sum ≤ 8) (hdg : decode cc pc = .ok (.invokevirtual index, 3)) (kk : ∀ r s', f r s' = some res → V X (cc, own, nL, fr, lo, ini) E sF s' (G0 X (pc + 3) ls (rest))) : V X (cc, own, nL, fr, lo, ini) E sF s (G0 X pc ls (.int l1 :: .ref (xb X + a0) :: rest)) := by
  obtain ⟨r, s', e, h⟩ := bnd_some h
  exact v_callV (b := a0) (ci := 6) (As := [.int l1]) (rest := rest) (c_X6_settle X N a0 l1 s s' r e).2 (c_X6_settle (l := xl X) (D := xD X) (ka := xka X) X N a0 l1 s s' r e).1 rfl vl_X6_settle qi_X6_settle qe_X6_settle hlink hR rfl rfl hls hr hdg (kk r s' h)
set_option maxHeartbeats 4000000 in
set_option maxRecDepth 100000 in
theorem L_X0_combine_120 {X : VX} {sF : vS} {r : Int32} (N : Nat) (a0 : Nat) (a4 : Nat) (l5 : Int32) (s : vS) (ls : Array Slot) (hl : lv_has ls 6 [(0, .ref (xb X + a0)), (4, .ref (xb X + a4)), (5, .int l5)]) (h : J_X0_combine_120 N a0 a4 l5 s = some (r, sF)) : V X (cX0_combine, RX0, 6, 4, 122, false) (vRet sF (some (.int r)) (some .int)) sF s (G0 X 120 ls []) := by
  unfold J_X0_combine_120 at h
  refine v_aload_n dX0_combine_120 rfl (lv_at hl 0 rfl) ?_
  refine v_getR 0 4 h (by decide) rfl qfX0_21 dX0_combine_121 (fun r13 h => ?_)
  refine v_iload dX0_combine_124 (lv_at hl 2 rfl) ?_
  refine k_X6_settle h qmX0_106 (by decide) hl.1 (Nat.le_of_ble_eq_true rfl) dX0_combine_126 (fun v14 s h => ?_)
  refine v_aload dX0_combine_129 (lv_at hl 1 rfl) ?_
  refine v_aload_n dX0_combine_131 rfl (lv_at hl 0 rfl) ?_
  refine v_getR 0 4 h (by decide) rfl qfX0_21 dX0_combine_132 (fun r15 h => ?_)
  refine k_X6_become h qmX0_110 (by decide) hl.1 (Nat.le_of_ble_eq_true rfl) dX0_combine_135 (fun v16 s h => ?_)
  refine v_iconst (0 : Int32) dX0_combine_138 (by decide) ?_
  exact v_iret dX0_combine_139 h
set_option maxHeartbeats 4000000 in
set_option maxRecDepth 100000 in
theorem L_X0_combine_117 {X : VX} {sF : vS} {r : Int32} (N : Nat) (s : vS) (ls : Array Slot) (hl : lv_has ls 6 []) (h : J_X0_combine_117 N  s = some (r, sF)) : V X (cX0_combine, RX0, 6, 4, 122, false) (vRet sF (some (.int r)) (some .int)) sF s (G0 X 117 ls []) := by
  unfold J_X0_combine_117 at h
  refine v_bipush (-6 : Int32) dX0_combine_117 (by decide) ?_
  exact v_iret dX0_combine_119 h
set_option maxHeartbeats 4000000 in
set_option maxRecDepth 100000 in
theorem L_X0_combine_111 {X : VX} {sF : vS} {r : Int32} (N : Nat) (a0 : Nat) (a4 : Nat) (l5 : Int32) (k0 : Nat) (k1 : Nat) (k2 : Nat) (k3 : Int32) (s : vS) (ls : Array Slot) (hl : lv_has ls 6 [(0, .ref (xb X + a0)), (4, .ref (xb X + a4)), (5, .int l5)]) (h : J_X0_combine_111 N a0 a4 l5 k0 k1 k2 k3 s = some (r, sF)) : V X (cX0_combine, RX0, 6, 4, 122, false) (vRet sF (some (.int r)) (some .int)) sF s (G0 X 111 ls [.int k3, .ref (xb X + k2), .ref (xb X + k1), .ref (xb X + k0)]) := by
  unfold J_X0_combine_111 at h
  refine k_X0_unite h qmX0_102 (by decide) hl.1 (Nat.le_of_ble_eq_true rfl) dX0_combine_111 (fun v12 s h => ?_)
  refine v_if_ne 120 dX0_combine_114 (by decide) h (fun h => ?_) (fun h => ?_)
  · exact L_X0_combine_120 N a0 a4 l5 s ls (lv_sub hl [0, 1, 2] rfl) h
  · exact L_X0_combine_117 N  s ls (lv_sub hl [] rfl) h
set_option maxHeartbeats 4000000 in
set_option maxRecDepth 100000 in
theorem L_X0_combine_78 {X : VX} {sF : vS} {r : Int32} (N : Nat) (a0 : Nat) (a1 : Nat) (a2 : Nat) (l3 : Int32) (a4 : Nat) (l5 : Int32) (s : vS) (ls : Array Slot) (hl : lv_has ls 6 [(0, .ref (xb X + a0)), (1, .ref (xb X + a1)), (2, .ref (xb X + a2)), (3, .int l3), (4, .ref (xb X + a4)), (5, .int l5)]) (h : J_X0_combine_78 N a0 a1 a2 l3 a4 l5 s = some (r, sF)) : V X (cX0_combine, RX0, 6, 4, 122, false) (vRet sF (some (.int r)) (some .int)) sF s (G0 X 78 ls []) := by
  unfold J_X0_combine_78 at h
  refine v_iload_n dX0_combine_78 rfl (lv_at hl 3 rfl) ?_
  refine v_iconst (2 : Int32) dX0_combine_79 (by decide) ?_
  refine v_icmp_ne 98 dX0_combine_80 (by decide) h (fun h => ?_) (fun h => ?_)
  · refine v_aload_n dX0_combine_98 rfl (lv_at hl 0 rfl) ?_
    refine v_aload_n dX0_combine_99 rfl (lv_at hl 1 rfl) ?_
    refine v_aload_n dX0_combine_100 rfl (lv_at hl 2 rfl) ?_
    refine v_iload_n dX0_combine_101 rfl (lv_at hl 3 rfl) ?_
    refine v_iconst (1 : Int32) dX0_combine_102 (by decide) ?_
    refine v_icmp_ne 110 dX0_combine_103 (by decide) h (fun h => ?_) (fun h => ?_)
    · refine v_iconst (0 : Int32) dX0_combine_110 (by decide) ?_
      exact L_X0_combine_111 N a0 a4 l5 a0 a1 a2 (0 : Int32) s ls (lv_sub hl [0, 4, 5] rfl) h
    · refine v_iconst (1 : Int32) dX0_combine_106 (by decide) ?_
      refine v_goto 111 dX0_combine_107 (by decide) ?_
      exact L_X0_combine_111 N a0 a4 l5 a0 a1 a2 (1 : Int32) s ls (lv_sub hl [0, 4, 5] rfl) h
  · refine v_aload_n dX0_combine_83 rfl (lv_at hl 0 rfl) ?_
    refine v_aload_n dX0_combine_84 rfl (lv_at hl 1 rfl) ?_
    refine v_aload_n dX0_combine_85 rfl (lv_at hl 2 rfl) ?_
    refine v_iload dX0_combine_86 (lv_at hl 5 rfl) ?_
    refine v_iconst (-1 : Int32) dX0_combine_88 (by decide) ?_
    refine k_X0_multiply h qmX0_98 (by decide) hl.1 (Nat.le_of_ble_eq_true rfl) dX0_combine_89 (fun v11 s h => ?_)
    refine v_if_eq 117 dX0_combine_92 (by decide) h (fun h => ?_) (fun h => ?_)
    · exact L_X0_combine_117 N  s ls (lv_sub hl [] rfl) h
    · refine v_goto 120 dX0_combine_95 (by decide) ?_
      exact L_X0_combine_120 N a0 a4 l5 s ls (lv_sub hl [0, 4, 5] rfl) h
set_option maxHeartbeats 4000000 in
set_option maxRecDepth 100000 in
theorem L_X0_combine_46 {X : VX} {sF : vS} {r : Int32} (N : Nat) (a0 : Nat) (a1 : Nat) (a2 : Nat) (l3 : Int32) (a4 : Nat) (k0 : Int32) (s : vS) (ls : Array Slot) (hl : lv_has ls 6 [(0, .ref (xb X + a0)), (1, .ref (xb X + a1)), (2, .ref (xb X + a2)), (3, .int l3), (4, .ref (xb X + a4))]) (h : J_X0_combine_46 N a0 a1 a2 l3 a4 k0 s = some (r, sF)) : V X (cX0_combine, RX0, 6, 4, 122, false) (vRet sF (some (.int r)) (some .int)) sF s (G0 X 46 ls [.int k0]) := by
  unfold J_X0_combine_46 at h
  refine v_istore [(5, .int k0), (0, .ref (xb X + a0)), (1, .ref (xb X + a1)), (2, .ref (xb X + a2)), (3, .int l3), (4, .ref (xb X + a4))] dX0_combine_46 hl (by decide) rfl (fun ls hl => ?_)
  refine v_iload_n dX0_combine_48 rfl (lv_at hl 4 rfl) ?_
  refine v_iconst (2 : Int32) dX0_combine_49 (by decide) ?_
  refine v_icmp_ne 78 dX0_combine_50 (by decide) h (fun h => ?_) (fun h => ?_)
  · exact L_X0_combine_78 N a0 a1 a2 l3 a4 k0 s ls (lv_sub hl [1, 2, 3, 4, 5, 0] rfl) h
  · refine v_aload_n dX0_combine_53 rfl (lv_at hl 1 rfl) ?_
    refine v_aload_n dX0_combine_54 rfl (lv_at hl 2 rfl) ?_
    refine v_iload dX0_combine_55 (lv_at hl 0 rfl) ?_
    refine k_X0_greatestSize h qmX0_90 (by decide) hl.1 (Nat.le_of_ble_eq_true rfl) dX0_combine_57 (fun v8 s h => ?_)
    refine v_aload_n dX0_combine_60 rfl (lv_at hl 1 rfl) ?_
    refine v_aload_n dX0_combine_61 rfl (lv_at hl 3 rfl) ?_
    refine v_iload dX0_combine_62 (lv_at hl 0 rfl) ?_
    refine k_X0_greatestSize h qmX0_90 (by decide) hl.1 (Nat.le_of_ble_eq_true rfl) dX0_combine_64 (fun v9 s h => ?_)
    refine v_iload dX0_combine_67 (lv_at hl 0 rfl) ?_
    refine k_X0_isTooLarge h qmX0_94 (by decide) hl.1 (Nat.le_of_ble_eq_true rfl) dX0_combine_69 (fun v10 s h => ?_)
    refine v_if_eq 78 dX0_combine_72 (by decide) h (fun h => ?_) (fun h => ?_)
    · exact L_X0_combine_78 N a0 a1 a2 l3 a4 k0 s ls (lv_sub hl [1, 2, 3, 4, 5, 0] rfl) h
    · refine v_bipush (-4 : Int32) dX0_combine_75 (by decide) ?_
      exact v_iret dX0_combine_77 h
set_option maxHeartbeats 4000000 in
set_option maxRecDepth 100000 in
theorem L_X0_combine_28 {X : VX} {sF : vS} {r : Int32} (N : Nat) (a0 : Nat) (a1 : Nat) (a2 : Nat) (l3 : Int32) (a4 : Nat) (s : vS) (ls : Array Slot) (hl : lv_has ls 6 [(0, .ref (xb X + a0)), (1, .ref (xb X + a1)), (2, .ref (xb X + a2)), (3, .int l3), (4, .ref (xb X + a4))]) (h : J_X0_combine_28 N a0 a1 a2 l3 a4 s = some (r, sF)) : V X (cX0_combine, RX0, 6, 4, 122, false) (vRet sF (some (.int r)) (some .int)) sF s (G0 X 28 ls []) := by
  unfold J_X0_combine_28 at h
  refine v_aload_n dX0_combine_28 rfl (lv_at hl 1 rfl) ?_
  refine v_getI 6 0 h (by decide) (Or.inl rfl) qfX0_87 dX0_combine_29 (fun v5 h => ?_)
  refine v_if_ne 42 dX0_combine_32 (by decide) h (fun h => ?_) (fun h => ?_)
  · refine v_aload_n dX0_combine_42 rfl (lv_at hl 1 rfl) ?_
    refine v_getI 6 0 h (by decide) (Or.inl rfl) qfX0_87 dX0_combine_43 (fun v6 h => ?_)
    exact L_X0_combine_46 N a0 a1 a2 l3 a4 v6 s ls (lv_sub hl [0, 1, 2, 3, 4] rfl) h
  · refine v_aload_n dX0_combine_35 rfl (lv_at hl 2 rfl) ?_
    refine v_getI 6 0 h (by decide) (Or.inl rfl) qfX0_87 dX0_combine_36 (fun v7 h => ?_)
    refine v_goto 46 dX0_combine_39 (by decide) ?_
    exact L_X0_combine_46 N a0 a1 a2 l3 a4 v7 s ls (lv_sub hl [0, 1, 2, 3, 4] rfl) h
theorem vl_X0_combine : vCl yX0_combine cX0_combine 6 (some .int) 4 := ⟨qy_X0_combine, qjX0, by decide +kernel, by decide +kernel, by decide +kernel⟩
set_option maxHeartbeats 4000000 in
set_option maxRecDepth 100000 in
theorem c_X0_combine {l : Launch} {D : va_G} {ka : Nat → ClassId} (X0 : VX) (N : Nat) (a0 : Nat) (a1 : Nat) (a2 : Nat) (l3 : Int32) (a4 : Nat) (s sF : vS) (r : Int32) (h : F_X0_combine N a0 a1 a2 l3 a4 s = some (r, sF)) : isO s a0 0 = true ∧ vMet l D ka (xb X0) yX0_combine cX0_combine 6 (some .int) 4 122 [.ref (xb X0 + a0), .ref (xb X0 + a1), .ref (xb X0 + a2), .int l3, .ref (xb X0 + a4)] s sF (some (.int r)) := by
  unfold F_X0_combine at h
  unfold rcv at h
  obtain ⟨hO, h⟩ := v_chk h
  refine ⟨hO, vMet.of (ini := false) X0 (plainFor_of_name (by decide +kernel)) (Nat.le_of_ble_eq_true rfl) (fun h => by cases h) (fun X ls hb hl => ?_) rfl⟩
  show V X (cX0_combine, RX0, 6, 4, 122, false) (vRet sF (some (.int r)) (some .int)) sF s (G0 X 0 ls [])
  rw [← hb] at hl
  have hl : lv_has ls 6 [(0, .ref (xb X + a0)), (1, .ref (xb X + a1)), (2, .ref (xb X + a2)), (3, .int l3), (4, .ref (xb X + a4))] := hl
  refine v_aload_n dX0_combine_0 rfl (lv_at hl 1 rfl) ?_
  refine v_getI 6 0 h (by decide) (Or.inl rfl) qfX0_87 dX0_combine_1 (fun v1 h => ?_)
  refine v_if_eq 28 dX0_combine_4 (by decide) h (fun h => ?_) (fun h => ?_)
  · exact L_X0_combine_28 N a0 a1 a2 l3 a4 s ls (lv_sub hl [0, 1, 2, 3, 4] rfl) h
  · refine v_aload_n dX0_combine_7 rfl (lv_at hl 2 rfl) ?_
    refine v_getI 6 0 h (by decide) (Or.inl rfl) qfX0_87 dX0_combine_8 (fun v2 h => ?_)
    refine v_if_eq 28 dX0_combine_11 (by decide) h (fun h => ?_) (fun h => ?_)
    · exact L_X0_combine_28 N a0 a1 a2 l3 a4 s ls (lv_sub hl [0, 1, 2, 3, 4] rfl) h
    · refine v_aload_n dX0_combine_14 rfl (lv_at hl 1 rfl) ?_
      refine v_getI 6 0 h (by decide) (Or.inl rfl) qfX0_87 dX0_combine_15 (fun v3 h => ?_)
      refine v_aload_n dX0_combine_18 rfl (lv_at hl 2 rfl) ?_
      refine v_getI 6 0 h (by decide) (Or.inl rfl) qfX0_87 dX0_combine_19 (fun v4 h => ?_)
      refine v_icmp_eq 28 dX0_combine_22 (by decide) h (fun h => ?_) (fun h => ?_)
      · exact L_X0_combine_28 N a0 a1 a2 l3 a4 s ls (lv_sub hl [0, 1, 2, 3, 4] rfl) h
      · refine v_bipush (-2 : Int32) dX0_combine_25 (by decide) ?_
        exact v_iret dX0_combine_27 h
theorem k_X0_combine {X : VX} {cc : ByteArray} {own : String} {nL fr lo : Nat} {ini : Bool} {E : VX → Prop} {sF s : vS} {ρ : Type} {res : ρ} {pc : Nat} {ls : Array Slot} {rest : List Value} {N index : Nat} {a0 : Nat} {a1 : Nat} {a2 : Nat} {l3 : Int32} {a4 : Nat} {f : Int32 → vS → Option ρ} (h : bnd (F_X0_combine N a0 a1 a2 l3 a4 s) f = some res) (hlink : Cond.methodLink own index yX0_combine ∈ TT) (hR : 4 + 1 ≤ fr ∧ 8 + (6 + 11) + 122 ≤ lo) (hls : ls.size = nL) (hr : (rest.map fun v => v.category).sum ≤ 8) (hdg : decode cc pc = .ok (.invokevirtual index, 3)) (kk : ∀ r s', f r s' = some res → V X (cc, own, nL, fr, lo, ini) E sF s' (G0 X (pc + 3) ls (.int r :: rest))) : V X (cc, own, nL, fr, lo, ini) E sF s (G0 X pc ls (.ref (xb X + a4) :: .int l3 :: .ref (xb X + a2) :: .ref (xb X + a1) :: .ref (xb X + a0) :: rest)) := by
  obtain ⟨r, s', e, h⟩ := bnd_some h
  exact v_callV (b := a0) (ci := 0) (As := [.ref (xb X + a1), .ref (xb X + a2), .int l3, .ref (xb X + a4)]) (rest := rest) (c_X0_combine X N a0 a1 a2 l3 a4 s s' r e).2 (c_X0_combine (l := xl X) (D := xD X) (ka := xka X) X N a0 a1 a2 l3 a4 s s' r e).1 rfl vl_X0_combine qi_X0_combine qe_X0_combine hlink hR rfl rfl hls hr hdg (kk r s' h)
theorem vl_X0_raise : vCl yX0_raise cX0_raise 4 (some .boolean) 3 := ⟨qy_X0_raise, qjX0, by decide +kernel, by decide +kernel, by decide +kernel⟩
set_option maxHeartbeats 4000000 in
set_option maxRecDepth 100000 in
theorem c_X0_raise {l : Launch} {D : va_G} {ka : Nat → ClassId} (X0 : VX) (N : Nat) (a0 : Nat) (a1 : Nat) (l2 : Int32) (a3 : Nat) (s sF : vS) (r : Int32) (h : F_X0_raise N a0 a1 l2 a3 s = some (r, sF)) : isO s a0 0 = true ∧ vMet l D ka (xb X0) yX0_raise cX0_raise 4 (some .boolean) 4 122 [.ref (xb X0 + a0), .ref (xb X0 + a1), .int l2, .ref (xb X0 + a3)] s sF (some (.int r)) := by
  unfold F_X0_raise at h
  unfold rcv at h
  obtain ⟨hO, h⟩ := v_chk h
  refine ⟨hO, vMet.of (ini := false) X0 (plainFor_of_name (by decide +kernel)) (Nat.le_of_ble_eq_true rfl) (fun h => by cases h) (fun X ls hb hl => ?_) rfl⟩
  show V X (cX0_raise, RX0, 4, 4, 122, false) (vRet sF (some (.int r)) (some .boolean)) sF s (G0 X 0 ls [])
  rw [← hb] at hl
  have hl : lv_has ls 4 [(0, .ref (xb X + a0)), (1, .ref (xb X + a1)), (2, .int l2), (3, .ref (xb X + a3))] := hl
  refine v_aload_n dX0_raise_0 rfl (lv_at hl 0 rfl) ?_
  refine v_aload_n dX0_raise_1 rfl (lv_at hl 0 rfl) ?_
  refine v_getR 0 7 h (by decide) rfl qfX0_35 dX0_raise_2 (fun r1 h => ?_)
  refine v_aload_n dX0_raise_5 rfl (lv_at hl 1 rfl) ?_
  refine v_aload_n dX0_raise_6 rfl (lv_at hl 1 rfl) ?_
  refine v_getI 6 0 h (by decide) (Or.inl rfl) qfX0_87 dX0_raise_7 (fun v2 h => ?_)
  refine v_iload_n dX0_raise_10 rfl (lv_at hl 2 rfl) ?_
  refine k_X0_multiply h qmX0_98 (by decide) hl.1 (Nat.le_of_ble_eq_true rfl) dX0_raise_11 (fun v3 s h => ?_)
  refine v_if_ne 19 dX0_raise_14 (by decide) h (fun h => ?_) (fun h => ?_)
  · refine v_aload_n dX0_raise_19 rfl (lv_at hl 0 rfl) ?_
    refine v_getR 0 4 h (by decide) rfl qfX0_21 dX0_raise_20 (fun r4 h => ?_)
    refine v_aload_n dX0_raise_23 rfl (lv_at hl 1 rfl) ?_
    refine v_getI 6 0 h (by decide) (Or.inl rfl) qfX0_87 dX0_raise_24 (fun v5 h => ?_)
    refine k_X6_settle h qmX0_106 (by decide) hl.1 (Nat.le_of_ble_eq_true rfl) dX0_raise_27 (fun v6 s h => ?_)
    refine v_aload_n dX0_raise_30 rfl (lv_at hl 3 rfl) ?_
    refine v_aload_n dX0_raise_31 rfl (lv_at hl 0 rfl) ?_
    refine v_getR 0 4 h (by decide) rfl qfX0_21 dX0_raise_32 (fun r7 h => ?_)
    refine k_X6_become h qmX0_110 (by decide) hl.1 (Nat.le_of_ble_eq_true rfl) dX0_raise_35 (fun v8 s h => ?_)
    refine v_iconst (1 : Int32) dX0_raise_38 (by decide) ?_
    exact v_zret dX0_raise_39 h
  · refine v_iconst (0 : Int32) dX0_raise_17 (by decide) ?_
    exact v_zret dX0_raise_18 h
theorem k_X0_raise {X : VX} {cc : ByteArray} {own : String} {nL fr lo : Nat} {ini : Bool} {E : VX → Prop} {sF s : vS} {ρ : Type} {res : ρ} {pc : Nat} {ls : Array Slot} {rest : List Value} {N index : Nat} {a0 : Nat} {a1 : Nat} {l2 : Int32} {a3 : Nat} {f : Int32 → vS → Option ρ} (h : bnd (F_X0_raise N a0 a1 l2 a3 s) f = some res) (hlink : Cond.methodLink own index yX0_raise ∈ TT) (hR : 4 + 1 ≤ fr ∧ 8 + (4 + 11) + 122 ≤ lo) (hls : ls.size = nL) (hr : (rest.map fun v => v.category).sum ≤ 8) (hdg : decode cc pc = .ok (.invokevirtual index, 3)) (kk : ∀ r s', f r s' = some res → V X (cc, own, nL, fr, lo, ini) E sF s' (G0 X (pc + 3) ls (.int r :: rest))) : V X (cc, own, nL, fr, lo, ini) E sF s (G0 X pc ls (.ref (xb X + a3) :: .int l2 :: .ref (xb X + a1) :: .ref (xb X + a0) :: rest)) := by
  obtain ⟨r, s', e, h⟩ := bnd_some h
  exact v_callV (b := a0) (ci := 0) (As := [.ref (xb X + a1), .int l2, .ref (xb X + a3)]) (rest := rest) (c_X0_raise X N a0 a1 l2 a3 s s' r e).2 (c_X0_raise (l := xl X) (D := xD X) (ka := xka X) X N a0 a1 l2 a3 s s' r e).1 rfl vl_X0_raise qi_X0_raise qe_X0_raise hlink hR rfl rfl hls hr hdg (kk r s' h)
set_option maxHeartbeats 4000000 in
set_option maxRecDepth 100000 in
theorem L_X0_uproot_123 {X : VX} {sF : vS} {r : Int32} (N : Nat) (k34 : Nat → Nat → Nat → Int32 → vS → Option (Int32 × vS)) (hk34 : ∀ (a0 : Nat) (a1 : Nat) (a2 : Nat) (l3 : Int32) (s : vS) (ls : Array Slot), lv_has ls 4 [(0, .ref (xb X + a0)), (1, .ref (xb X + a1)), (2, .ref (xb X + a2)), (3, .int l3)] → k34 a0 a1 a2 l3 s = some (r, sF) → V X (cX0_uproot, RX0, 4, 2, 68, false) (vRet sF (some (.int r)) (some .int)) sF s (G0 X 34 ls [])) (a0 : Nat) (a1 : Nat) (a2 : Nat) (l3 : Int32) (s : vS) (ls : Array Slot) (hl : lv_has ls 4 [(0, .ref (xb X + a0)), (1, .ref (xb X + a1)), (2, .ref (xb X + a2)), (3, .int l3)]) (h : J_X0_uproot_123 N k34 a0 a1 a2 l3 s = some (r, sF)) : V X (cX0_uproot, RX0, 4, 2, 68, false) (vRet sF (some (.int r)) (some .int)) sF s (G0 X 123 ls []) := by
  unfold J_X0_uproot_123 at h
  refine v_inc (fun z => [(3, .int z), (0, .ref (xb X + a0)), (1, .ref (xb X + a1)), (2, .ref (xb X + a2))]) dX0_uproot_123 h hl (k := 3) rfl (by rfl) (by decide) (fun _ => rfl) (fun l3_30 ls hl h => ?_)
  refine v_goto 34 dX0_uproot_126 (by decide) ?_
  exact hk34 a0 a1 a2 l3_30 s ls (lv_sub hl [1, 2, 3, 0] rfl) h
set_option maxHeartbeats 4000000 in
set_option maxRecDepth 100000 in
theorem L_X0_uproot_120 {X : VX} {sF : vS} {r : Int32} (N : Nat) (s : vS) (ls : Array Slot) (hl : lv_has ls 4 []) (h : J_X0_uproot_120 N  s = some (r, sF)) : V X (cX0_uproot, RX0, 4, 2, 68, false) (vRet sF (some (.int r)) (some .int)) sF s (G0 X 120 ls []) := by
  unfold J_X0_uproot_120 at h
  refine v_bipush (-6 : Int32) dX0_uproot_120 (by decide) ?_
  exact v_iret dX0_uproot_122 h
set_option maxHeartbeats 4000000 in
set_option maxRecDepth 100000 in
theorem L_X0_uproot_34 {X : VX} {sF : vS} {r : Int32} (N : Nat) : ∀ (n : Nat) (a0 : Nat) (a1 : Nat) (a2 : Nat) (l3 : Int32) (s : vS) (ls : Array Slot), lv_has ls 4 [(0, .ref (xb X + a0)), (1, .ref (xb X + a1)), (2, .ref (xb X + a2)), (3, .int l3)] → H_X0_uproot_34 N n a0 a1 a2 l3 s = some (r, sF) → V X (cX0_uproot, RX0, 4, 2, 68, false) (vRet sF (some (.int r)) (some .int)) sF s (G0 X 34 ls []) := by
  intro n
  induction n with
  | zero => intro a0 a1 a2 l3 s ls hl h; cases h
  | succ n ih =>
   intro a0 a1 a2 l3 s ls hl h
   unfold H_X0_uproot_34 at h
   refine v_iload_n dX0_uproot_34 rfl (lv_at hl 3 rfl) ?_
   refine v_bipush (29 : Int32) dX0_uproot_35 (by decide) ?_
   refine v_icmp_ge 129 dX0_uproot_37 (by decide) h (fun h => ?_) (fun h => ?_)
   · refine v_aload_n dX0_uproot_129 rfl (lv_at hl 0 rfl) ?_
     refine v_getR 0 4 h (by decide) rfl qfX0_21 dX0_uproot_130 (fun r6 h => ?_)
     refine v_iconst (1 : Int32) dX0_uproot_133 (by decide) ?_
     refine k_X6_settle h qmX0_106 (by decide) hl.1 (Nat.le_of_ble_eq_true rfl) dX0_uproot_134 (fun v7 s h => ?_)
     refine v_aload_n dX0_uproot_137 rfl (lv_at hl 2 rfl) ?_
     refine v_aload_n dX0_uproot_138 rfl (lv_at hl 0 rfl) ?_
     refine v_getR 0 4 h (by decide) rfl qfX0_21 dX0_uproot_139 (fun r8 h => ?_)
     refine k_X6_become h qmX0_110 (by decide) hl.1 (Nat.le_of_ble_eq_true rfl) dX0_uproot_142 (fun v9 s h => ?_)
     refine v_iconst (0 : Int32) dX0_uproot_145 (by decide) ?_
     exact v_iret dX0_uproot_146 h
   · refine v_aload_n dX0_uproot_40 rfl (lv_at hl 1 rfl) ?_
     refine v_getR 6 1 h (by decide) rfl qfX0_74 dX0_uproot_41 (fun r10 h => ?_)
     refine v_iload_n dX0_uproot_44 rfl (lv_at hl 3 rfl) ?_
     refine v_lald dX0_uproot_45 h (fun v11 h => ?_)
     refine v_lconst (0 : Int64) dX0_uproot_46 (by decide) ?_
     refine v_lcmp dX0_uproot_47 ?_
     refine v_if_ne 54 dX0_uproot_48 (by decide) h (fun h => ?_) (fun h => ?_)
     · refine v_aload_n dX0_uproot_54 rfl (lv_at hl 0 rfl) ?_
       refine v_getR 0 6 h (by decide) rfl qfX0_32 dX0_uproot_55 (fun r12 h => ?_)
       refine v_aload_n dX0_uproot_58 rfl (lv_at hl 0 rfl) ?_
       refine v_getR 0 3 h (by decide) rfl qfX0_15 dX0_uproot_59 (fun r13 h => ?_)
       refine v_iload_n dX0_uproot_62 rfl (lv_at hl 3 rfl) ?_
       refine v_iald dX0_uproot_63 h (fun v14 h => ?_)
       refine v_i2l dX0_uproot_64 ?_
       refine v_aload_n dX0_uproot_65 rfl (lv_at hl 0 rfl) ?_
       refine v_getR 0 1 h (by decide) rfl qfX0_42 dX0_uproot_66 (fun r15 h => ?_)
       refine v_getR 1 3 h (by decide) rfl qfX0_78 dX0_uproot_69 (fun r16 h => ?_)
       refine v_iload_n dX0_uproot_72 rfl (lv_at hl 3 rfl) ?_
       refine v_iald dX0_uproot_73 h (fun v17 h => ?_)
       refine v_i2l dX0_uproot_74 ?_
       refine k_X2_become h qmX0_45 (by decide) hl.1 (Nat.le_of_ble_eq_true rfl) dX0_uproot_75 (fun v18 s h => ?_)
       refine v_aload_n dX0_uproot_78 rfl (lv_at hl 0 rfl) ?_
       refine v_getR 0 6 h (by decide) rfl qfX0_32 dX0_uproot_79 (fun r19 h => ?_)
       refine v_aload_n dX0_uproot_82 rfl (lv_at hl 1 rfl) ?_
       refine v_getR 6 1 h (by decide) rfl qfX0_74 dX0_uproot_83 (fun r20 h => ?_)
       refine v_iload_n dX0_uproot_86 rfl (lv_at hl 3 rfl) ?_
       refine v_lald dX0_uproot_87 h (fun v21 h => ?_)
       refine v_aload_n dX0_uproot_88 rfl (lv_at hl 1 rfl) ?_
       refine v_getR 6 2 h (by decide) rfl qfX0_113 dX0_uproot_89 (fun r22 h => ?_)
       refine v_iload_n dX0_uproot_92 rfl (lv_at hl 3 rfl) ?_
       refine v_lald dX0_uproot_93 h (fun v23 h => ?_)
       refine k_X2_times h qmX0_118 (by decide) hl.1 (Nat.le_of_ble_eq_true rfl) dX0_uproot_94 (fun v24 s h => ?_)
       refine v_if_eq 120 dX0_uproot_97 (by decide) h (fun h => ?_) (fun h => ?_)
       · exact L_X0_uproot_120 N  s ls (lv_sub hl [] rfl) h
       · refine v_aload_n dX0_uproot_100 rfl (lv_at hl 0 rfl) ?_
         refine v_getR 0 4 h (by decide) rfl qfX0_21 dX0_uproot_101 (fun r25 h => ?_)
         refine v_aload_n dX0_uproot_104 rfl (lv_at hl 0 rfl) ?_
         refine v_getR 0 2 h (by decide) rfl qfX0_9 dX0_uproot_105 (fun r26 h => ?_)
         refine v_iload_n dX0_uproot_108 rfl (lv_at hl 3 rfl) ?_
         refine v_iald dX0_uproot_109 h (fun v27 h => ?_)
         refine v_aload_n dX0_uproot_110 rfl (lv_at hl 0 rfl) ?_
         refine v_getR 0 6 h (by decide) rfl qfX0_32 dX0_uproot_111 (fun r28 h => ?_)
         refine k_X6_add h qmX0_122 (by decide) hl.1 (Nat.le_of_ble_eq_true rfl) dX0_uproot_114 (fun v29 s h => ?_)
         refine v_if_ne 123 dX0_uproot_117 (by decide) h (fun h => ?_) (fun h => ?_)
         · exact L_X0_uproot_123 N (H_X0_uproot_34 N n) ih a0 a1 a2 l3 s ls (lv_sub hl [0, 1, 2, 3] rfl) h
         · exact L_X0_uproot_120 N  s ls (lv_sub hl [] rfl) h
     · refine v_goto 123 dX0_uproot_51 (by decide) ?_
       exact L_X0_uproot_123 N (H_X0_uproot_34 N n) ih a0 a1 a2 l3 s ls (lv_sub hl [0, 1, 2, 3] rfl) h
theorem vl_X0_uproot : vCl yX0_uproot cX0_uproot 4 (some .int) 2 := ⟨qy_X0_uproot, qjX0, by decide +kernel, by decide +kernel, by decide +kernel⟩
set_option maxHeartbeats 4000000 in
set_option maxRecDepth 100000 in
theorem c_X0_uproot {l : Launch} {D : va_G} {ka : Nat → ClassId} (X0 : VX) (N : Nat) (a0 : Nat) (a1 : Nat) (a2 : Nat) (s sF : vS) (r : Int32) (h : F_X0_uproot N a0 a1 a2 s = some (r, sF)) : isO s a0 0 = true ∧ vMet l D ka (xb X0) yX0_uproot cX0_uproot 4 (some .int) 2 68 [.ref (xb X0 + a0), .ref (xb X0 + a1), .ref (xb X0 + a2)] s sF (some (.int r)) := by
  unfold F_X0_uproot at h
  unfold rcv at h
  obtain ⟨hO, h⟩ := v_chk h
  refine ⟨hO, vMet.of (ini := false) X0 (plainFor_of_name (by decide +kernel)) (Nat.le_of_ble_eq_true rfl) (fun h => by cases h) (fun X ls hb hl => ?_) rfl⟩
  show V X (cX0_uproot, RX0, 4, 2, 68, false) (vRet sF (some (.int r)) (some .int)) sF s (G0 X 0 ls [])
  rw [← hb] at hl
  have hl : lv_has ls 4 [(0, .ref (xb X + a0)), (1, .ref (xb X + a1)), (2, .ref (xb X + a2))] := hl
  refine v_aload_n dX0_uproot_0 rfl (lv_at hl 1 rfl) ?_
  refine v_getI 6 0 h (by decide) (Or.inl rfl) qfX0_87 dX0_uproot_1 (fun v1 h => ?_)
  refine v_iconst (1 : Int32) dX0_uproot_4 (by decide) ?_
  refine v_icmp_ne 11 dX0_uproot_5 (by decide) h (fun h => ?_) (fun h => ?_)
  · refine v_aload_n dX0_uproot_11 rfl (lv_at hl 1 rfl) ?_
    refine v_getI 6 0 h (by decide) (Or.inl rfl) qfX0_87 dX0_uproot_12 (fun v2 h => ?_)
    refine v_if_ne 25 dX0_uproot_15 (by decide) h (fun h => ?_) (fun h => ?_)
    · refine v_aload_n dX0_uproot_25 rfl (lv_at hl 0 rfl) ?_
      refine v_getR 0 4 h (by decide) rfl qfX0_21 dX0_uproot_26 (fun r3 h => ?_)
      refine k_X6_empty h qmX0_126 (by decide) hl.1 (Nat.le_of_ble_eq_true rfl) dX0_uproot_29 (fun v4 s h => ?_)
      refine v_iconst (0 : Int32) dX0_uproot_32 (by decide) ?_
      refine v_istore_n [(3, .int (0 : Int32)), (0, .ref (xb X + a0)), (1, .ref (xb X + a1)), (2, .ref (xb X + a2))] dX0_uproot_33 rfl hl (by decide) rfl (fun ls hl => ?_)
      exact L_X0_uproot_34 N N a0 a1 a2 (0 : Int32) s ls (lv_sub hl [1, 2, 3, 0] rfl) h
    · refine v_aload_n dX0_uproot_18 rfl (lv_at hl 2 rfl) ?_
      refine v_aload_n dX0_uproot_19 rfl (lv_at hl 1 rfl) ?_
      refine k_X6_become h qmX0_110 (by decide) hl.1 (Nat.le_of_ble_eq_true rfl) dX0_uproot_20 (fun v5 s h => ?_)
      refine v_iconst (0 : Int32) dX0_uproot_23 (by decide) ?_
      exact v_iret dX0_uproot_24 h
  · refine v_bipush (-2 : Int32) dX0_uproot_8 (by decide) ?_
    exact v_iret dX0_uproot_10 h
theorem k_X0_uproot {X : VX} {cc : ByteArray} {own : String} {nL fr lo : Nat} {ini : Bool} {E : VX → Prop} {sF s : vS} {ρ : Type} {res : ρ} {pc : Nat} {ls : Array Slot} {rest : List Value} {N index : Nat} {a0 : Nat} {a1 : Nat} {a2 : Nat} {f : Int32 → vS → Option ρ} (h : bnd (F_X0_uproot N a0 a1 a2 s) f = some res) (hlink : Cond.methodLink own index yX0_uproot ∈ TT) (hR : 2 + 1 ≤ fr ∧ 8 + (4 + 11) + 68 ≤ lo) (hls : ls.size = nL) (hr : (rest.map fun v => v.category).sum ≤ 8) (hdg : decode cc pc = .ok (.invokevirtual index, 3)) (kk : ∀ r s', f r s' = some res → V X (cc, own, nL, fr, lo, ini) E sF s' (G0 X (pc + 3) ls (.int r :: rest))) : V X (cc, own, nL, fr, lo, ini) E sF s (G0 X pc ls (.ref (xb X + a2) :: .ref (xb X + a1) :: .ref (xb X + a0) :: rest)) := by
  obtain ⟨r, s', e, h⟩ := bnd_some h
  exact v_callV (b := a0) (ci := 0) (As := [.ref (xb X + a1), .ref (xb X + a2)]) (rest := rest) (c_X0_uproot X N a0 a1 a2 s s' r e).2 (c_X0_uproot (l := xl X) (D := xD X) (ka := xka X) X N a0 a1 a2 s s' r e).1 rfl vl_X0_uproot qi_X0_uproot qe_X0_uproot hlink hR rfl rfl hls hr hdg (kk r s' h)
set_option maxHeartbeats 4000000 in
set_option maxRecDepth 100000 in
theorem L_X1_tally_130 {X : VX} {sF : vS} {r : Unit} (N : Nat) (k34 : Nat → Nat → Int32 → Int32 → Int32 → vS → Option (Unit × vS)) (hk34 : ∀ (a0 : Nat) (a1 : Nat) (l2 : Int32) (l3 : Int32) (l4 : Int32) (s : vS) (ls : Array Slot), lv_has ls 6 [(0, .ref (xb X + a0)), (1, .ref (xb X + a1)), (2, .int l2), (3, .int l3), (4, .int l4)] → k34 a0 a1 l2 l3 l4 s = some (r, sF) → V X (cX1_tally, RX1, 6, 3, 73, false) (vRet sF none none) sF s (G0 X 34 ls [])) (a0 : Nat) (a1 : Nat) (l2 : Int32) (l3 : Int32) (l4 : Int32) (s : vS) (ls : Array Slot) (hl : lv_has ls 6 [(0, .ref (xb X + a0)), (1, .ref (xb X + a1)), (2, .int l2), (3, .int l3), (4, .int l4)]) (h : J_X1_tally_130 N k34 a0 a1 l2 l3 l4 s = some (r, sF)) : V X (cX1_tally, RX1, 6, 3, 73, false) (vRet sF none none) sF s (G0 X 130 ls []) := by
  unfold J_X1_tally_130 at h
  refine v_inc (fun z => [(4, .int z), (0, .ref (xb X + a0)), (1, .ref (xb X + a1)), (2, .int l2), (3, .int l3)]) dX1_tally_130 h hl (k := 4) rfl (by rfl) (by decide) (fun _ => rfl) (fun l4_16 ls hl h => ?_)
  refine v_goto 34 dX1_tally_133 (by decide) ?_
  exact hk34 a0 a1 l2 l3 l4_16 s ls (lv_sub hl [1, 2, 3, 4, 0] rfl) h
set_option maxHeartbeats 4000000 in
set_option maxRecDepth 100000 in
theorem L_X1_tally_119 {X : VX} {sF : vS} {r : Unit} (N : Nat) (k34 : Nat → Nat → Int32 → Int32 → Int32 → vS → Option (Unit × vS)) (hk34 : ∀ (a0 : Nat) (a1 : Nat) (l2 : Int32) (l3 : Int32) (l4 : Int32) (s : vS) (ls : Array Slot), lv_has ls 6 [(0, .ref (xb X + a0)), (1, .ref (xb X + a1)), (2, .int l2), (3, .int l3), (4, .int l4)] → k34 a0 a1 l2 l3 l4 s = some (r, sF) → V X (cX1_tally, RX1, 6, 3, 73, false) (vRet sF none none) sF s (G0 X 34 ls [])) (a0 : Nat) (a1 : Nat) (l2 : Int32) (l3 : Int32) (l4 : Int32) (l5 : Int32) (s : vS) (ls : Array Slot) (hl : lv_has ls 6 [(0, .ref (xb X + a0)), (1, .ref (xb X + a1)), (2, .int l2), (3, .int l3), (4, .int l4), (5, .int l5)]) (h : J_X1_tally_119 N k34 a0 a1 l2 l3 l4 l5 s = some (r, sF)) : V X (cX1_tally, RX1, 6, 3, 73, false) (vRet sF none none) sF s (G0 X 119 ls []) := by
  unfold J_X1_tally_119 at h
  refine v_aload_n dX1_tally_119 rfl (lv_at hl 0 rfl) ?_
  refine v_getR 1 10 h (by decide) rfl qfX1_56 dX1_tally_120 (fun r14 h => ?_)
  refine v_iload dX1_tally_123 (lv_at hl 5 rfl) ?_
  refine v_dup2 dX1_tally_125 rfl rfl ?_
  refine v_iald dX1_tally_126 h (fun v15 h => ?_)
  refine v_iconst (1 : Int32) dX1_tally_127 (by decide) ?_
  refine v_iadd dX1_tally_128 ?_
  refine v_iast dX1_tally_129 h (fun s h => ?_)
  exact L_X1_tally_130 N k34 hk34 a0 a1 l2 l3 l4 s ls (lv_sub hl [0, 1, 2, 3, 4] rfl) h
set_option maxHeartbeats 4000000 in
set_option maxRecDepth 100000 in
theorem L_X1_tally_66 {X : VX} {sF : vS} {r : Unit} (N : Nat) (k34 : Nat → Nat → Int32 → Int32 → Int32 → vS → Option (Unit × vS)) (hk34 : ∀ (a0 : Nat) (a1 : Nat) (l2 : Int32) (l3 : Int32) (l4 : Int32) (s : vS) (ls : Array Slot), lv_has ls 6 [(0, .ref (xb X + a0)), (1, .ref (xb X + a1)), (2, .int l2), (3, .int l3), (4, .int l4)] → k34 a0 a1 l2 l3 l4 s = some (r, sF) → V X (cX1_tally, RX1, 6, 3, 73, false) (vRet sF none none) sF s (G0 X 34 ls [])) (a0 : Nat) (a1 : Nat) (l2 : Int32) (l3 : Int32) (l4 : Int32) (k0 : Int32) (s : vS) (ls : Array Slot) (hl : lv_has ls 6 [(0, .ref (xb X + a0)), (1, .ref (xb X + a1)), (2, .int l2), (3, .int l3), (4, .int l4)]) (h : J_X1_tally_66 N k34 a0 a1 l2 l3 l4 k0 s = some (r, sF)) : V X (cX1_tally, RX1, 6, 3, 73, false) (vRet sF none none) sF s (G0 X 66 ls [.int k0]) := by
  unfold J_X1_tally_66 at h
  refine v_istore [(5, .int k0), (0, .ref (xb X + a0)), (1, .ref (xb X + a1)), (2, .int l2), (3, .int l3), (4, .int l4)] dX1_tally_66 hl (by decide) rfl (fun ls hl => ?_)
  refine v_iload dX1_tally_68 (lv_at hl 0 rfl) ?_
  refine v_iconst (-1 : Int32) dX1_tally_70 (by decide) ?_
  refine v_icmp_ne 77 dX1_tally_71 (by decide) h (fun h => ?_) (fun h => ?_)
  · refine v_aload_n dX1_tally_77 rfl (lv_at hl 1 rfl) ?_
    refine v_getR 1 10 h (by decide) rfl qfX1_56 dX1_tally_78 (fun r7 h => ?_)
    refine v_iload dX1_tally_81 (lv_at hl 0 rfl) ?_
    refine v_iald dX1_tally_83 h (fun v8 h => ?_)
    refine v_if_ne 119 dX1_tally_84 (by decide) h (fun h => ?_) (fun h => ?_)
    · exact L_X1_tally_119 N k34 hk34 a0 a1 l2 l3 l4 k0 s ls (lv_sub hl [1, 2, 3, 4, 5, 0] rfl) h
    · refine v_aload_n dX1_tally_87 rfl (lv_at hl 1 rfl) ?_
      refine v_getI 1 12 h (by decide) (Or.inl rfl) qfX1_27 dX1_tally_88 (fun v9 h => ?_)
      refine v_aload_n dX1_tally_91 rfl (lv_at hl 1 rfl) ?_
      refine v_getI 1 2 h (by decide) (Or.inl rfl) qfX1_35 dX1_tally_92 (fun v10 h => ?_)
      refine v_icmp_ge 119 dX1_tally_95 (by decide) h (fun h => ?_) (fun h => ?_)
      · exact L_X1_tally_119 N k34 hk34 a0 a1 l2 l3 l4 k0 s ls (lv_sub hl [1, 2, 3, 4, 5, 0] rfl) h
      · refine v_aload_n dX1_tally_98 rfl (lv_at hl 1 rfl) ?_
        refine v_getR 1 11 h (by decide) rfl qfX1_59 dX1_tally_99 (fun r11 h => ?_)
        refine v_aload_n dX1_tally_102 rfl (lv_at hl 1 rfl) ?_
        refine v_getI 1 12 h (by decide) (Or.inl rfl) qfX1_27 dX1_tally_103 (fun v12 h => ?_)
        refine v_iload dX1_tally_106 (lv_at hl 0 rfl) ?_
        refine v_iast dX1_tally_108 h (fun s h => ?_)
        refine v_aload_n dX1_tally_109 rfl (lv_at hl 1 rfl) ?_
        refine v_dup dX1_tally_110 rfl ?_
        refine v_getI 1 12 h (by decide) (Or.inl rfl) qfX1_27 dX1_tally_111 (fun v13 h => ?_)
        refine v_iconst (1 : Int32) dX1_tally_114 (by decide) ?_
        refine v_iadd dX1_tally_115 ?_
        refine v_putI 1 12 h (by decide) rfl (Or.inl rfl) qfX1_27 dX1_tally_116 (fun s h => ?_)
        exact L_X1_tally_119 N k34 hk34 a0 a1 l2 l3 l4 k0 s ls (lv_sub hl [1, 2, 3, 4, 5, 0] rfl) h
  · refine v_goto 130 dX1_tally_74 (by decide) ?_
    exact L_X1_tally_130 N k34 hk34 a0 a1 l2 l3 l4 s ls (lv_sub hl [1, 2, 3, 4, 5] rfl) h
