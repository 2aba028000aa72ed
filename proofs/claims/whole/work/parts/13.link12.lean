theorem vl_X9_isMap : vCl yX9_isMap cX9_isMap 6 (some .boolean) 2 := ⟨qy_X9_isMap, qjX9, by decide +kernel, by decide +kernel, by decide +kernel⟩
set_option maxHeartbeats 4000000 in
set_option maxRecDepth 100000 in
theorem c_X9_isMap {l : Launch} {D : va_G} {ka : Nat → ClassId} (X0 : VX) (N : Nat) (a0 : Nat) (l1 : Int32) (l2 : Int32) (s sF : vS) (r : Int32) (h : F_X9_isMap N a0 l1 l2 s = some (r, sF)) : isO s a0 9 = true ∧ vMet l D ka (xb X0) yX9_isMap cX9_isMap 6 (some .boolean) 1 21 [.ref (xb X0 + a0), .int l1, .int l2] s sF (some (.int r)) := by
  unfold F_X9_isMap at h
  unfold rcv at h
  obtain ⟨hO, h⟩ := v_chk h
  refine ⟨hO, vMet.of (ini := false) X0 (plainFor_of_name (by decide +kernel)) (Nat.le_of_ble_eq_true rfl) (fun h => by cases h) (fun X ls hb hl => ?_) rfl⟩
  show V X (cX9_isMap, RX9, 6, 1, 21, false) (vRet sF (some (.int r)) (some .boolean)) sF s (G0 X 0 ls [])
  rw [← hb] at hl
  have hl : lv_has ls 6 [(0, .ref (xb X + a0)), (1, .int l1), (2, .int l2)] := hl
  refine v_iload_n dX9_isMap_0 rfl (lv_at hl 2 rfl) ?_
  refine v_istore_n [(3, .int l2), (0, .ref (xb X + a0)), (1, .int l1), (2, .int l2)] dX9_isMap_1 rfl hl (by decide) rfl (fun ls hl => ?_)
  refine v_iconst (0 : Int32) dX9_isMap_2 (by decide) ?_
  refine v_istore [(4, .int (0 : Int32)), (3, .int l2), (0, .ref (xb X + a0)), (1, .int l1), (2, .int l2)] dX9_isMap_3 hl (by decide) rfl (fun ls hl => ?_)
  exact L_X9_isMap_5 N N a0 l1 l2 (0 : Int32) s ls (lv_sub hl [2, 3, 1, 0] rfl) h
theorem k_X9_isMap {X : VX} {cc : ByteArray} {own : String} {nL fr lo : Nat} {ini : Bool} {E : VX → Prop} {sF s : vS} {ρ : Type} {res : ρ} {pc : Nat} {ls : Array Slot} {rest : List Value} {N index : Nat} {a0 : Nat} {l1 : Int32} {l2 : Int32} {f : Int32 → vS → Option ρ} (h : bnd (F_X9_isMap N a0 l1 l2 s) f = some res) (hlink : Cond.methodLink own index yX9_isMap ∈ TT) (hR : 1 + 1 ≤ fr ∧ 8 + (6 + 11) + 21 ≤ lo) (hls : ls.size = nL) (hr : (rest.map fun v => v.category).sum ≤ 8) (hdg : decode cc pc = .ok (.invokevirtual index, 3)) (kk : ∀ r s', f r s' = some res → V X (cc, own, nL, fr, lo, ini) E sF s' (G0 X (pc + 3) ls (.int r :: rest))) : V X (cc, own, nL, fr, lo, ini) E sF s (G0 X pc ls (.int l2 :: .int l1 :: .ref (xb X + a0) :: rest)) := by
  obtain ⟨r, s', e, h⟩ := bnd_some h
  exact v_callV (b := a0) (ci := 9) (As := [.int l1, .int l2]) (rest := rest) (c_X9_isMap X N a0 l1 l2 s s' r e).2 (c_X9_isMap (l := xl X) (D := xD X) (ka := xka X) X N a0 l1 l2 s s' r e).1 rfl vl_X9_isMap qi_X9_isMap qe_X9_isMap hlink hR rfl rfl hls hr hdg (kk r s' h)
set_option maxHeartbeats 4000000 in
set_option maxRecDepth 100000 in
theorem L_X9_maps_42 {X : VX} {sF : vS} {r : Int32} (N : Nat) (k13 : Nat → Int32 → Int32 → Int32 → vS → Option (Int32 × vS)) (hk13 : ∀ (a0 : Nat) (l1 : Int32) (l2 : Int32) (l3 : Int32) (s : vS) (ls : Array Slot), lv_has ls 4 [(0, .ref (xb X + a0)), (1, .int l1), (2, .int l2), (3, .int l3)] → k13 a0 l1 l2 l3 s = some (r, sF) → V X (cX9_maps, RX9, 4, 2, 46, false) (vRet sF (some (.int r)) (some .int)) sF s (G0 X 13 ls [])) (a0 : Nat) (l1 : Int32) (l3 : Int32) (k0 : Int32) (k1 : Int32) (s : vS) (ls : Array Slot) (hl : lv_has ls 4 [(0, .ref (xb X + a0)), (1, .int l1), (3, .int l3)]) (h : J_X9_maps_42 N k13 a0 l1 l3 k0 k1 s = some (r, sF)) : V X (cX9_maps, RX9, 4, 2, 46, false) (vRet sF (some (.int r)) (some .int)) sF s (G0 X 42 ls [.int k1, .int k0]) := by
  unfold J_X9_maps_42 at h
  refine v_iadd dX9_maps_42 ?_
  refine v_nmI h (fun l2_5 h => ?_)
  refine v_istore_n [(2, .int l2_5), (0, .ref (xb X + a0)), (1, .int l1), (3, .int l3)] dX9_maps_43 rfl hl (by decide) rfl (fun ls hl => ?_)
  refine v_inc (fun z => [(3, .int z), (2, .int l2_5), (0, .ref (xb X + a0)), (1, .int l1)]) dX9_maps_44 h hl (k := 3) rfl (by rfl) (by decide) (fun _ => rfl) (fun l3_6 ls hl h => ?_)
  refine v_goto 13 dX9_maps_47 (by decide) ?_
  exact hk13 a0 l1 l2_5 l3_6 s ls (lv_sub hl [2, 3, 1, 0] rfl) h
set_option maxHeartbeats 4000000 in
set_option maxRecDepth 100000 in
theorem L_X9_maps_13 {X : VX} {sF : vS} {r : Int32} (N : Nat) : ∀ (n : Nat) (a0 : Nat) (l1 : Int32) (l2 : Int32) (l3 : Int32) (s : vS) (ls : Array Slot), lv_has ls 4 [(0, .ref (xb X + a0)), (1, .int l1), (2, .int l2), (3, .int l3)] → H_X9_maps_13 N n a0 l1 l2 l3 s = some (r, sF) → V X (cX9_maps, RX9, 4, 2, 46, false) (vRet sF (some (.int r)) (some .int)) sF s (G0 X 13 ls []) := by
  intro n
  induction n with
  | zero => intro a0 l1 l2 l3 s ls hl h; cases h
  | succ n ih =>
   intro a0 l1 l2 l3 s ls hl h
   unfold H_X9_maps_13 at h
   refine v_iload_n dX9_maps_13 rfl (lv_at hl 3 rfl) ?_
   refine v_iconst (1 : Int32) dX9_maps_14 (by decide) ?_
   refine v_iconst (3 : Int32) dX9_maps_15 (by decide) ?_
   refine v_aload_n dX9_maps_16 rfl (lv_at hl 0 rfl) ?_
   refine v_getR 9 0 h (by decide) rfl qfX9_28 dX9_maps_17 (fun r2 h => ?_)
   refine v_iload_n dX9_maps_20 rfl (lv_at hl 1 rfl) ?_
   refine v_iald dX9_maps_21 h (fun v3 h => ?_)
   refine v_imul dX9_maps_22 ?_
   refine v_ishl dX9_maps_23 ?_
   refine v_icmp_ge 50 dX9_maps_24 (by decide) h (fun h => ?_) (fun h => ?_)
   · refine v_iload_n dX9_maps_50 rfl (lv_at hl 2 rfl) ?_
     exact v_iret dX9_maps_51 h
   · refine v_iload_n dX9_maps_27 rfl (lv_at hl 2 rfl) ?_
     refine v_aload_n dX9_maps_28 rfl (lv_at hl 0 rfl) ?_
     refine v_iload_n dX9_maps_29 rfl (lv_at hl 1 rfl) ?_
     refine v_iload_n dX9_maps_30 rfl (lv_at hl 3 rfl) ?_
     refine k_X9_isMap h qmX9_244 (by decide) hl.1 (Nat.le_of_ble_eq_true rfl) dX9_maps_31 (fun v4 s h => ?_)
     refine v_if_eq 41 dX9_maps_34 (by decide) h (fun h => ?_) (fun h => ?_)
     · refine v_iconst (0 : Int32) dX9_maps_41 (by decide) ?_
       exact L_X9_maps_42 N (H_X9_maps_13 N n) ih a0 l1 l3 l2 (0 : Int32) s ls (lv_sub hl [0, 1, 3] rfl) h
     · refine v_iconst (1 : Int32) dX9_maps_37 (by decide) ?_
       refine v_goto 42 dX9_maps_38 (by decide) ?_
       exact L_X9_maps_42 N (H_X9_maps_13 N n) ih a0 l1 l3 l2 (1 : Int32) s ls (lv_sub hl [0, 1, 3] rfl) h
theorem vl_X9_maps : vCl yX9_maps cX9_maps 4 (some .int) 1 := ⟨qy_X9_maps, qjX9, by decide +kernel, by decide +kernel, by decide +kernel⟩
set_option maxHeartbeats 4000000 in
set_option maxRecDepth 100000 in
theorem c_X9_maps {l : Launch} {D : va_G} {ka : Nat → ClassId} (X0 : VX) (N : Nat) (a0 : Nat) (l1 : Int32) (s sF : vS) (r : Int32) (h : F_X9_maps N a0 l1 s = some (r, sF)) : isO s a0 9 = true ∧ vMet l D ka (xb X0) yX9_maps cX9_maps 4 (some .int) 2 46 [.ref (xb X0 + a0), .int l1] s sF (some (.int r)) := by
  unfold F_X9_maps at h
  unfold rcv at h
  obtain ⟨hO, h⟩ := v_chk h
  refine ⟨hO, vMet.of (ini := false) X0 (plainFor_of_name (by decide +kernel)) (Nat.le_of_ble_eq_true rfl) (fun h => by cases h) (fun X ls hb hl => ?_) rfl⟩
  show V X (cX9_maps, RX9, 4, 2, 46, false) (vRet sF (some (.int r)) (some .int)) sF s (G0 X 0 ls [])
  rw [← hb] at hl
  have hl : lv_has ls 4 [(0, .ref (xb X + a0)), (1, .int l1)] := hl
  refine v_iload_n dX9_maps_0 rfl (lv_at hl 1 rfl) ?_
  refine k_X9_isFlag h qmX9_227 (by decide) hl.1 (Nat.le_of_ble_eq_true rfl) dX9_maps_1 (fun v1 s h => ?_)
  refine v_if_ne 9 dX9_maps_4 (by decide) h (fun h => ?_) (fun h => ?_)
  · refine v_iconst (0 : Int32) dX9_maps_9 (by decide) ?_
    refine v_istore_n [(2, .int (0 : Int32)), (0, .ref (xb X + a0)), (1, .int l1)] dX9_maps_10 rfl hl (by decide) rfl (fun ls hl => ?_)
    refine v_iconst (0 : Int32) dX9_maps_11 (by decide) ?_
    refine v_istore_n [(3, .int (0 : Int32)), (2, .int (0 : Int32)), (0, .ref (xb X + a0)), (1, .int l1)] dX9_maps_12 rfl hl (by decide) rfl (fun ls hl => ?_)
    exact L_X9_maps_13 N N a0 l1 (0 : Int32) (0 : Int32) s ls (lv_sub hl [2, 3, 1, 0] rfl) h
  · refine v_iconst (-1 : Int32) dX9_maps_7 (by decide) ?_
    exact v_iret dX9_maps_8 h
theorem k_X9_maps {X : VX} {cc : ByteArray} {own : String} {nL fr lo : Nat} {ini : Bool} {E : VX → Prop} {sF s : vS} {ρ : Type} {res : ρ} {pc : Nat} {ls : Array Slot} {rest : List Value} {N index : Nat} {a0 : Nat} {l1 : Int32} {f : Int32 → vS → Option ρ} (h : bnd (F_X9_maps N a0 l1 s) f = some res) (hlink : Cond.methodLink own index yX9_maps ∈ TT) (hR : 2 + 1 ≤ fr ∧ 8 + (4 + 11) + 46 ≤ lo) (hls : ls.size = nL) (hr : (rest.map fun v => v.category).sum ≤ 8) (hdg : decode cc pc = .ok (.invokevirtual index, 3)) (kk : ∀ r s', f r s' = some res → V X (cc, own, nL, fr, lo, ini) E sF s' (G0 X (pc + 3) ls (.int r :: rest))) : V X (cc, own, nL, fr, lo, ini) E sF s (G0 X pc ls (.int l1 :: .ref (xb X + a0) :: rest)) := by
  obtain ⟨r, s', e, h⟩ := bnd_some h
  exact v_callV (b := a0) (ci := 9) (As := [.int l1]) (rest := rest) (c_X9_maps X N a0 l1 s s' r e).2 (c_X9_maps (l := xl X) (D := xD X) (ka := xka X) X N a0 l1 s s' r e).1 rfl vl_X9_maps qi_X9_maps qe_X9_maps hlink hR rfl rfl hls hr hdg (kk r s' h)
set_option maxHeartbeats 4000000 in
set_option maxRecDepth 100000 in
theorem L_X9_countAll_60 {X : VX} {sF : vS} {r : Unit} (N : Nat) (k27 : Nat → Int32 → Int32 → vS → Option (Unit × vS)) (hk27 : ∀ (a0 : Nat) (l1 : Int32) (l2 : Int32) (s : vS) (ls : Array Slot), lv_has ls 3 [(0, .ref (xb X + a0)), (1, .int l1), (2, .int l2)] → k27 a0 l1 l2 s = some (r, sF) → V X (cX9_countAll, RX9, 3, 3, 70, false) (vRet sF none none) sF s (G0 X 27 ls [])) (a0 : Nat) (l1 : Int32) (l2 : Int32) (s : vS) (ls : Array Slot) (hl : lv_has ls 3 [(0, .ref (xb X + a0)), (1, .int l1), (2, .int l2)]) (h : J_X9_countAll_60 N k27 a0 l1 l2 s = some (r, sF)) : V X (cX9_countAll, RX9, 3, 3, 70, false) (vRet sF none none) sF s (G0 X 60 ls []) := by
  unfold J_X9_countAll_60 at h
  refine v_inc (fun z => [(2, .int z), (0, .ref (xb X + a0)), (1, .int l1)]) dX9_countAll_60 h hl (k := 2) rfl (by rfl) (by decide) (fun _ => rfl) (fun l2_9 ls hl h => ?_)
  refine v_goto 27 dX9_countAll_63 (by decide) ?_
  exact hk27 a0 l1 l2_9 s ls (lv_sub hl [1, 2, 0] rfl) h
set_option maxHeartbeats 4000000 in
set_option maxRecDepth 100000 in
theorem L_X9_countAll_27 {X : VX} {sF : vS} {r : Unit} (N : Nat) : ∀ (n : Nat) (a0 : Nat) (l1 : Int32) (l2 : Int32) (s : vS) (ls : Array Slot), lv_has ls 3 [(0, .ref (xb X + a0)), (1, .int l1), (2, .int l2)] → H_X9_countAll_27 N n a0 l1 l2 s = some (r, sF) → V X (cX9_countAll, RX9, 3, 3, 70, false) (vRet sF none none) sF s (G0 X 27 ls []) := by
  intro n
  induction n with
  | zero => intro a0 l1 l2 s ls hl h; cases h
  | succ n ih =>
   intro a0 l1 l2 s ls hl h
   unfold H_X9_countAll_27 at h
   refine v_iload_n dX9_countAll_27 rfl (lv_at hl 2 rfl) ?_
   refine v_iconst (1 : Int32) dX9_countAll_28 (by decide) ?_
   refine v_aload_n dX9_countAll_29 rfl (lv_at hl 0 rfl) ?_
   refine v_getI 9 5 h (by decide) (Or.inl rfl) qfX9_137 dX9_countAll_30 (fun v4 h => ?_)
   refine v_ishl dX9_countAll_33 ?_
   refine v_icmp_ge 66 dX9_countAll_34 (by decide) h (fun h => ?_) (fun h => ?_)
   · exact v_vret dX9_countAll_66 h
   · refine v_iload_n dX9_countAll_37 rfl (lv_at hl 2 rfl) ?_
     refine k_X9_ones h qmX9_140 (by decide) hl.1 (Nat.le_of_ble_eq_true rfl) dX9_countAll_38 (fun v5 s h => ?_)
     refine v_iload_n dX9_countAll_41 rfl (lv_at hl 1 rfl) ?_
     refine v_icmp_ne 60 dX9_countAll_42 (by decide) h (fun h => ?_) (fun h => ?_)
     · exact L_X9_countAll_60 N (H_X9_countAll_27 N n) ih a0 l1 l2 s ls (lv_sub hl [0, 1, 2] rfl) h
     · refine v_aload_n dX9_countAll_45 rfl (lv_at hl 0 rfl) ?_
       refine v_getR 9 27 h (by decide) rfl qfX9_90 dX9_countAll_46 (fun r6 h => ?_)
       refine v_aload_n dX9_countAll_49 rfl (lv_at hl 0 rfl) ?_
       refine v_iload_n dX9_countAll_50 rfl (lv_at hl 2 rfl) ?_
       refine v_iconst (-1 : Int32) dX9_countAll_51 (by decide) ?_
       refine k_X9_numberOn h qmX9_157 (by decide) hl.1 (Nat.le_of_ble_eq_true rfl) dX9_countAll_52 (fun v7 s h => ?_)
       refine v_dup2 dX9_countAll_55 rfl rfl ?_
       refine v_iald dX9_countAll_56 h (fun v8 h => ?_)
       refine v_iconst (1 : Int32) dX9_countAll_57 (by decide) ?_
       refine v_iadd dX9_countAll_58 ?_
       refine v_iast dX9_countAll_59 h (fun s h => ?_)
       exact L_X9_countAll_60 N (H_X9_countAll_27 N n) ih a0 l1 l2 s ls (lv_sub hl [0, 1, 2] rfl) h
set_option maxHeartbeats 4000000 in
set_option maxRecDepth 100000 in
theorem L_X9_countAll_6 {X : VX} {sF : vS} {r : Unit} (N : Nat) : ∀ (n : Nat) (a0 : Nat) (l1 : Int32) (l2 : Int32) (s : vS) (ls : Array Slot), lv_has ls 3 [(0, .ref (xb X + a0)), (1, .int l1), (2, .int l2)] → H_X9_countAll_6 N n a0 l1 l2 s = some (r, sF) → V X (cX9_countAll, RX9, 3, 3, 70, false) (vRet sF none none) sF s (G0 X 6 ls []) := by
  intro n
  induction n with
  | zero => intro a0 l1 l2 s ls hl h; cases h
  | succ n ih =>
   intro a0 l1 l2 s ls hl h
   unfold H_X9_countAll_6 at h
   refine v_iload_n dX9_countAll_6 rfl (lv_at hl 2 rfl) ?_
   refine v_bipush (19 : Int32) dX9_countAll_7 (by decide) ?_
   refine v_icmp_ge 25 dX9_countAll_9 (by decide) h (fun h => ?_) (fun h => ?_)
   · refine v_iconst (0 : Int32) dX9_countAll_25 (by decide) ?_
     refine v_istore_n [(2, .int (0 : Int32)), (0, .ref (xb X + a0)), (1, .int l1)] dX9_countAll_26 rfl hl (by decide) rfl (fun ls hl => ?_)
     exact L_X9_countAll_27 N N a0 l1 (0 : Int32) s ls (lv_sub hl [1, 2, 0] rfl) h
   · refine v_aload_n dX9_countAll_12 rfl (lv_at hl 0 rfl) ?_
     refine v_getR 9 27 h (by decide) rfl qfX9_90 dX9_countAll_13 (fun r2 h => ?_)
     refine v_iload_n dX9_countAll_16 rfl (lv_at hl 2 rfl) ?_
     refine v_iconst (0 : Int32) dX9_countAll_17 (by decide) ?_
     refine v_iast dX9_countAll_18 h (fun s h => ?_)
     refine v_inc (fun z => [(2, .int z), (0, .ref (xb X + a0)), (1, .int l1)]) dX9_countAll_19 h hl (k := 2) rfl (by rfl) (by decide) (fun _ => rfl) (fun l2_3 ls hl h => ?_)
     refine v_goto 6 dX9_countAll_22 (by decide) ?_
     exact ih a0 l1 l2_3 s ls (lv_sub hl [1, 2, 0] rfl) h
theorem vl_X9_countAll : vCl yX9_countAll cX9_countAll 3 none 1 := ⟨qy_X9_countAll, qjX9, by decide +kernel, by decide +kernel, by decide +kernel⟩
set_option maxHeartbeats 4000000 in
set_option maxRecDepth 100000 in
theorem c_X9_countAll {l : Launch} {D : va_G} {ka : Nat → ClassId} (X0 : VX) (N : Nat) (a0 : Nat) (l1 : Int32) (s sF : vS) (r : Unit) (h : F_X9_countAll N a0 l1 s = some (r, sF)) : isO s a0 9 = true ∧ vMet l D ka (xb X0) yX9_countAll cX9_countAll 3 none 3 70 [.ref (xb X0 + a0), .int l1] s sF none := by
  unfold F_X9_countAll at h
  unfold rcv at h
  obtain ⟨hO, h⟩ := v_chk h
  refine ⟨hO, vMet.of (ini := false) X0 (plainFor_of_name (by decide +kernel)) (Nat.le_of_ble_eq_true rfl) (fun h => by cases h) (fun X ls hb hl => ?_) rfl⟩
  show V X (cX9_countAll, RX9, 3, 3, 70, false) (vRet sF none none) sF s (G0 X 0 ls [])
  rw [← hb] at hl
  have hl : lv_has ls 3 [(0, .ref (xb X + a0)), (1, .int l1)] := hl
  refine v_aload_n dX9_countAll_0 rfl (lv_at hl 0 rfl) ?_
  refine k_X9_lookInHand h qmX9_241 (by decide) hl.1 (Nat.le_of_ble_eq_true rfl) dX9_countAll_1 (fun v1 s h => ?_)
  refine v_iconst (0 : Int32) dX9_countAll_4 (by decide) ?_
  refine v_istore_n [(2, .int (0 : Int32)), (0, .ref (xb X + a0)), (1, .int l1)] dX9_countAll_5 rfl hl (by decide) rfl (fun ls hl => ?_)
  exact L_X9_countAll_6 N N a0 l1 (0 : Int32) s ls (lv_sub hl [1, 2, 0] rfl) h
theorem k_X9_countAll {X : VX} {cc : ByteArray} {own : String} {nL fr lo : Nat} {ini : Bool} {E : VX → Prop} {sF s : vS} {ρ : Type} {res : ρ} {pc : Nat} {ls : Array Slot} {rest : List Value} {N index : Nat} {a0 : Nat} {l1 : Int32} {f : Unit → vS → Option ρ} (h : bnd (F_X9_countAll N a0 l1 s) f = some res) (hlink : Cond.methodLink own index yX9_countAll ∈ TT) (hR : 3 + 1 ≤ fr ∧ 8 + (3 + 11) + 70 ≤ lo) (hls : ls.size = nL) (hr : (rest.map fun v => v.category).sum ≤ 8) (hdg : decode cc pc = .ok (.invokevirtual index, 3)) (kk : ∀ r s', f r s' = some res → V X (cc, own, nL, fr, lo, ini) E sF s' (G0 X (pc + 3) ls (rest))) : V X (cc, own, nL, fr, lo, ini) E sF s (G0 X pc ls (.int l1 :: .ref (xb X + a0) :: rest)) := by
  obtain ⟨r, s', e, h⟩ := bnd_some h
  exact v_callV (b := a0) (ci := 9) (As := [.int l1]) (rest := rest) (c_X9_countAll X N a0 l1 s s' r e).2 (c_X9_countAll (l := xl X) (D := xD X) (ka := xka X) X N a0 l1 s s' r e).1 rfl vl_X9_countAll qi_X9_countAll qe_X9_countAll hlink hR rfl rfl hls hr hdg (kk r s' h)
set_option maxHeartbeats 4000000 in
set_option maxRecDepth 100000 in
theorem L_X9_rank_205 {X : VX} {sF : vS} {r : Int32} (N : Nat) (k81 : Nat → Int32 → Int32 → Int32 → Int32 → vS → Option (Int32 × vS)) (hk81 : ∀ (a0 : Nat) (l1 : Int32) (l2 : Int32) (l4 : Int32) (l5 : Int32) (s : vS) (ls : Array Slot), lv_has ls 9 [(0, .ref (xb X + a0)), (1, .int l1), (2, .int l2), (4, .int l4), (5, .int l5)] → k81 a0 l1 l2 l4 l5 s = some (r, sF) → V X (cX9_rank, RX9, 9, 4, 92, false) (vRet sF (some (.int r)) (some .int)) sF s (G0 X 81 ls [])) (a0 : Nat) (l1 : Int32) (l2 : Int32) (l5 : Int32) (k0 : Int32) (s : vS) (ls : Array Slot) (hl : lv_has ls 9 [(0, .ref (xb X + a0)), (1, .int l1), (2, .int l2), (5, .int l5)]) (h : J_X9_rank_205 N k81 a0 l1 l2 l5 k0 s = some (r, sF)) : V X (cX9_rank, RX9, 9, 4, 92, false) (vRet sF (some (.int r)) (some .int)) sF s (G0 X 205 ls [.int k0]) := by
  unfold J_X9_rank_205 at h
  refine v_istore [(4, .int k0), (0, .ref (xb X + a0)), (1, .int l1), (2, .int l2), (5, .int l5)] dX9_rank_205 hl (by decide) rfl (fun ls hl => ?_)
  refine v_inc (fun z => [(5, .int z), (4, .int k0), (0, .ref (xb X + a0)), (1, .int l1), (2, .int l2)]) dX9_rank_207 h hl (k := 4) rfl (by rfl) (by decide) (fun _ => rfl) (fun l5_20 ls hl h => ?_)
  refine v_goto 81 dX9_rank_210 (by decide) ?_
  exact hk81 a0 l1 l2 k0 l5_20 s ls (lv_sub hl [2, 3, 4, 1, 0] rfl) h
set_option maxHeartbeats 4000000 in
set_option maxRecDepth 100000 in
theorem L_X9_rank_203 {X : VX} {sF : vS} {r : Int32} (N : Nat) (k81 : Nat → Int32 → Int32 → Int32 → Int32 → vS → Option (Int32 × vS)) (hk81 : ∀ (a0 : Nat) (l1 : Int32) (l2 : Int32) (l4 : Int32) (l5 : Int32) (s : vS) (ls : Array Slot), lv_has ls 9 [(0, .ref (xb X + a0)), (1, .int l1), (2, .int l2), (4, .int l4), (5, .int l5)] → k81 a0 l1 l2 l4 l5 s = some (r, sF) → V X (cX9_rank, RX9, 9, 4, 92, false) (vRet sF (some (.int r)) (some .int)) sF s (G0 X 81 ls [])) (a0 : Nat) (l1 : Int32) (l2 : Int32) (l4 : Int32) (l5 : Int32) (s : vS) (ls : Array Slot) (hl : lv_has ls 9 [(0, .ref (xb X + a0)), (1, .int l1), (2, .int l2), (4, .int l4), (5, .int l5)]) (h : J_X9_rank_203 N k81 a0 l1 l2 l4 l5 s = some (r, sF)) : V X (cX9_rank, RX9, 9, 4, 92, false) (vRet sF (some (.int r)) (some .int)) sF s (G0 X 203 ls []) := by
  unfold J_X9_rank_203 at h
  refine v_iload dX9_rank_203 (lv_at hl 3 rfl) ?_
  exact L_X9_rank_205 N k81 hk81 a0 l1 l2 l5 l4 s ls (lv_sub hl [0, 1, 2, 4] rfl) h
set_option maxHeartbeats 4000000 in
set_option maxRecDepth 100000 in
theorem L_X9_rank_172 {X : VX} {sF : vS} {r : Int32} (N : Nat) (k81 : Nat → Int32 → Int32 → Int32 → Int32 → vS → Option (Int32 × vS)) (k94 : Nat → Int32 → Int32 → Int32 → Int32 → Int32 → Int32 → vS → Option (Int32 × vS)) (hk81 : ∀ (a0 : Nat) (l1 : Int32) (l2 : Int32) (l4 : Int32) (l5 : Int32) (s : vS) (ls : Array Slot), lv_has ls 9 [(0, .ref (xb X + a0)), (1, .int l1), (2, .int l2), (4, .int l4), (5, .int l5)] → k81 a0 l1 l2 l4 l5 s = some (r, sF) → V X (cX9_rank, RX9, 9, 4, 92, false) (vRet sF (some (.int r)) (some .int)) sF s (G0 X 81 ls [])) (hk94 : ∀ (a0 : Nat) (l1 : Int32) (l2 : Int32) (l4 : Int32) (l5 : Int32) (l6 : Int32) (l7 : Int32) (s : vS) (ls : Array Slot), lv_has ls 9 [(0, .ref (xb X + a0)), (1, .int l1), (2, .int l2), (4, .int l4), (5, .int l5), (6, .int l6), (7, .int l7)] → k94 a0 l1 l2 l4 l5 l6 l7 s = some (r, sF) → V X (cX9_rank, RX9, 9, 4, 92, false) (vRet sF (some (.int r)) (some .int)) sF s (G0 X 94 ls [])) (a0 : Nat) (l1 : Int32) (l2 : Int32) (l4 : Int32) (l5 : Int32) (l7 : Int32) (k0 : Int32) (k1 : Int32) (s : vS) (ls : Array Slot) (hl : lv_has ls 9 [(0, .ref (xb X + a0)), (1, .int l1), (2, .int l2), (4, .int l4), (5, .int l5), (7, .int l7)]) (h : J_X9_rank_172 N k81 k94 a0 l1 l2 l4 l5 l7 k0 k1 s = some (r, sF)) : V X (cX9_rank, RX9, 9, 4, 92, false) (vRet sF (some (.int r)) (some .int)) sF s (G0 X 172 ls [.int k1, .int k0]) := by
  unfold J_X9_rank_172 at h
  refine v_iadd dX9_rank_172 ?_
  refine v_nmI h (fun l6_21 h => ?_)
  refine v_istore [(6, .int l6_21), (0, .ref (xb X + a0)), (1, .int l1), (2, .int l2), (4, .int l4), (5, .int l5), (7, .int l7)] dX9_rank_173 hl (by decide) rfl (fun ls hl => ?_)
  refine v_inc (fun z => [(7, .int z), (6, .int l6_21), (0, .ref (xb X + a0)), (1, .int l1), (2, .int l2), (4, .int l4), (5, .int l5)]) dX9_rank_175 h hl (k := 6) rfl (by rfl) (by decide) (fun _ => rfl) (fun l7_22 ls hl h => ?_)
  refine v_goto 94 dX9_rank_178 (by decide) ?_
  exact hk94 a0 l1 l2 l4 l5 l6_21 l7_22 s ls (lv_sub hl [2, 3, 4, 5, 6, 1, 0] rfl) h
set_option maxHeartbeats 4000000 in
set_option maxRecDepth 100000 in
theorem L_X9_rank_158 {X : VX} {sF : vS} {r : Int32} (N : Nat) (k81 : Nat → Int32 → Int32 → Int32 → Int32 → vS → Option (Int32 × vS)) (k94 : Nat → Int32 → Int32 → Int32 → Int32 → Int32 → Int32 → vS → Option (Int32 × vS)) (hk81 : ∀ (a0 : Nat) (l1 : Int32) (l2 : Int32) (l4 : Int32) (l5 : Int32) (s : vS) (ls : Array Slot), lv_has ls 9 [(0, .ref (xb X + a0)), (1, .int l1), (2, .int l2), (4, .int l4), (5, .int l5)] → k81 a0 l1 l2 l4 l5 s = some (r, sF) → V X (cX9_rank, RX9, 9, 4, 92, false) (vRet sF (some (.int r)) (some .int)) sF s (G0 X 81 ls [])) (hk94 : ∀ (a0 : Nat) (l1 : Int32) (l2 : Int32) (l4 : Int32) (l5 : Int32) (l6 : Int32) (l7 : Int32) (s : vS) (ls : Array Slot), lv_has ls 9 [(0, .ref (xb X + a0)), (1, .int l1), (2, .int l2), (4, .int l4), (5, .int l5), (6, .int l6), (7, .int l7)] → k94 a0 l1 l2 l4 l5 l6 l7 s = some (r, sF) → V X (cX9_rank, RX9, 9, 4, 92, false) (vRet sF (some (.int r)) (some .int)) sF s (G0 X 94 ls [])) (a0 : Nat) (l1 : Int32) (l2 : Int32) (l4 : Int32) (l5 : Int32) (l6 : Int32) (l7 : Int32) (k0 : Int32) (s : vS) (ls : Array Slot) (hl : lv_has ls 9 [(0, .ref (xb X + a0)), (1, .int l1), (2, .int l2), (4, .int l4), (5, .int l5), (6, .int l6), (7, .int l7)]) (h : J_X9_rank_158 N k81 k94 a0 l1 l2 l4 l5 l6 l7 k0 s = some (r, sF)) : V X (cX9_rank, RX9, 9, 4, 92, false) (vRet sF (some (.int r)) (some .int)) sF s (G0 X 158 ls [.int k0]) := by
  unfold J_X9_rank_158 at h
  refine v_istore [(8, .int k0), (0, .ref (xb X + a0)), (1, .int l1), (2, .int l2), (4, .int l4), (5, .int l5), (6, .int l6), (7, .int l7)] dX9_rank_158 hl (by decide) rfl (fun ls hl => ?_)
  refine v_iload dX9_rank_160 (lv_at hl 6 rfl) ?_
  refine v_iload dX9_rank_162 (lv_at hl 0 rfl) ?_
  refine v_if_eq 171 dX9_rank_164 (by decide) h (fun h => ?_) (fun h => ?_)
  · refine v_iconst (0 : Int32) dX9_rank_171 (by decide) ?_
    exact L_X9_rank_172 N k81 k94 hk81 hk94 a0 l1 l2 l4 l5 l7 l6 (0 : Int32) s ls (lv_sub hl [1, 2, 3, 4, 5, 7] rfl) h
  · refine v_iconst (1 : Int32) dX9_rank_167 (by decide) ?_
    refine v_goto 172 dX9_rank_168 (by decide) ?_
    exact L_X9_rank_172 N k81 k94 hk81 hk94 a0 l1 l2 l4 l5 l7 l6 (1 : Int32) s ls (lv_sub hl [1, 2, 3, 4, 5, 7] rfl) h
set_option maxHeartbeats 4000000 in
set_option maxRecDepth 100000 in
theorem L_X9_rank_157 {X : VX} {sF : vS} {r : Int32} (N : Nat) (k81 : Nat → Int32 → Int32 → Int32 → Int32 → vS → Option (Int32 × vS)) (k94 : Nat → Int32 → Int32 → Int32 → Int32 → Int32 → Int32 → vS → Option (Int32 × vS)) (hk81 : ∀ (a0 : Nat) (l1 : Int32) (l2 : Int32) (l4 : Int32) (l5 : Int32) (s : vS) (ls : Array Slot), lv_has ls 9 [(0, .ref (xb X + a0)), (1, .int l1), (2, .int l2), (4, .int l4), (5, .int l5)] → k81 a0 l1 l2 l4 l5 s = some (r, sF) → V X (cX9_rank, RX9, 9, 4, 92, false) (vRet sF (some (.int r)) (some .int)) sF s (G0 X 81 ls [])) (hk94 : ∀ (a0 : Nat) (l1 : Int32) (l2 : Int32) (l4 : Int32) (l5 : Int32) (l6 : Int32) (l7 : Int32) (s : vS) (ls : Array Slot), lv_has ls 9 [(0, .ref (xb X + a0)), (1, .int l1), (2, .int l2), (4, .int l4), (5, .int l5), (6, .int l6), (7, .int l7)] → k94 a0 l1 l2 l4 l5 l6 l7 s = some (r, sF) → V X (cX9_rank, RX9, 9, 4, 92, false) (vRet sF (some (.int r)) (some .int)) sF s (G0 X 94 ls [])) (a0 : Nat) (l1 : Int32) (l2 : Int32) (l4 : Int32) (l5 : Int32) (l6 : Int32) (l7 : Int32) (s : vS) (ls : Array Slot) (hl : lv_has ls 9 [(0, .ref (xb X + a0)), (1, .int l1), (2, .int l2), (4, .int l4), (5, .int l5), (6, .int l6), (7, .int l7)]) (h : J_X9_rank_157 N k81 k94 a0 l1 l2 l4 l5 l6 l7 s = some (r, sF)) : V X (cX9_rank, RX9, 9, 4, 92, false) (vRet sF (some (.int r)) (some .int)) sF s (G0 X 157 ls []) := by
  unfold J_X9_rank_157 at h
  refine v_iconst (0 : Int32) dX9_rank_157 (by decide) ?_
  exact L_X9_rank_158 N k81 k94 hk81 hk94 a0 l1 l2 l4 l5 l6 l7 (0 : Int32) s ls (lv_sub hl [0, 1, 2, 3, 4, 5, 6] rfl) h
set_option maxHeartbeats 4000000 in
set_option maxRecDepth 100000 in
theorem L_X9_rank_153 {X : VX} {sF : vS} {r : Int32} (N : Nat) (k81 : Nat → Int32 → Int32 → Int32 → Int32 → vS → Option (Int32 × vS)) (k94 : Nat → Int32 → Int32 → Int32 → Int32 → Int32 → Int32 → vS → Option (Int32 × vS)) (hk81 : ∀ (a0 : Nat) (l1 : Int32) (l2 : Int32) (l4 : Int32) (l5 : Int32) (s : vS) (ls : Array Slot), lv_has ls 9 [(0, .ref (xb X + a0)), (1, .int l1), (2, .int l2), (4, .int l4), (5, .int l5)] → k81 a0 l1 l2 l4 l5 s = some (r, sF) → V X (cX9_rank, RX9, 9, 4, 92, false) (vRet sF (some (.int r)) (some .int)) sF s (G0 X 81 ls [])) (hk94 : ∀ (a0 : Nat) (l1 : Int32) (l2 : Int32) (l4 : Int32) (l5 : Int32) (l6 : Int32) (l7 : Int32) (s : vS) (ls : Array Slot), lv_has ls 9 [(0, .ref (xb X + a0)), (1, .int l1), (2, .int l2), (4, .int l4), (5, .int l5), (6, .int l6), (7, .int l7)] → k94 a0 l1 l2 l4 l5 l6 l7 s = some (r, sF) → V X (cX9_rank, RX9, 9, 4, 92, false) (vRet sF (some (.int r)) (some .int)) sF s (G0 X 94 ls [])) (a0 : Nat) (l1 : Int32) (l2 : Int32) (l4 : Int32) (l5 : Int32) (l6 : Int32) (l7 : Int32) (s : vS) (ls : Array Slot) (hl : lv_has ls 9 [(0, .ref (xb X + a0)), (1, .int l1), (2, .int l2), (4, .int l4), (5, .int l5), (6, .int l6), (7, .int l7)]) (h : J_X9_rank_153 N k81 k94 a0 l1 l2 l4 l5 l6 l7 s = some (r, sF)) : V X (cX9_rank, RX9, 9, 4, 92, false) (vRet sF (some (.int r)) (some .int)) sF s (G0 X 153 ls []) := by
  unfold J_X9_rank_153 at h
  refine v_iconst (1 : Int32) dX9_rank_153 (by decide) ?_
  refine v_goto 158 dX9_rank_154 (by decide) ?_
  exact L_X9_rank_158 N k81 k94 hk81 hk94 a0 l1 l2 l4 l5 l6 l7 (1 : Int32) s ls (lv_sub hl [0, 1, 2, 3, 4, 5, 6] rfl) h
set_option maxHeartbeats 4000000 in
set_option maxRecDepth 100000 in
theorem L_X9_rank_94 {X : VX} {sF : vS} {r : Int32} (N : Nat) (k81 : Nat → Int32 → Int32 → Int32 → Int32 → vS → Option (Int32 × vS)) (hk81 : ∀ (a0 : Nat) (l1 : Int32) (l2 : Int32) (l4 : Int32) (l5 : Int32) (s : vS) (ls : Array Slot), lv_has ls 9 [(0, .ref (xb X + a0)), (1, .int l1), (2, .int l2), (4, .int l4), (5, .int l5)] → k81 a0 l1 l2 l4 l5 s = some (r, sF) → V X (cX9_rank, RX9, 9, 4, 92, false) (vRet sF (some (.int r)) (some .int)) sF s (G0 X 81 ls [])) : ∀ (n : Nat) (a0 : Nat) (l1 : Int32) (l2 : Int32) (l4 : Int32) (l5 : Int32) (l6 : Int32) (l7 : Int32) (s : vS) (ls : Array Slot), lv_has ls 9 [(0, .ref (xb X + a0)), (1, .int l1), (2, .int l2), (4, .int l4), (5, .int l5), (6, .int l6), (7, .int l7)] → H_X9_rank_94 N k81 n a0 l1 l2 l4 l5 l6 l7 s = some (r, sF) → V X (cX9_rank, RX9, 9, 4, 92, false) (vRet sF (some (.int r)) (some .int)) sF s (G0 X 94 ls []) := by
  intro n
  induction n with
  | zero => intro a0 l1 l2 l4 l5 l6 l7 s ls hl h; cases h
  | succ n ih =>
   intro a0 l1 l2 l4 l5 l6 l7 s ls hl h
   unfold H_X9_rank_94 at h
   refine v_iload dX9_rank_94 (lv_at hl 6 rfl) ?_
   refine v_bipush (19 : Int32) dX9_rank_96 (by decide) ?_
   refine v_icmp_ge 181 dX9_rank_98 (by decide) h (fun h => ?_) (fun h => ?_)
   · refine v_aload_n dX9_rank_181 rfl (lv_at hl 0 rfl) ?_
     refine v_getR 9 0 h (by decide) rfl qfX9_28 dX9_rank_182 (fun r8 h => ?_)
     refine v_iload dX9_rank_185 (lv_at hl 4 rfl) ?_
     refine v_iald dX9_rank_187 h (fun v9 h => ?_)
     refine v_iload_n dX9_rank_188 rfl (lv_at hl 1 rfl) ?_
     refine v_icmp_ne 203 dX9_rank_189 (by decide) h (fun h => ?_) (fun h => ?_)
     · exact L_X9_rank_203 N k81 hk81 a0 l1 l2 l4 l5 s ls (lv_sub hl [0, 1, 2, 3, 4] rfl) h
     · refine v_iload dX9_rank_192 (lv_at hl 5 rfl) ?_
       refine v_iload_n dX9_rank_194 rfl (lv_at hl 2 rfl) ?_
       refine v_icmp_ne 203 dX9_rank_195 (by decide) h (fun h => ?_) (fun h => ?_)
       · exact L_X9_rank_203 N k81 hk81 a0 l1 l2 l4 l5 s ls (lv_sub hl [0, 1, 2, 3, 4] rfl) h
       · refine v_iload dX9_rank_198 (lv_at hl 4 rfl) ?_
         refine v_goto 205 dX9_rank_200 (by decide) ?_
         exact L_X9_rank_205 N k81 hk81 a0 l1 l2 l5 l5 s ls (lv_sub hl [0, 1, 2, 4] rfl) h
   · refine v_aload_n dX9_rank_101 rfl (lv_at hl 0 rfl) ?_
     refine v_getR 9 0 h (by decide) rfl qfX9_28 dX9_rank_102 (fun r10 h => ?_)
     refine v_iload dX9_rank_105 (lv_at hl 6 rfl) ?_
     refine v_iald dX9_rank_107 h (fun v11 h => ?_)
     refine v_iload_n dX9_rank_108 rfl (lv_at hl 1 rfl) ?_
     refine v_icmp_ne 157 dX9_rank_109 (by decide) h (fun h => ?_) (fun h => ?_)
     · exact L_X9_rank_157 N k81 (H_X9_rank_94 N k81 n) hk81 ih a0 l1 l2 l4 l5 l6 l7 s ls (lv_sub hl [0, 1, 2, 3, 4, 5, 6] rfl) h
     · refine v_aload_n dX9_rank_112 rfl (lv_at hl 0 rfl) ?_
       refine v_getR 9 27 h (by decide) rfl qfX9_90 dX9_rank_113 (fun r12 h => ?_)
       refine v_iload dX9_rank_116 (lv_at hl 6 rfl) ?_
       refine v_iald dX9_rank_118 h (fun v13 h => ?_)
       refine v_aload_n dX9_rank_119 rfl (lv_at hl 0 rfl) ?_
       refine v_getR 9 27 h (by decide) rfl qfX9_90 dX9_rank_120 (fun r14 h => ?_)
       refine v_iload dX9_rank_123 (lv_at hl 4 rfl) ?_
       refine v_iald dX9_rank_125 h (fun v15 h => ?_)
       refine v_icmp_gt 153 dX9_rank_126 (by decide) h (fun h => ?_) (fun h => ?_)
       · exact L_X9_rank_153 N k81 (H_X9_rank_94 N k81 n) hk81 ih a0 l1 l2 l4 l5 l6 l7 s ls (lv_sub hl [0, 1, 2, 3, 4, 5, 6] rfl) h
       · refine v_aload_n dX9_rank_129 rfl (lv_at hl 0 rfl) ?_
         refine v_getR 9 27 h (by decide) rfl qfX9_90 dX9_rank_130 (fun r16 h => ?_)
         refine v_iload dX9_rank_133 (lv_at hl 6 rfl) ?_
         refine v_iald dX9_rank_135 h (fun v17 h => ?_)
         refine v_aload_n dX9_rank_136 rfl (lv_at hl 0 rfl) ?_
         refine v_getR 9 27 h (by decide) rfl qfX9_90 dX9_rank_137 (fun r18 h => ?_)
         refine v_iload dX9_rank_140 (lv_at hl 4 rfl) ?_
         refine v_iald dX9_rank_142 h (fun v19 h => ?_)
         refine v_icmp_ne 157 dX9_rank_143 (by decide) h (fun h => ?_) (fun h => ?_)
         · exact L_X9_rank_157 N k81 (H_X9_rank_94 N k81 n) hk81 ih a0 l1 l2 l4 l5 l6 l7 s ls (lv_sub hl [0, 1, 2, 3, 4, 5, 6] rfl) h
         · refine v_iload dX9_rank_146 (lv_at hl 6 rfl) ?_
           refine v_iload dX9_rank_148 (lv_at hl 4 rfl) ?_
           refine v_icmp_ge 157 dX9_rank_150 (by decide) h (fun h => ?_) (fun h => ?_)
           · exact L_X9_rank_157 N k81 (H_X9_rank_94 N k81 n) hk81 ih a0 l1 l2 l4 l5 l6 l7 s ls (lv_sub hl [0, 1, 2, 3, 4, 5, 6] rfl) h
           · exact L_X9_rank_153 N k81 (H_X9_rank_94 N k81 n) hk81 ih a0 l1 l2 l4 l5 l6 l7 s ls (lv_sub hl [0, 1, 2, 3, 4, 5, 6] rfl) h
set_option maxHeartbeats 4000000 in
set_option maxRecDepth 100000 in
theorem L_X9_rank_81 {X : VX} {sF : vS} {r : Int32} (N : Nat) : ∀ (n : Nat) (a0 : Nat) (l1 : Int32) (l2 : Int32) (l4 : Int32) (l5 : Int32) (s : vS) (ls : Array Slot), lv_has ls 9 [(0, .ref (xb X + a0)), (1, .int l1), (2, .int l2), (4, .int l4), (5, .int l5)] → H_X9_rank_81 N n a0 l1 l2 l4 l5 s = some (r, sF) → V X (cX9_rank, RX9, 9, 4, 92, false) (vRet sF (some (.int r)) (some .int)) sF s (G0 X 81 ls []) := by
  intro n
  induction n with
  | zero => intro a0 l1 l2 l4 l5 s ls hl h; cases h
  | succ n ih =>
   intro a0 l1 l2 l4 l5 s ls hl h
   unfold H_X9_rank_81 at h
   refine v_iload dX9_rank_81 (lv_at hl 4 rfl) ?_
   refine v_bipush (19 : Int32) dX9_rank_83 (by decide) ?_
   refine v_icmp_ge 213 dX9_rank_85 (by decide) h (fun h => ?_) (fun h => ?_)
   · refine v_iload dX9_rank_213 (lv_at hl 3 rfl) ?_
     exact v_iret dX9_rank_215 h
   · refine v_iconst (0 : Int32) dX9_rank_88 (by decide) ?_
     refine v_istore [(6, .int (0 : Int32)), (0, .ref (xb X + a0)), (1, .int l1), (2, .int l2), (4, .int l4), (5, .int l5)] dX9_rank_89 hl (by decide) rfl (fun ls hl => ?_)
     refine v_iconst (0 : Int32) dX9_rank_91 (by decide) ?_
     refine v_istore [(7, .int (0 : Int32)), (6, .int (0 : Int32)), (0, .ref (xb X + a0)), (1, .int l1), (2, .int l2), (4, .int l4), (5, .int l5)] dX9_rank_92 hl (by decide) rfl (fun ls hl => ?_)
     exact L_X9_rank_94 N (H_X9_rank_81 N n) ih N a0 l1 l2 l4 l5 (0 : Int32) (0 : Int32) s ls (lv_sub hl [2, 3, 4, 5, 6, 1, 0] rfl) h
set_option maxHeartbeats 4000000 in
set_option maxRecDepth 100000 in
theorem L_X9_rank_44 {X : VX} {sF : vS} {r : Int32} (N : Nat) (k20 : Nat → Int32 → Int32 → Int32 → Int32 → vS → Option (Int32 × vS)) (hk20 : ∀ (a0 : Nat) (l1 : Int32) (l2 : Int32) (l3 : Int32) (l4 : Int32) (s : vS) (ls : Array Slot), lv_has ls 9 [(0, .ref (xb X + a0)), (1, .int l1), (2, .int l2), (3, .int l3), (4, .int l4)] → k20 a0 l1 l2 l3 l4 s = some (r, sF) → V X (cX9_rank, RX9, 9, 4, 92, false) (vRet sF (some (.int r)) (some .int)) sF s (G0 X 20 ls [])) (a0 : Nat) (l1 : Int32) (l2 : Int32) (l4 : Int32) (k0 : Int32) (k1 : Int32) (s : vS) (ls : Array Slot) (hl : lv_has ls 9 [(0, .ref (xb X + a0)), (1, .int l1), (2, .int l2), (4, .int l4)]) (h : J_X9_rank_44 N k20 a0 l1 l2 l4 k0 k1 s = some (r, sF)) : V X (cX9_rank, RX9, 9, 4, 92, false) (vRet sF (some (.int r)) (some .int)) sF s (G0 X 44 ls [.int k1, .int k0]) := by
  unfold J_X9_rank_44 at h
  refine v_iadd dX9_rank_44 ?_
  refine v_nmI h (fun l3_6 h => ?_)
  refine v_istore_n [(3, .int l3_6), (0, .ref (xb X + a0)), (1, .int l1), (2, .int l2), (4, .int l4)] dX9_rank_45 rfl hl (by decide) rfl (fun ls hl => ?_)
  refine v_inc (fun z => [(4, .int z), (3, .int l3_6), (0, .ref (xb X + a0)), (1, .int l1), (2, .int l2)]) dX9_rank_46 h hl (k := 4) rfl (by rfl) (by decide) (fun _ => rfl) (fun l4_7 ls hl h => ?_)
  refine v_goto 20 dX9_rank_49 (by decide) ?_
  exact hk20 a0 l1 l2 l3_6 l4_7 s ls (lv_sub hl [2, 3, 4, 1, 0] rfl) h
set_option maxHeartbeats 4000000 in
set_option maxRecDepth 100000 in
theorem L_X9_rank_20 {X : VX} {sF : vS} {r : Int32} (N : Nat) : ∀ (n : Nat) (a0 : Nat) (l1 : Int32) (l2 : Int32) (l3 : Int32) (l4 : Int32) (s : vS) (ls : Array Slot), lv_has ls 9 [(0, .ref (xb X + a0)), (1, .int l1), (2, .int l2), (3, .int l3), (4, .int l4)] → H_X9_rank_20 N n a0 l1 l2 l3 l4 s = some (r, sF) → V X (cX9_rank, RX9, 9, 4, 92, false) (vRet sF (some (.int r)) (some .int)) sF s (G0 X 20 ls []) := by
  intro n
  induction n with
  | zero => intro a0 l1 l2 l3 l4 s ls hl h; cases h
  | succ n ih =>
   intro a0 l1 l2 l3 l4 s ls hl h
   unfold H_X9_rank_20 at h
   refine v_iload dX9_rank_20 (lv_at hl 4 rfl) ?_
   refine v_bipush (19 : Int32) dX9_rank_22 (by decide) ?_
   refine v_icmp_ge 52 dX9_rank_24 (by decide) h (fun h => ?_) (fun h => ?_)
   · refine v_iload_n dX9_rank_52 rfl (lv_at hl 2 rfl) ?_
     refine v_iload_n dX9_rank_53 rfl (lv_at hl 3 rfl) ?_
     refine v_icmp_lt 59 dX9_rank_54 (by decide) h (fun h => ?_) (fun h => ?_)
     · refine v_aload_n dX9_rank_59 rfl (lv_at hl 0 rfl) ?_
       refine v_getI 9 5 h (by decide) (Or.inl rfl) qfX9_137 dX9_rank_60 (fun v2 h => ?_)
       refine v_iload_n dX9_rank_63 rfl (lv_at hl 1 rfl) ?_
       refine v_icmp_ge 70 dX9_rank_64 (by decide) h (fun h => ?_) (fun h => ?_)
       · refine v_aload_n dX9_rank_70 rfl (lv_at hl 0 rfl) ?_
         refine v_iload_n dX9_rank_71 rfl (lv_at hl 1 rfl) ?_
         refine k_X9_countAll h qmX9_247 (by decide) hl.1 (Nat.le_of_ble_eq_true rfl) dX9_rank_72 (fun v3 s h => ?_)
         refine v_iconst (-1 : Int32) dX9_rank_75 (by decide) ?_
         refine v_istore [(4, .int (-1 : Int32)), (0, .ref (xb X + a0)), (1, .int l1), (2, .int l2), (3, .int l3)] dX9_rank_76 hl (by decide) rfl (fun ls hl => ?_)
         refine v_iconst (0 : Int32) dX9_rank_78 (by decide) ?_
         refine v_istore [(5, .int (0 : Int32)), (4, .int (-1 : Int32)), (0, .ref (xb X + a0)), (1, .int l1), (2, .int l2), (3, .int l3)] dX9_rank_79 hl (by decide) rfl (fun ls hl => ?_)
         exact L_X9_rank_81 N N a0 l1 l2 (-1 : Int32) (0 : Int32) s ls (lv_sub hl [2, 3, 4, 1, 0] rfl) h
       · refine v_bipush (-3 : Int32) dX9_rank_67 (by decide) ?_
         exact v_iret dX9_rank_69 h
     · refine v_iconst (-1 : Int32) dX9_rank_57 (by decide) ?_
       exact v_iret dX9_rank_58 h
   · refine v_iload_n dX9_rank_27 rfl (lv_at hl 3 rfl) ?_
     refine v_aload_n dX9_rank_28 rfl (lv_at hl 0 rfl) ?_
     refine v_getR 9 0 h (by decide) rfl qfX9_28 dX9_rank_29 (fun r4 h => ?_)
     refine v_iload dX9_rank_32 (lv_at hl 4 rfl) ?_
     refine v_iald dX9_rank_34 h (fun v5 h => ?_)
     refine v_iload_n dX9_rank_35 rfl (lv_at hl 1 rfl) ?_
     refine v_icmp_ne 43 dX9_rank_36 (by decide) h (fun h => ?_) (fun h => ?_)
     · refine v_iconst (0 : Int32) dX9_rank_43 (by decide) ?_
       exact L_X9_rank_44 N (H_X9_rank_20 N n) ih a0 l1 l2 l4 l3 (0 : Int32) s ls (lv_sub hl [0, 1, 2, 4] rfl) h
     · refine v_iconst (1 : Int32) dX9_rank_39 (by decide) ?_
       refine v_goto 44 dX9_rank_40 (by decide) ?_
       exact L_X9_rank_44 N (H_X9_rank_20 N n) ih a0 l1 l2 l4 l3 (1 : Int32) s ls (lv_sub hl [0, 1, 2, 4] rfl) h
set_option maxHeartbeats 4000000 in
set_option maxRecDepth 100000 in
theorem L_X9_rank_13 {X : VX} {sF : vS} {r : Int32} (N : Nat) (s : vS) (ls : Array Slot) (hl : lv_has ls 9 []) (h : J_X9_rank_13 N  s = some (r, sF)) : V X (cX9_rank, RX9, 9, 4, 92, false) (vRet sF (some (.int r)) (some .int)) sF s (G0 X 13 ls []) := by
  unfold J_X9_rank_13 at h
  refine v_iconst (-1 : Int32) dX9_rank_13 (by decide) ?_
  exact v_iret dX9_rank_14 h
theorem vl_X9_rank : vCl yX9_rank cX9_rank 9 (some .int) 2 := ⟨qy_X9_rank, qjX9, by decide +kernel, by decide +kernel, by decide +kernel⟩
set_option maxHeartbeats 4000000 in
set_option maxRecDepth 100000 in
theorem c_X9_rank {l : Launch} {D : va_G} {ka : Nat → ClassId} (X0 : VX) (N : Nat) (a0 : Nat) (l1 : Int32) (l2 : Int32) (s sF : vS) (r : Int32) (h : F_X9_rank N a0 l1 l2 s = some (r, sF)) : isO s a0 9 = true ∧ vMet l D ka (xb X0) yX9_rank cX9_rank 9 (some .int) 4 92 [.ref (xb X0 + a0), .int l1, .int l2] s sF (some (.int r)) := by
  unfold F_X9_rank at h
  unfold rcv at h
  obtain ⟨hO, h⟩ := v_chk h
  refine ⟨hO, vMet.of (ini := false) X0 (plainFor_of_name (by decide +kernel)) (Nat.le_of_ble_eq_true rfl) (fun h => by cases h) (fun X ls hb hl => ?_) rfl⟩
  show V X (cX9_rank, RX9, 9, 4, 92, false) (vRet sF (some (.int r)) (some .int)) sF s (G0 X 0 ls [])
  rw [← hb] at hl
  have hl : lv_has ls 9 [(0, .ref (xb X + a0)), (1, .int l1), (2, .int l2)] := hl
  refine v_iload_n dX9_rank_0 rfl (lv_at hl 1 rfl) ?_
  refine v_iconst (0 : Int32) dX9_rank_1 (by decide) ?_
  refine v_iconst (4 : Int32) dX9_rank_2 (by decide) ?_
  refine k_X9_in h qmX9_129 (by decide) hl.1 (Nat.le_of_ble_eq_true rfl) dX9_rank_3 (fun v1 s h => ?_)
  refine v_if_eq 13 dX9_rank_6 (by decide) h (fun h => ?_) (fun h => ?_)
  · exact L_X9_rank_13 N  s ls (lv_sub hl [] rfl) h
  · refine v_iload_n dX9_rank_9 rfl (lv_at hl 2 rfl) ?_
    refine v_if_ge 15 dX9_rank_10 (by decide) h (fun h => ?_) (fun h => ?_)
    · refine v_iconst (0 : Int32) dX9_rank_15 (by decide) ?_
      refine v_istore_n [(3, .int (0 : Int32)), (0, .ref (xb X + a0)), (1, .int l1), (2, .int l2)] dX9_rank_16 rfl hl (by decide) rfl (fun ls hl => ?_)
      refine v_iconst (0 : Int32) dX9_rank_17 (by decide) ?_
      refine v_istore [(4, .int (0 : Int32)), (3, .int (0 : Int32)), (0, .ref (xb X + a0)), (1, .int l1), (2, .int l2)] dX9_rank_18 hl (by decide) rfl (fun ls hl => ?_)
      exact L_X9_rank_20 N N a0 l1 l2 (0 : Int32) (0 : Int32) s ls (lv_sub hl [2, 3, 4, 1, 0] rfl) h
    · exact L_X9_rank_13 N  s ls (lv_sub hl [] rfl) h
theorem k_X9_rank {X : VX} {cc : ByteArray} {own : String} {nL fr lo : Nat} {ini : Bool} {E : VX → Prop} {sF s : vS} {ρ : Type} {res : ρ} {pc : Nat} {ls : Array Slot} {rest : List Value} {N index : Nat} {a0 : Nat} {l1 : Int32} {l2 : Int32} {f : Int32 → vS → Option ρ} (h : bnd (F_X9_rank N a0 l1 l2 s) f = some res) (hlink : Cond.methodLink own index yX9_rank ∈ TT) (hR : 4 + 1 ≤ fr ∧ 8 + (9 + 11) + 92 ≤ lo) (hls : ls.size = nL) (hr : (rest.map fun v => v.category).sum ≤ 8) (hdg : decode cc pc = .ok (.invokevirtual index, 3)) (kk : ∀ r s', f r s' = some res → V X (cc, own, nL, fr, lo, ini) E sF s' (G0 X (pc + 3) ls (.int r :: rest))) : V X (cc, own, nL, fr, lo, ini) E sF s (G0 X pc ls (.int l2 :: .int l1 :: .ref (xb X + a0) :: rest)) := by
  obtain ⟨r, s', e, h⟩ := bnd_some h
  exact v_callV (b := a0) (ci := 9) (As := [.int l1, .int l2]) (rest := rest) (c_X9_rank X N a0 l1 l2 s s' r e).2 (c_X9_rank (l := xl X) (D := xD X) (ka := xka X) X N a0 l1 l2 s s' r e).1 rfl vl_X9_rank qi_X9_rank qe_X9_rank hlink hR rfl rfl hls hr hdg (kk r s' h)
set_option maxHeartbeats 4000000 in
set_option maxRecDepth 100000 in
theorem L_X9_foundAll_92 {X : VX} {sF : vS} {r : Int32} (N : Nat) (k8 : Nat → Int32 → Int32 → Int32 → vS → Option (Int32 × vS)) (hk8 : ∀ (a0 : Nat) (l1 : Int32) (l2 : Int32) (l3 : Int32) (s : vS) (ls : Array Slot), lv_has ls 7 [(0, .ref (xb X + a0)), (1, .int l1), (2, .int l2), (3, .int l3)] → k8 a0 l1 l2 l3 s = some (r, sF) → V X (cX9_foundAll, RX9, 7, 3, 70, false) (vRet sF (some (.int r)) (some .int)) sF s (G0 X 8 ls [])) (a0 : Nat) (l1 : Int32) (l2 : Int32) (l3 : Int32) (s : vS) (ls : Array Slot) (hl : lv_has ls 7 [(0, .ref (xb X + a0)), (1, .int l1), (2, .int l2), (3, .int l3)]) (h : J_X9_foundAll_92 N k8 a0 l1 l2 l3 s = some (r, sF)) : V X (cX9_foundAll, RX9, 7, 3, 70, false) (vRet sF (some (.int r)) (some .int)) sF s (G0 X 92 ls []) := by
  unfold J_X9_foundAll_92 at h
  refine v_inc (fun z => [(3, .int z), (0, .ref (xb X + a0)), (1, .int l1), (2, .int l2)]) dX9_foundAll_92 h hl (k := 3) rfl (by rfl) (by decide) (fun _ => rfl) (fun l3_5 ls hl h => ?_)
  refine v_goto 8 dX9_foundAll_95 (by decide) ?_
  exact hk8 a0 l1 l2 l3_5 s ls (lv_sub hl [1, 2, 3, 0] rfl) h
set_option maxHeartbeats 4000000 in
set_option maxRecDepth 100000 in
theorem L_X9_foundAll_68 {X : VX} {sF : vS} {r : Int32} (N : Nat) (k8 : Nat → Int32 → Int32 → Int32 → vS → Option (Int32 × vS)) (k40 : Nat → Int32 → Int32 → Int32 → Int32 → Int32 → Int32 → vS → Option (Int32 × vS)) (hk8 : ∀ (a0 : Nat) (l1 : Int32) (l2 : Int32) (l3 : Int32) (s : vS) (ls : Array Slot), lv_has ls 7 [(0, .ref (xb X + a0)), (1, .int l1), (2, .int l2), (3, .int l3)] → k8 a0 l1 l2 l3 s = some (r, sF) → V X (cX9_foundAll, RX9, 7, 3, 70, false) (vRet sF (some (.int r)) (some .int)) sF s (G0 X 8 ls [])) (hk40 : ∀ (a0 : Nat) (l1 : Int32) (l2 : Int32) (l3 : Int32) (l4 : Int32) (l5 : Int32) (l6 : Int32) (s : vS) (ls : Array Slot), lv_has ls 7 [(0, .ref (xb X + a0)), (1, .int l1), (2, .int l2), (3, .int l3), (4, .int l4), (5, .int l5), (6, .int l6)] → k40 a0 l1 l2 l3 l4 l5 l6 s = some (r, sF) → V X (cX9_foundAll, RX9, 7, 3, 70, false) (vRet sF (some (.int r)) (some .int)) sF s (G0 X 40 ls [])) (a0 : Nat) (l1 : Int32) (l2 : Int32) (l3 : Int32) (l4 : Int32) (l6 : Int32) (k0 : Int32) (s : vS) (ls : Array Slot) (hl : lv_has ls 7 [(0, .ref (xb X + a0)), (1, .int l1), (2, .int l2), (3, .int l3), (4, .int l4), (6, .int l6)]) (h : J_X9_foundAll_68 N k8 k40 a0 l1 l2 l3 l4 l6 k0 s = some (r, sF)) : V X (cX9_foundAll, RX9, 7, 3, 70, false) (vRet sF (some (.int r)) (some .int)) sF s (G0 X 68 ls [.int k0]) := by
  unfold J_X9_foundAll_68 at h
  refine v_istore [(5, .int k0), (0, .ref (xb X + a0)), (1, .int l1), (2, .int l2), (3, .int l3), (4, .int l4), (6, .int l6)] dX9_foundAll_68 hl (by decide) rfl (fun ls hl => ?_)
  refine v_inc (fun z => [(6, .int z), (5, .int k0), (0, .ref (xb X + a0)), (1, .int l1), (2, .int l2), (3, .int l3), (4, .int l4)]) dX9_foundAll_70 h hl (k := 6) rfl (by rfl) (by decide) (fun _ => rfl) (fun l6_10 ls hl h => ?_)
  refine v_goto 40 dX9_foundAll_73 (by decide) ?_
  exact hk40 a0 l1 l2 l3 l4 k0 l6_10 s ls (lv_sub hl [2, 3, 4, 5, 6, 1, 0] rfl) h
set_option maxHeartbeats 4000000 in
set_option maxRecDepth 100000 in
theorem L_X9_foundAll_63 {X : VX} {sF : vS} {r : Int32} (N : Nat) (k8 : Nat → Int32 → Int32 → Int32 → vS → Option (Int32 × vS)) (k40 : Nat → Int32 → Int32 → Int32 → Int32 → Int32 → Int32 → vS → Option (Int32 × vS)) (hk8 : ∀ (a0 : Nat) (l1 : Int32) (l2 : Int32) (l3 : Int32) (s : vS) (ls : Array Slot), lv_has ls 7 [(0, .ref (xb X + a0)), (1, .int l1), (2, .int l2), (3, .int l3)] → k8 a0 l1 l2 l3 s = some (r, sF) → V X (cX9_foundAll, RX9, 7, 3, 70, false) (vRet sF (some (.int r)) (some .int)) sF s (G0 X 8 ls [])) (hk40 : ∀ (a0 : Nat) (l1 : Int32) (l2 : Int32) (l3 : Int32) (l4 : Int32) (l5 : Int32) (l6 : Int32) (s : vS) (ls : Array Slot), lv_has ls 7 [(0, .ref (xb X + a0)), (1, .int l1), (2, .int l2), (3, .int l3), (4, .int l4), (5, .int l5), (6, .int l6)] → k40 a0 l1 l2 l3 l4 l5 l6 s = some (r, sF) → V X (cX9_foundAll, RX9, 7, 3, 70, false) (vRet sF (some (.int r)) (some .int)) sF s (G0 X 40 ls [])) (a0 : Nat) (l1 : Int32) (l2 : Int32) (l3 : Int32) (l4 : Int32) (l6 : Int32) (s : vS) (ls : Array Slot) (hl : lv_has ls 7 [(0, .ref (xb X + a0)), (1, .int l1), (2, .int l2), (3, .int l3), (4, .int l4), (6, .int l6)]) (h : J_X9_foundAll_63 N k8 k40 a0 l1 l2 l3 l4 l6 s = some (r, sF)) : V X (cX9_foundAll, RX9, 7, 3, 70, false) (vRet sF (some (.int r)) (some .int)) sF s (G0 X 63 ls []) := by
  unfold J_X9_foundAll_63 at h
  refine v_iconst (1 : Int32) dX9_foundAll_63 (by decide) ?_
  refine v_goto 68 dX9_foundAll_64 (by decide) ?_
  exact L_X9_foundAll_68 N k8 k40 hk8 hk40 a0 l1 l2 l3 l4 l6 (1 : Int32) s ls (lv_sub hl [0, 1, 2, 3, 4, 5] rfl) h
set_option maxHeartbeats 4000000 in
set_option maxRecDepth 100000 in
theorem L_X9_foundAll_40 {X : VX} {sF : vS} {r : Int32} (N : Nat) (k8 : Nat → Int32 → Int32 → Int32 → vS → Option (Int32 × vS)) (hk8 : ∀ (a0 : Nat) (l1 : Int32) (l2 : Int32) (l3 : Int32) (s : vS) (ls : Array Slot), lv_has ls 7 [(0, .ref (xb X + a0)), (1, .int l1), (2, .int l2), (3, .int l3)] → k8 a0 l1 l2 l3 s = some (r, sF) → V X (cX9_foundAll, RX9, 7, 3, 70, false) (vRet sF (some (.int r)) (some .int)) sF s (G0 X 8 ls [])) : ∀ (n : Nat) (a0 : Nat) (l1 : Int32) (l2 : Int32) (l3 : Int32) (l4 : Int32) (l5 : Int32) (l6 : Int32) (s : vS) (ls : Array Slot), lv_has ls 7 [(0, .ref (xb X + a0)), (1, .int l1), (2, .int l2), (3, .int l3), (4, .int l4), (5, .int l5), (6, .int l6)] → H_X9_foundAll_40 N k8 n a0 l1 l2 l3 l4 l5 l6 s = some (r, sF) → V X (cX9_foundAll, RX9, 7, 3, 70, false) (vRet sF (some (.int r)) (some .int)) sF s (G0 X 40 ls []) := by
  intro n
  induction n with
  | zero => intro a0 l1 l2 l3 l4 l5 l6 s ls hl h; cases h
  | succ n ih =>
   intro a0 l1 l2 l3 l4 l5 l6 s ls hl h
   unfold H_X9_foundAll_40 at h
   refine v_iload dX9_foundAll_40 (lv_at hl 6 rfl) ?_
   refine v_iload_n dX9_foundAll_42 rfl (lv_at hl 2 rfl) ?_
   refine v_icmp_ge 76 dX9_foundAll_43 (by decide) h (fun h => ?_) (fun h => ?_)
   · refine v_iload dX9_foundAll_76 (lv_at hl 5 rfl) ?_
     refine v_if_ne 92 dX9_foundAll_78 (by decide) h (fun h => ?_) (fun h => ?_)
     · exact L_X9_foundAll_92 N k8 hk8 a0 l1 l2 l3 s ls (lv_sub hl [0, 1, 2, 3] rfl) h
     · refine v_aload_n dX9_foundAll_81 rfl (lv_at hl 0 rfl) ?_
       refine v_getR 9 28 h (by decide) rfl qfX9_93 dX9_foundAll_82 (fun r6 h => ?_)
       refine v_iload_n dX9_foundAll_85 rfl (lv_at hl 2 rfl) ?_
       refine v_iload dX9_foundAll_86 (lv_at hl 4 rfl) ?_
       refine v_iast dX9_foundAll_88 h (fun s h => ?_)
       refine v_inc (fun z => [(2, .int z), (0, .ref (xb X + a0)), (1, .int l1), (3, .int l3), (4, .int l4), (5, .int l5), (6, .int l6)]) dX9_foundAll_89 h hl (k := 2) rfl (by rfl) (by decide) (fun _ => rfl) (fun l2_7 ls hl h => ?_)
       exact L_X9_foundAll_92 N k8 hk8 a0 l1 l2_7 l3 s ls (lv_sub hl [1, 2, 0, 3] rfl) h
   · refine v_iload dX9_foundAll_46 (lv_at hl 5 rfl) ?_
     refine v_if_ne 63 dX9_foundAll_48 (by decide) h (fun h => ?_) (fun h => ?_)
     · exact L_X9_foundAll_63 N k8 (H_X9_foundAll_40 N k8 n) hk8 ih a0 l1 l2 l3 l4 l6 s ls (lv_sub hl [0, 1, 2, 3, 4, 6] rfl) h
     · refine v_aload_n dX9_foundAll_51 rfl (lv_at hl 0 rfl) ?_
       refine v_getR 9 28 h (by decide) rfl qfX9_93 dX9_foundAll_52 (fun r8 h => ?_)
       refine v_iload dX9_foundAll_55 (lv_at hl 6 rfl) ?_
       refine v_iald dX9_foundAll_57 h (fun v9 h => ?_)
       refine v_iload dX9_foundAll_58 (lv_at hl 4 rfl) ?_
       refine v_icmp_ne 67 dX9_foundAll_60 (by decide) h (fun h => ?_) (fun h => ?_)
       · refine v_iconst (0 : Int32) dX9_foundAll_67 (by decide) ?_
         exact L_X9_foundAll_68 N k8 (H_X9_foundAll_40 N k8 n) hk8 ih a0 l1 l2 l3 l4 l6 (0 : Int32) s ls (lv_sub hl [0, 1, 2, 3, 4, 6] rfl) h
       · exact L_X9_foundAll_63 N k8 (H_X9_foundAll_40 N k8 n) hk8 ih a0 l1 l2 l3 l4 l6 s ls (lv_sub hl [0, 1, 2, 3, 4, 6] rfl) h
set_option maxHeartbeats 4000000 in
set_option maxRecDepth 100000 in
theorem L_X9_foundAll_8 {X : VX} {sF : vS} {r : Int32} (N : Nat) : ∀ (n : Nat) (a0 : Nat) (l1 : Int32) (l2 : Int32) (l3 : Int32) (s : vS) (ls : Array Slot), lv_has ls 7 [(0, .ref (xb X + a0)), (1, .int l1), (2, .int l2), (3, .int l3)] → H_X9_foundAll_8 N n a0 l1 l2 l3 s = some (r, sF) → V X (cX9_foundAll, RX9, 7, 3, 70, false) (vRet sF (some (.int r)) (some .int)) sF s (G0 X 8 ls []) := by
  intro n
  induction n with
  | zero => intro a0 l1 l2 l3 s ls hl h; cases h
  | succ n ih =>
   intro a0 l1 l2 l3 s ls hl h
   unfold H_X9_foundAll_8 at h
   refine v_iload_n dX9_foundAll_8 rfl (lv_at hl 3 rfl) ?_
   refine v_iconst (1 : Int32) dX9_foundAll_9 (by decide) ?_
   refine v_aload_n dX9_foundAll_10 rfl (lv_at hl 0 rfl) ?_
   refine v_getI 9 5 h (by decide) (Or.inl rfl) qfX9_137 dX9_foundAll_11 (fun v2 h => ?_)
   refine v_ishl dX9_foundAll_14 ?_
   refine v_icmp_ge 98 dX9_foundAll_15 (by decide) h (fun h => ?_) (fun h => ?_)
   · refine v_iload_n dX9_foundAll_98 rfl (lv_at hl 2 rfl) ?_
     exact v_iret dX9_foundAll_99 h
   · refine v_iload_n dX9_foundAll_18 rfl (lv_at hl 3 rfl) ?_
     refine k_X9_ones h qmX9_140 (by decide) hl.1 (Nat.le_of_ble_eq_true rfl) dX9_foundAll_19 (fun v3 s h => ?_)
     refine v_iload_n dX9_foundAll_22 rfl (lv_at hl 1 rfl) ?_
     refine v_icmp_ne 92 dX9_foundAll_23 (by decide) h (fun h => ?_) (fun h => ?_)
     · exact L_X9_foundAll_92 N (H_X9_foundAll_8 N n) ih a0 l1 l2 l3 s ls (lv_sub hl [0, 1, 2, 3] rfl) h
     · refine v_aload_n dX9_foundAll_26 rfl (lv_at hl 0 rfl) ?_
       refine v_iload_n dX9_foundAll_27 rfl (lv_at hl 3 rfl) ?_
       refine v_iconst (-1 : Int32) dX9_foundAll_28 (by decide) ?_
       refine k_X9_numberOn h qmX9_157 (by decide) hl.1 (Nat.le_of_ble_eq_true rfl) dX9_foundAll_29 (fun v4 s h => ?_)
       refine v_istore [(4, .int v4), (0, .ref (xb X + a0)), (1, .int l1), (2, .int l2), (3, .int l3)] dX9_foundAll_32 hl (by decide) rfl (fun ls hl => ?_)
       refine v_iconst (0 : Int32) dX9_foundAll_34 (by decide) ?_
       refine v_istore [(5, .int (0 : Int32)), (4, .int v4), (0, .ref (xb X + a0)), (1, .int l1), (2, .int l2), (3, .int l3)] dX9_foundAll_35 hl (by decide) rfl (fun ls hl => ?_)
       refine v_iconst (0 : Int32) dX9_foundAll_37 (by decide) ?_
       refine v_istore [(6, .int (0 : Int32)), (5, .int (0 : Int32)), (4, .int v4), (0, .ref (xb X + a0)), (1, .int l1), (2, .int l2), (3, .int l3)] dX9_foundAll_38 hl (by decide) rfl (fun ls hl => ?_)
       exact L_X9_foundAll_40 N (H_X9_foundAll_8 N n) ih N a0 l1 l2 l3 v4 (0 : Int32) (0 : Int32) s ls (lv_sub hl [3, 4, 5, 6, 2, 1, 0] rfl) h
theorem vl_X9_foundAll : vCl yX9_foundAll cX9_foundAll 7 (some .int) 1 := ⟨qy_X9_foundAll, qjX9, by decide +kernel, by decide +kernel, by decide +kernel⟩
set_option maxHeartbeats 4000000 in
set_option maxRecDepth 100000 in
theorem c_X9_foundAll {l : Launch} {D : va_G} {ka : Nat → ClassId} (X0 : VX) (N : Nat) (a0 : Nat) (l1 : Int32) (s sF : vS) (r : Int32) (h : F_X9_foundAll N a0 l1 s = some (r, sF)) : isO s a0 9 = true ∧ vMet l D ka (xb X0) yX9_foundAll cX9_foundAll 7 (some .int) 3 70 [.ref (xb X0 + a0), .int l1] s sF (some (.int r)) := by
  unfold F_X9_foundAll at h
  unfold rcv at h
  obtain ⟨hO, h⟩ := v_chk h
  refine ⟨hO, vMet.of (ini := false) X0 (plainFor_of_name (by decide +kernel)) (Nat.le_of_ble_eq_true rfl) (fun h => by cases h) (fun X ls hb hl => ?_) rfl⟩
  show V X (cX9_foundAll, RX9, 7, 3, 70, false) (vRet sF (some (.int r)) (some .int)) sF s (G0 X 0 ls [])
  rw [← hb] at hl
  have hl : lv_has ls 7 [(0, .ref (xb X + a0)), (1, .int l1)] := hl
  refine v_aload_n dX9_foundAll_0 rfl (lv_at hl 0 rfl) ?_
  refine k_X9_lookInHand h qmX9_241 (by decide) hl.1 (Nat.le_of_ble_eq_true rfl) dX9_foundAll_1 (fun v1 s h => ?_)
  refine v_iconst (0 : Int32) dX9_foundAll_4 (by decide) ?_
  refine v_istore_n [(2, .int (0 : Int32)), (0, .ref (xb X + a0)), (1, .int l1)] dX9_foundAll_5 rfl hl (by decide) rfl (fun ls hl => ?_)
  refine v_iconst (0 : Int32) dX9_foundAll_6 (by decide) ?_
  refine v_istore_n [(3, .int (0 : Int32)), (2, .int (0 : Int32)), (0, .ref (xb X + a0)), (1, .int l1)] dX9_foundAll_7 rfl hl (by decide) rfl (fun ls hl => ?_)
  exact L_X9_foundAll_8 N N a0 l1 (0 : Int32) (0 : Int32) s ls (lv_sub hl [2, 3, 1, 0] rfl) h
theorem k_X9_foundAll {X : VX} {cc : ByteArray} {own : String} {nL fr lo : Nat} {ini : Bool} {E : VX → Prop} {sF s : vS} {ρ : Type} {res : ρ} {pc : Nat} {ls : Array Slot} {rest : List Value} {N index : Nat} {a0 : Nat} {l1 : Int32} {f : Int32 → vS → Option ρ} (h : bnd (F_X9_foundAll N a0 l1 s) f = some res) (hlink : Cond.methodLink own index yX9_foundAll ∈ TT) (hR : 3 + 1 ≤ fr ∧ 8 + (7 + 11) + 70 ≤ lo) (hls : ls.size = nL) (hr : (rest.map fun v => v.category).sum ≤ 8) (hdg : decode cc pc = .ok (.invokevirtual index, 3)) (kk : ∀ r s', f r s' = some res → V X (cc, own, nL, fr, lo, ini) E sF s' (G0 X (pc + 3) ls (.int r :: rest))) : V X (cc, own, nL, fr, lo, ini) E sF s (G0 X pc ls (.int l1 :: .ref (xb X + a0) :: rest)) := by
  obtain ⟨r, s', e, h⟩ := bnd_some h
  exact v_callV (b := a0) (ci := 9) (As := [.int l1]) (rest := rest) (c_X9_foundAll X N a0 l1 s s' r e).2 (c_X9_foundAll (l := xl X) (D := xD X) (ka := xka X) X N a0 l1 s s' r e).1 rfl vl_X9_foundAll qi_X9_foundAll qe_X9_foundAll hlink hR rfl rfl hls hr hdg (kk r s' h)
set_option maxHeartbeats 4000000 in
set_option maxRecDepth 100000 in
theorem L_X9_found_58 {X : VX} {sF : vS} {r : Int32} (N : Nat) (k0 : Int32) (s : vS) (ls : Array Slot) (hl : lv_has ls 4 []) (h : J_X9_found_58 N k0 s = some (r, sF)) : V X (cX9_found, RX9, 4, 4, 96, false) (vRet sF (some (.int r)) (some .int)) sF s (G0 X 58 ls [.int k0]) := by
  unfold J_X9_found_58 at h
  exact v_iret dX9_found_58 h
set_option maxHeartbeats 4000000 in
set_option maxRecDepth 100000 in
theorem L_X9_found_14 {X : VX} {sF : vS} {r : Int32} (N : Nat) (s : vS) (ls : Array Slot) (hl : lv_has ls 4 []) (h : J_X9_found_14 N  s = some (r, sF)) : V X (cX9_found, RX9, 4, 4, 96, false) (vRet sF (some (.int r)) (some .int)) sF s (G0 X 14 ls []) := by
  unfold J_X9_found_14 at h
  refine v_iconst (-1 : Int32) dX9_found_14 (by decide) ?_
  exact v_iret dX9_found_15 h
theorem vl_X9_found : vCl yX9_found cX9_found 4 (some .int) 2 := ⟨qy_X9_found, qjX9, by decide +kernel, by decide +kernel, by decide +kernel⟩
set_option maxHeartbeats 4000000 in
set_option maxRecDepth 100000 in
theorem c_X9_found {l : Launch} {D : va_G} {ka : Nat → ClassId} (X0 : VX) (N : Nat) (a0 : Nat) (l1 : Int32) (l2 : Int32) (s sF : vS) (r : Int32) (h : F_X9_found N a0 l1 l2 s = some (r, sF)) : isO s a0 9 = true ∧ vMet l D ka (xb X0) yX9_found cX9_found 4 (some .int) 4 96 [.ref (xb X0 + a0), .int l1, .int l2] s sF (some (.int r)) := by
  unfold F_X9_found at h
  unfold rcv at h
  obtain ⟨hO, h⟩ := v_chk h
  refine ⟨hO, vMet.of (ini := false) X0 (plainFor_of_name (by decide +kernel)) (Nat.le_of_ble_eq_true rfl) (fun h => by cases h) (fun X ls hb hl => ?_) rfl⟩
  show V X (cX9_found, RX9, 4, 4, 96, false) (vRet sF (some (.int r)) (some .int)) sF s (G0 X 0 ls [])
  rw [← hb] at hl
  have hl : lv_has ls 4 [(0, .ref (xb X + a0)), (1, .int l1), (2, .int l2)] := hl
  refine v_iload_n dX9_found_0 rfl (lv_at hl 1 rfl) ?_
  refine v_iconst (0 : Int32) dX9_found_1 (by decide) ?_
  refine v_iconst (4 : Int32) dX9_found_2 (by decide) ?_
  refine k_X9_in h qmX9_129 (by decide) hl.1 (Nat.le_of_ble_eq_true rfl) dX9_found_3 (fun v1 s h => ?_)
  refine v_if_eq 14 dX9_found_6 (by decide) h (fun h => ?_) (fun h => ?_)
  · exact L_X9_found_14 N  s ls (lv_sub hl [] rfl) h
  · refine v_iload_n dX9_found_9 rfl (lv_at hl 2 rfl) ?_
    refine v_iconst (-1 : Int32) dX9_found_10 (by decide) ?_
    refine v_icmp_ge 16 dX9_found_11 (by decide) h (fun h => ?_) (fun h => ?_)
    · refine v_aload_n dX9_found_16 rfl (lv_at hl 0 rfl) ?_
      refine v_getI 9 5 h (by decide) (Or.inl rfl) qfX9_137 dX9_found_17 (fun v2 h => ?_)
      refine v_iload_n dX9_found_20 rfl (lv_at hl 1 rfl) ?_
      refine v_icmp_ge 27 dX9_found_21 (by decide) h (fun h => ?_) (fun h => ?_)
      · refine v_aload_n dX9_found_27 rfl (lv_at hl 0 rfl) ?_
        refine v_iload_n dX9_found_28 rfl (lv_at hl 1 rfl) ?_
        refine k_X9_foundAll h qmX9_250 (by decide) hl.1 (Nat.le_of_ble_eq_true rfl) dX9_found_29 (fun v3 s h => ?_)
        refine v_istore_n [(3, .int v3), (0, .ref (xb X + a0)), (1, .int l1), (2, .int l2)] dX9_found_32 rfl hl (by decide) rfl (fun ls hl => ?_)
        refine v_iload_n dX9_found_33 rfl (lv_at hl 3 rfl) ?_
        refine v_iconst (-1 : Int32) dX9_found_34 (by decide) ?_
        refine v_icmp_ne 42 dX9_found_35 (by decide) h (fun h => ?_) (fun h => ?_)
        · refine v_iload_n dX9_found_42 rfl (lv_at hl 3 rfl) ?_
          refine v_iload_n dX9_found_43 rfl (lv_at hl 0 rfl) ?_
          refine v_icmp_ge 56 dX9_found_44 (by decide) h (fun h => ?_) (fun h => ?_)
          · refine v_bipush (-5 : Int32) dX9_found_56 (by decide) ?_
            exact L_X9_found_58 N (-5 : Int32) s ls (lv_sub hl [] rfl) h
          · refine v_aload_n dX9_found_47 rfl (lv_at hl 1 rfl) ?_
            refine v_getR 9 28 h (by decide) rfl qfX9_93 dX9_found_48 (fun r4 h => ?_)
            refine v_iload_n dX9_found_51 rfl (lv_at hl 3 rfl) ?_
            refine v_iald dX9_found_52 h (fun v5 h => ?_)
            refine v_goto 58 dX9_found_53 (by decide) ?_
            exact L_X9_found_58 N v5 s ls (lv_sub hl [] rfl) h
        · refine v_iload_n dX9_found_38 rfl (lv_at hl 0 rfl) ?_
          refine v_goto 58 dX9_found_39 (by decide) ?_
          exact L_X9_found_58 N v3 s ls (lv_sub hl [] rfl) h
      · refine v_bipush (-3 : Int32) dX9_found_24 (by decide) ?_
        exact v_iret dX9_found_26 h
    · exact L_X9_found_14 N  s ls (lv_sub hl [] rfl) h
theorem k_X9_found {X : VX} {cc : ByteArray} {own : String} {nL fr lo : Nat} {ini : Bool} {E : VX → Prop} {sF s : vS} {ρ : Type} {res : ρ} {pc : Nat} {ls : Array Slot} {rest : List Value} {N index : Nat} {a0 : Nat} {l1 : Int32} {l2 : Int32} {f : Int32 → vS → Option ρ} (h : bnd (F_X9_found N a0 l1 l2 s) f = some res) (hlink : Cond.methodLink own index yX9_found ∈ TT) (hR : 4 + 1 ≤ fr ∧ 8 + (4 + 11) + 96 ≤ lo) (hls : ls.size = nL) (hr : (rest.map fun v => v.category).sum ≤ 8) (hdg : decode cc pc = .ok (.invokevirtual index, 3)) (kk : ∀ r s', f r s' = some res → V X (cc, own, nL, fr, lo, ini) E sF s' (G0 X (pc + 3) ls (.int r :: rest))) : V X (cc, own, nL, fr, lo, ini) E sF s (G0 X pc ls (.int l2 :: .int l1 :: .ref (xb X + a0) :: rest)) := by
  obtain ⟨r, s', e, h⟩ := bnd_some h
  exact v_callV (b := a0) (ci := 9) (As := [.int l1, .int l2]) (rest := rest) (c_X9_found X N a0 l1 l2 s s' r e).2 (c_X9_found (l := xl X) (D := xD X) (ka := xka X) X N a0 l1 l2 s s' r e).1 rfl vl_X9_found qi_X9_found qe_X9_found hlink hR rfl rfl hls hr hdg (kk r s' h)
theorem vl_X9_feed : vCl yX9_feed cX9_feed 2 (some .int) 1 := ⟨qy_X9_feed, qjX9, by decide +kernel, by decide +kernel, by decide +kernel⟩
set_option maxHeartbeats 4000000 in
set_option maxRecDepth 100000 in
theorem c_X9_feed {l : Launch} {D : va_G} {ka : Nat → ClassId} (X0 : VX) (N : Nat) (a0 : Nat) (l1 : Int32) (s sF : vS) (r : Int32) (h : F_X9_feed N a0 l1 s = some (r, sF)) : isO s a0 9 = true ∧ vMet l D ka (xb X0) yX9_feed cX9_feed 2 (some .int) 1 22 [.ref (xb X0 + a0), .int l1] s sF (some (.int r)) := by
  unfold F_X9_feed at h
  unfold rcv at h
  obtain ⟨hO, h⟩ := v_chk h
  refine ⟨hO, vMet.of (ini := false) X0 (plainFor_of_name (by decide +kernel)) (Nat.le_of_ble_eq_true rfl) (fun h => by cases h) (fun X ls hb hl => ?_) rfl⟩
  show V X (cX9_feed, RX9, 2, 1, 22, false) (vRet sF (some (.int r)) (some .int)) sF s (G0 X 0 ls [])
  rw [← hb] at hl
  have hl : lv_has ls 2 [(0, .ref (xb X + a0)), (1, .int l1)] := hl
  refine v_iload_n dX9_feed_0 rfl (lv_at hl 1 rfl) ?_
  refine v_iconst (0 : Int32) dX9_feed_1 (by decide) ?_
  refine v_bipush (127 : Int32) dX9_feed_2 (by decide) ?_
  refine k_X9_in h qmX9_129 (by decide) hl.1 (Nat.le_of_ble_eq_true rfl) dX9_feed_4 (fun v1 s h => ?_)
  refine v_if_ne 13 dX9_feed_7 (by decide) h (fun h => ?_) (fun h => ?_)
  · refine v_aload_n dX9_feed_13 rfl (lv_at hl 0 rfl) ?_
    refine v_getI 9 13 h (by decide) (Or.inl rfl) qfX9_253 dX9_feed_14 (fun v2 h => ?_)
    refine v_bipush (60 : Int32) dX9_feed_17 (by decide) ?_
    refine v_icmp_ne 25 dX9_feed_19 (by decide) h (fun h => ?_) (fun h => ?_)
    · refine v_aload_n dX9_feed_25 rfl (lv_at hl 0 rfl) ?_
      refine v_getR 9 14 h (by decide) rfl qfX9_66 dX9_feed_26 (fun r3 h => ?_)
      refine v_aload_n dX9_feed_29 rfl (lv_at hl 0 rfl) ?_
      refine v_getI 9 13 h (by decide) (Or.inl rfl) qfX9_253 dX9_feed_30 (fun v4 h => ?_)
      refine v_iload_n dX9_feed_33 rfl (lv_at hl 1 rfl) ?_
      refine v_iast dX9_feed_34 h (fun s h => ?_)
      refine v_aload_n dX9_feed_35 rfl (lv_at hl 0 rfl) ?_
      refine v_dup dX9_feed_36 rfl ?_
      refine v_getI 9 13 h (by decide) (Or.inl rfl) qfX9_253 dX9_feed_37 (fun v5 h => ?_)
      refine v_iconst (1 : Int32) dX9_feed_40 (by decide) ?_
      refine v_iadd dX9_feed_41 ?_
      refine v_putI 9 13 h (by decide) rfl (Or.inl rfl) qfX9_253 dX9_feed_42 (fun s h => ?_)
      refine v_aload_n dX9_feed_45 rfl (lv_at hl 0 rfl) ?_
      refine v_getI 9 13 h (by decide) (Or.inl rfl) qfX9_253 dX9_feed_46 (fun v6 h => ?_)
      exact v_iret dX9_feed_49 h
    · refine v_bipush (-4 : Int32) dX9_feed_22 (by decide) ?_
      exact v_iret dX9_feed_24 h
  · refine v_bipush (-2 : Int32) dX9_feed_10 (by decide) ?_
    exact v_iret dX9_feed_12 h
theorem k_X9_feed {X : VX} {cc : ByteArray} {own : String} {nL fr lo : Nat} {ini : Bool} {E : VX → Prop} {sF s : vS} {ρ : Type} {res : ρ} {pc : Nat} {ls : Array Slot} {rest : List Value} {N index : Nat} {a0 : Nat} {l1 : Int32} {f : Int32 → vS → Option ρ} (h : bnd (F_X9_feed N a0 l1 s) f = some res) (hlink : Cond.methodLink own index yX9_feed ∈ TT) (hR : 1 + 1 ≤ fr ∧ 8 + (2 + 11) + 22 ≤ lo) (hls : ls.size = nL) (hr : (rest.map fun v => v.category).sum ≤ 8) (hdg : decode cc pc = .ok (.invokevirtual index, 3)) (kk : ∀ r s', f r s' = some res → V X (cc, own, nL, fr, lo, ini) E sF s' (G0 X (pc + 3) ls (.int r :: rest))) : V X (cc, own, nL, fr, lo, ini) E sF s (G0 X pc ls (.int l1 :: .ref (xb X + a0) :: rest)) := by
  obtain ⟨r, s', e, h⟩ := bnd_some h
  exact v_callV (b := a0) (ci := 9) (As := [.int l1]) (rest := rest) (c_X9_feed X N a0 l1 s s' r e).2 (c_X9_feed (l := xl X) (D := xD X) (ka := xka X) X N a0 l1 s s' r e).1 rfl vl_X9_feed qi_X9_feed qe_X9_feed hlink hR rfl rfl hls hr hdg (kk r s' h)
set_option maxHeartbeats 4000000 in
set_option maxRecDepth 100000 in
theorem L_X9_here_24 {X : VX} {sF : vS} {r : Int32} (N : Nat) (k0 : Int32) (s : vS) (ls : Array Slot) (hl : lv_has ls 1 []) (h : J_X9_here_24 N k0 s = some (r, sF)) : V X (cX9_here, RX9, 1, 0, 0, false) (vRet sF (some (.int r)) (some .int)) sF s (G0 X 24 ls [.int k0]) := by
  unfold J_X9_here_24 at h
  exact v_iret dX9_here_24 h
theorem vl_X9_here : vCl yX9_here cX9_here 1 (some .int) 0 := ⟨qy_X9_here, qjX9, by decide +kernel, by decide +kernel, by decide +kernel⟩
set_option maxHeartbeats 4000000 in
set_option maxRecDepth 100000 in
theorem c_X9_here {l : Launch} {D : va_G} {ka : Nat → ClassId} (X0 : VX) (N : Nat) (a0 : Nat) (s sF : vS) (r : Int32) (h : F_X9_here N a0 s = some (r, sF)) : isO s a0 9 = true ∧ vMet l D ka (xb X0) yX9_here cX9_here 1 (some .int) 0 0 [.ref (xb X0 + a0)] s sF (some (.int r)) := by
  unfold F_X9_here at h
  unfold rcv at h
  obtain ⟨hO, h⟩ := v_chk h
  refine ⟨hO, vMet.of (ini := false) X0 (plainFor_of_name (by decide +kernel)) (Nat.le_of_ble_eq_true rfl) (fun h => by cases h) (fun X ls hb hl => ?_) rfl⟩
  show V X (cX9_here, RX9, 1, 0, 0, false) (vRet sF (some (.int r)) (some .int)) sF s (G0 X 0 ls [])
  rw [← hb] at hl
  have hl : lv_has ls 1 [(0, .ref (xb X + a0))] := hl
  refine v_aload_n dX9_here_0 rfl (lv_at hl 0 rfl) ?_
  refine v_getI 9 29 h (by decide) (Or.inl rfl) qfX9_256 dX9_here_1 (fun v1 h => ?_)
  refine v_aload_n dX9_here_4 rfl (lv_at hl 0 rfl) ?_
  refine v_getI 9 13 h (by decide) (Or.inl rfl) qfX9_253 dX9_here_5 (fun v2 h => ?_)
  refine v_icmp_ge 23 dX9_here_8 (by decide) h (fun h => ?_) (fun h => ?_)
  · refine v_iconst (-1 : Int32) dX9_here_23 (by decide) ?_
    exact L_X9_here_24 N (-1 : Int32) s ls (lv_sub hl [] rfl) h
  · refine v_aload_n dX9_here_11 rfl (lv_at hl 0 rfl) ?_
    refine v_getR 9 14 h (by decide) rfl qfX9_66 dX9_here_12 (fun r3 h => ?_)
    refine v_aload_n dX9_here_15 rfl (lv_at hl 0 rfl) ?_
    refine v_getI 9 29 h (by decide) (Or.inl rfl) qfX9_256 dX9_here_16 (fun v4 h => ?_)
    refine v_iald dX9_here_19 h (fun v5 h => ?_)
    refine v_goto 24 dX9_here_20 (by decide) ?_
    exact L_X9_here_24 N v5 s ls (lv_sub hl [] rfl) h
theorem k_X9_here {X : VX} {cc : ByteArray} {own : String} {nL fr lo : Nat} {ini : Bool} {E : VX → Prop} {sF s : vS} {ρ : Type} {res : ρ} {pc : Nat} {ls : Array Slot} {rest : List Value} {N index : Nat} {a0 : Nat} {f : Int32 → vS → Option ρ} (h : bnd (F_X9_here N a0 s) f = some res) (hlink : Cond.methodLink own index yX9_here ∈ TT) (hR : 0 + 1 ≤ fr ∧ 8 + (1 + 11) + 0 ≤ lo) (hls : ls.size = nL) (hr : (rest.map fun v => v.category).sum ≤ 8) (hdg : decode cc pc = .ok (.invokevirtual index, 3)) (kk : ∀ r s', f r s' = some res → V X (cc, own, nL, fr, lo, ini) E sF s' (G0 X (pc + 3) ls (.int r :: rest))) : V X (cc, own, nL, fr, lo, ini) E sF s (G0 X pc ls (.ref (xb X + a0) :: rest)) := by
  obtain ⟨r, s', e, h⟩ := bnd_some h
  exact v_callV (b := a0) (ci := 9) (As := []) (rest := rest) (c_X9_here X N a0 s s' r e).2 (c_X9_here (l := xl X) (D := xD X) (ka := xka X) X N a0 s s' r e).1 rfl vl_X9_here qi_X9_here qe_X9_here hlink hR rfl rfl hls hr hdg (kk r s' h)
theorem vl_X9_isFigure : vCl yX9_isFigure cX9_isFigure 1 (some .boolean) 0 := ⟨qy_X9_isFigure, qjX9, by decide +kernel, by decide +kernel, by decide +kernel⟩
set_option maxHeartbeats 4000000 in
set_option maxRecDepth 100000 in
theorem c_X9_isFigure {l : Launch} {D : va_G} {ka : Nat → ClassId} (X0 : VX) (N : Nat) (a0 : Nat) (s sF : vS) (r : Int32) (h : F_X9_isFigure N a0 s = some (r, sF)) : isO s a0 9 = true ∧ vMet l D ka (xb X0) yX9_isFigure cX9_isFigure 1 (some .boolean) 1 22 [.ref (xb X0 + a0)] s sF (some (.int r)) := by
  unfold F_X9_isFigure at h
  unfold rcv at h
  obtain ⟨hO, h⟩ := v_chk h
  refine ⟨hO, vMet.of (ini := false) X0 (plainFor_of_name (by decide +kernel)) (Nat.le_of_ble_eq_true rfl) (fun h => by cases h) (fun X ls hb hl => ?_) rfl⟩
  show V X (cX9_isFigure, RX9, 1, 1, 22, false) (vRet sF (some (.int r)) (some .boolean)) sF s (G0 X 0 ls [])
  rw [← hb] at hl
  have hl : lv_has ls 1 [(0, .ref (xb X + a0))] := hl
  refine v_aload_n dX9_isFigure_0 rfl (lv_at hl 0 rfl) ?_
  refine k_X9_here h qmX9_259 (by decide) hl.1 (Nat.le_of_ble_eq_true rfl) dX9_isFigure_1 (fun v1 s h => ?_)
  refine v_bipush (48 : Int32) dX9_isFigure_4 (by decide) ?_
  refine v_bipush (57 : Int32) dX9_isFigure_6 (by decide) ?_
  refine k_X9_in h qmX9_129 (by decide) hl.1 (Nat.le_of_ble_eq_true rfl) dX9_isFigure_8 (fun v2 s h => ?_)
  exact v_zret dX9_isFigure_11 h
theorem k_X9_isFigure {X : VX} {cc : ByteArray} {own : String} {nL fr lo : Nat} {ini : Bool} {E : VX → Prop} {sF s : vS} {ρ : Type} {res : ρ} {pc : Nat} {ls : Array Slot} {rest : List Value} {N index : Nat} {a0 : Nat} {f : Int32 → vS → Option ρ} (h : bnd (F_X9_isFigure N a0 s) f = some res) (hlink : Cond.methodLink own index yX9_isFigure ∈ TT) (hR : 1 + 1 ≤ fr ∧ 8 + (1 + 11) + 22 ≤ lo) (hls : ls.size = nL) (hr : (rest.map fun v => v.category).sum ≤ 8) (hdg : decode cc pc = .ok (.invokevirtual index, 3)) (kk : ∀ r s', f r s' = some res → V X (cc, own, nL, fr, lo, ini) E sF s' (G0 X (pc + 3) ls (.int r :: rest))) : V X (cc, own, nL, fr, lo, ini) E sF s (G0 X pc ls (.ref (xb X + a0) :: rest)) := by
  obtain ⟨r, s', e, h⟩ := bnd_some h
  exact v_callV (b := a0) (ci := 9) (As := []) (rest := rest) (c_X9_isFigure X N a0 s s' r e).2 (c_X9_isFigure (l := xl X) (D := xD X) (ka := xka X) X N a0 s s' r e).1 rfl vl_X9_isFigure qi_X9_isFigure qe_X9_isFigure hlink hR rfl rfl hls hr hdg (kk r s' h)
set_option maxHeartbeats 4000000 in
set_option maxRecDepth 100000 in
theorem L_X9_number_54 {X : VX} {sF : vS} {r : Int32} (N : Nat) (k0 : Int32) (s : vS) (ls : Array Slot) (hl : lv_has ls 3 []) (h : J_X9_number_54 N k0 s = some (r, sF)) : V X (cX9_number, RX9, 3, 2, 42, false) (vRet sF (some (.int r)) (some .int)) sF s (G0 X 54 ls [.int k0]) := by
  unfold J_X9_number_54 at h
  exact v_iret dX9_number_54 h
set_option maxHeartbeats 4000000 in
set_option maxRecDepth 100000 in
theorem L_X9_number_45 {X : VX} {sF : vS} {r : Int32} (N : Nat) (l1 : Int32) (l2 : Int32) (s : vS) (ls : Array Slot) (hl : lv_has ls 3 [(1, .int l1), (2, .int l2)]) (h : J_X9_number_45 N l1 l2 s = some (r, sF)) : V X (cX9_number, RX9, 3, 2, 42, false) (vRet sF (some (.int r)) (some .int)) sF s (G0 X 45 ls []) := by
  unfold J_X9_number_45 at h
  refine v_iload_n dX9_number_45 rfl (lv_at hl 1 rfl) ?_
  refine v_if_ne 53 dX9_number_46 (by decide) h (fun h => ?_) (fun h => ?_)
  · refine v_iload_n dX9_number_53 rfl (lv_at hl 0 rfl) ?_
    exact L_X9_number_54 N l1 s ls (lv_sub hl [] rfl) h
  · refine v_iconst (-1 : Int32) dX9_number_49 (by decide) ?_
    refine v_goto 54 dX9_number_50 (by decide) ?_
    exact L_X9_number_54 N (-1 : Int32) s ls (lv_sub hl [] rfl) h
set_option maxHeartbeats 4000000 in
set_option maxRecDepth 100000 in
theorem L_X9_number_4 {X : VX} {sF : vS} {r : Int32} (N : Nat) : ∀ (n : Nat) (a0 : Nat) (l1 : Int32) (l2 : Int32) (s : vS) (ls : Array Slot), lv_has ls 3 [(0, .ref (xb X + a0)), (1, .int l1), (2, .int l2)] → H_X9_number_4 N n a0 l1 l2 s = some (r, sF) → V X (cX9_number, RX9, 3, 2, 42, false) (vRet sF (some (.int r)) (some .int)) sF s (G0 X 4 ls []) := by
  intro n
  induction n with
  | zero => intro a0 l1 l2 s ls hl h; cases h
  | succ n ih =>
   intro a0 l1 l2 s ls hl h
   unfold H_X9_number_4 at h
   refine v_iload_n dX9_number_4 rfl (lv_at hl 2 rfl) ?_
   refine v_iconst (3 : Int32) dX9_number_5 (by decide) ?_
   refine v_icmp_ge 45 dX9_number_6 (by decide) h (fun h => ?_) (fun h => ?_)
   · exact L_X9_number_45 N l1 l2 s ls (lv_sub hl [1, 2] rfl) h
   · refine v_aload_n dX9_number_9 rfl (lv_at hl 0 rfl) ?_
     refine k_X9_isFigure h qmX9_263 (by decide) hl.1 (Nat.le_of_ble_eq_true rfl) dX9_number_10 (fun v1 s h => ?_)
     refine v_if_eq 45 dX9_number_13 (by decide) h (fun h => ?_) (fun h => ?_)
     · exact L_X9_number_45 N l1 l2 s ls (lv_sub hl [1, 2] rfl) h
     · refine v_bipush (10 : Int32) dX9_number_16 (by decide) ?_
       refine v_iload_n dX9_number_18 rfl (lv_at hl 1 rfl) ?_
       refine v_imul dX9_number_19 ?_
       refine v_aload_n dX9_number_20 rfl (lv_at hl 0 rfl) ?_
       refine k_X9_here h qmX9_259 (by decide) hl.1 (Nat.le_of_ble_eq_true rfl) dX9_number_21 (fun v2 s h => ?_)
       refine v_iadd dX9_number_24 ?_
       refine v_bipush (48 : Int32) dX9_number_25 (by decide) ?_
       refine v_isub dX9_number_27 ?_
       refine v_nmI h (fun l1_3 h => ?_)
       refine v_istore_n [(1, .int l1_3), (0, .ref (xb X + a0)), (2, .int l2)] dX9_number_28 rfl hl (by decide) rfl (fun ls hl => ?_)
       refine v_aload_n dX9_number_29 rfl (lv_at hl 1 rfl) ?_
       refine v_dup dX9_number_30 rfl ?_
       refine v_getI 9 29 h (by decide) (Or.inl rfl) qfX9_256 dX9_number_31 (fun v4 h => ?_)
       refine v_iconst (1 : Int32) dX9_number_34 (by decide) ?_
       refine v_iadd dX9_number_35 ?_
       refine v_putI 9 29 h (by decide) rfl (Or.inl rfl) qfX9_256 dX9_number_36 (fun s h => ?_)
       refine v_inc (fun z => [(2, .int z), (1, .int l1_3), (0, .ref (xb X + a0))]) dX9_number_39 h hl (k := 2) rfl (by rfl) (by decide) (fun _ => rfl) (fun l2_5 ls hl h => ?_)
       refine v_goto 4 dX9_number_42 (by decide) ?_
       exact ih a0 l1_3 l2_5 s ls (lv_sub hl [2, 1, 0] rfl) h
theorem vl_X9_number : vCl yX9_number cX9_number 3 (some .int) 0 := ⟨qy_X9_number, qjX9, by decide +kernel, by decide +kernel, by decide +kernel⟩
set_option maxHeartbeats 4000000 in
set_option maxRecDepth 100000 in
theorem c_X9_number {l : Launch} {D : va_G} {ka : Nat → ClassId} (X0 : VX) (N : Nat) (a0 : Nat) (s sF : vS) (r : Int32) (h : F_X9_number N a0 s = some (r, sF)) : isO s a0 9 = true ∧ vMet l D ka (xb X0) yX9_number cX9_number 3 (some .int) 2 42 [.ref (xb X0 + a0)] s sF (some (.int r)) := by
  unfold F_X9_number at h
  unfold rcv at h
  obtain ⟨hO, h⟩ := v_chk h
  refine ⟨hO, vMet.of (ini := false) X0 (plainFor_of_name (by decide +kernel)) (Nat.le_of_ble_eq_true rfl) (fun h => by cases h) (fun X ls hb hl => ?_) rfl⟩
  show V X (cX9_number, RX9, 3, 2, 42, false) (vRet sF (some (.int r)) (some .int)) sF s (G0 X 0 ls [])
  rw [← hb] at hl
  have hl : lv_has ls 3 [(0, .ref (xb X + a0))] := hl
  refine v_iconst (0 : Int32) dX9_number_0 (by decide) ?_
  refine v_istore_n [(1, .int (0 : Int32)), (0, .ref (xb X + a0))] dX9_number_1 rfl hl (by decide) rfl (fun ls hl => ?_)
  refine v_iconst (0 : Int32) dX9_number_2 (by decide) ?_
  refine v_istore_n [(2, .int (0 : Int32)), (1, .int (0 : Int32)), (0, .ref (xb X + a0))] dX9_number_3 rfl hl (by decide) rfl (fun ls hl => ?_)
  exact L_X9_number_4 N N a0 (0 : Int32) (0 : Int32) s ls (lv_sub hl [2, 1, 0] rfl) h
theorem k_X9_number {X : VX} {cc : ByteArray} {own : String} {nL fr lo : Nat} {ini : Bool} {E : VX → Prop} {sF s : vS} {ρ : Type} {res : ρ} {pc : Nat} {ls : Array Slot} {rest : List Value} {N index : Nat} {a0 : Nat} {f : Int32 → vS → Option ρ} (h : bnd (F_X9_number N a0 s) f = some res) (hlink : Cond.methodLink own index yX9_number ∈ TT) (hR : 2 + 1 ≤ fr ∧ 8 + (3 + 11) + 42 ≤ lo) (hls : ls.size = nL) (hr : (rest.map fun v => v.category).sum ≤ 8) (hdg : decode cc pc = .ok (.invokevirtual index, 3)) (kk : ∀ r s', f r s' = some res → V X (cc, own, nL, fr, lo, ini) E sF s' (G0 X (pc + 3) ls (.int r :: rest))) : V X (cc, own, nL, fr, lo, ini) E sF s (G0 X pc ls (.ref (xb X + a0) :: rest)) := by
  obtain ⟨r, s', e, h⟩ := bnd_some h
  exact v_callV (b := a0) (ci := 9) (As := []) (rest := rest) (c_X9_number X N a0 s s' r e).2 (c_X9_number (l := xl X) (D := xD X) (ka := xka X) X N a0 s s' r e).1 rfl vl_X9_number qi_X9_number qe_X9_number hlink hR rfl rfl hls hr hdg (kk r s' h)
theorem vl_X9_add : vCl yX9_add cX9_add 5 none 4 := ⟨qy_X9_add, qjX9, by decide +kernel, by decide +kernel, by decide +kernel⟩
set_option maxHeartbeats 4000000 in
set_option maxRecDepth 100000 in
theorem c_X9_add {l : Launch} {D : va_G} {ka : Nat → ClassId} (X0 : VX) (N : Nat) (a0 : Nat) (l1 : Int32) (l2 : Int32) (l3 : Int32) (l4 : Int32) (s sF : vS) (r : Unit) (h : F_X9_add N a0 l1 l2 l3 l4 s = some (r, sF)) : isO s a0 9 = true ∧ vMet l D ka (xb X0) yX9_add cX9_add 5 none 0 0 [.ref (xb X0 + a0), .int l1, .int l2, .int l3, .int l4] s sF none := by
  unfold F_X9_add at h
  unfold rcv at h
  obtain ⟨hO, h⟩ := v_chk h
  refine ⟨hO, vMet.of (ini := false) X0 (plainFor_of_name (by decide +kernel)) (Nat.le_of_ble_eq_true rfl) (fun h => by cases h) (fun X ls hb hl => ?_) rfl⟩
  show V X (cX9_add, RX9, 5, 0, 0, false) (vRet sF none none) sF s (G0 X 0 ls [])
  rw [← hb] at hl
  have hl : lv_has ls 5 [(0, .ref (xb X + a0)), (1, .int l1), (2, .int l2), (3, .int l3), (4, .int l4)] := hl
  refine v_aload_n dX9_add_0 rfl (lv_at hl 0 rfl) ?_
  refine v_getR 9 31 h (by decide) rfl qfX9_96 dX9_add_1 (fun r1 h => ?_)
  refine v_aload_n dX9_add_4 rfl (lv_at hl 0 rfl) ?_
  refine v_getI 9 30 h (by decide) (Or.inl rfl) qfX9_267 dX9_add_5 (fun v2 h => ?_)
  refine v_iload_n dX9_add_8 rfl (lv_at hl 1 rfl) ?_
  refine v_iast dX9_add_9 h (fun s h => ?_)
  refine v_aload_n dX9_add_10 rfl (lv_at hl 0 rfl) ?_
  refine v_getR 9 32 h (by decide) rfl qfX9_99 dX9_add_11 (fun r3 h => ?_)
  refine v_aload_n dX9_add_14 rfl (lv_at hl 0 rfl) ?_
  refine v_getI 9 30 h (by decide) (Or.inl rfl) qfX9_267 dX9_add_15 (fun v4 h => ?_)
  refine v_iload_n dX9_add_18 rfl (lv_at hl 2 rfl) ?_
  refine v_iast dX9_add_19 h (fun s h => ?_)
  refine v_aload_n dX9_add_20 rfl (lv_at hl 0 rfl) ?_
  refine v_getR 9 33 h (by decide) rfl qfX9_102 dX9_add_21 (fun r5 h => ?_)
  refine v_aload_n dX9_add_24 rfl (lv_at hl 0 rfl) ?_
  refine v_getI 9 30 h (by decide) (Or.inl rfl) qfX9_267 dX9_add_25 (fun v6 h => ?_)
  refine v_iload_n dX9_add_28 rfl (lv_at hl 3 rfl) ?_
  refine v_iast dX9_add_29 h (fun s h => ?_)
  refine v_aload_n dX9_add_30 rfl (lv_at hl 0 rfl) ?_
  refine v_getR 9 34 h (by decide) rfl qfX9_105 dX9_add_31 (fun r7 h => ?_)
  refine v_aload_n dX9_add_34 rfl (lv_at hl 0 rfl) ?_
  refine v_getI 9 30 h (by decide) (Or.inl rfl) qfX9_267 dX9_add_35 (fun v8 h => ?_)
  refine v_iload dX9_add_38 (lv_at hl 4 rfl) ?_
  refine v_iast dX9_add_40 h (fun s h => ?_)
  refine v_aload_n dX9_add_41 rfl (lv_at hl 0 rfl) ?_
  refine v_dup dX9_add_42 rfl ?_
  refine v_getI 9 30 h (by decide) (Or.inl rfl) qfX9_267 dX9_add_43 (fun v9 h => ?_)
  refine v_iconst (1 : Int32) dX9_add_46 (by decide) ?_
  refine v_iadd dX9_add_47 ?_
  refine v_putI 9 30 h (by decide) rfl (Or.inl rfl) qfX9_267 dX9_add_48 (fun s h => ?_)
  exact v_vret dX9_add_51 h
theorem k_X9_add {X : VX} {cc : ByteArray} {own : String} {nL fr lo : Nat} {ini : Bool} {E : VX → Prop} {sF s : vS} {ρ : Type} {res : ρ} {pc : Nat} {ls : Array Slot} {rest : List Value} {N index : Nat} {a0 : Nat} {l1 : Int32} {l2 : Int32} {l3 : Int32} {l4 : Int32} {f : Unit → vS → Option ρ} (h : bnd (F_X9_add N a0 l1 l2 l3 l4 s) f = some res) (hlink : Cond.methodLink own index yX9_add ∈ TT) (hR : 0 + 1 ≤ fr ∧ 8 + (5 + 11) + 0 ≤ lo) (hls : ls.size = nL) (hr : (rest.map fun v => v.category).sum ≤ 8) (hdg : decode cc pc = .ok (.invokevirtual index, 3)) (kk : ∀ r s', f r s' = some res → V X (cc, own, nL, fr, lo, ini) E sF s' (G0 X (pc + 3) ls (rest))) : V X (cc, own, nL, fr, lo, ini) E sF s (G0 X pc ls (.int l4 :: .int l3 :: .int l2 :: .int l1 :: .ref (xb X + a0) :: rest)) := by
  obtain ⟨r, s', e, h⟩ := bnd_some h
  exact v_callV (b := a0) (ci := 9) (As := [.int l1, .int l2, .int l3, .int l4]) (rest := rest) (c_X9_add X N a0 l1 l2 l3 l4 s s' r e).2 (c_X9_add (l := xl X) (D := xD X) (ka := xka X) X N a0 l1 l2 l3 l4 s s' r e).1 rfl vl_X9_add qi_X9_add qe_X9_add hlink hR rfl rfl hls hr hdg (kk r s' h)
set_option maxHeartbeats 4000000 in
set_option maxRecDepth 100000 in
theorem L_X9_isFraction_67 {X : VX} {sF : vS} {r : Int32} (N : Nat) (a0 : Nat) (l1 : Int32) (l2 : Int32) (l3 : Int32) (s : vS) (ls : Array Slot) (hl : lv_has ls 5 [(0, .ref (xb X + a0)), (1, .int l1), (2, .int l2), (3, .int l3)]) (h : J_X9_isFraction_67 N a0 l1 l2 l3 s = some (r, sF)) : V X (cX9_isFraction, RX9, 5, 3, 64, false) (vRet sF (some (.int r)) (some .boolean)) sF s (G0 X 67 ls []) := by
  unfold J_X9_isFraction_67 at h
  refine v_aload_n dX9_isFraction_67 rfl (lv_at hl 0 rfl) ?_
  refine v_bipush (49 : Int32) dX9_isFraction_68 (by decide) ?_
  refine v_iload_n dX9_isFraction_70 rfl (lv_at hl 1 rfl) ?_
  refine v_iload_n dX9_isFraction_71 rfl (lv_at hl 2 rfl) ?_
  refine v_iload_n dX9_isFraction_72 rfl (lv_at hl 3 rfl) ?_
  refine k_X9_add h qmX9_273 (by decide) hl.1 (Nat.le_of_ble_eq_true rfl) dX9_isFraction_73 (fun v8 s h => ?_)
  refine v_iconst (1 : Int32) dX9_isFraction_76 (by decide) ?_
  exact v_zret dX9_isFraction_77 h
set_option maxHeartbeats 4000000 in
set_option maxRecDepth 100000 in
theorem L_X9_isFraction_53 {X : VX} {sF : vS} {r : Int32} (N : Nat) (s : vS) (ls : Array Slot) (hl : lv_has ls 5 []) (h : J_X9_isFraction_53 N  s = some (r, sF)) : V X (cX9_isFraction, RX9, 5, 3, 64, false) (vRet sF (some (.int r)) (some .boolean)) sF s (G0 X 53 ls []) := by
  unfold J_X9_isFraction_53 at h
  refine v_iconst (0 : Int32) dX9_isFraction_53 (by decide) ?_
  exact v_zret dX9_isFraction_54 h
theorem vl_X9_isFraction : vCl yX9_isFraction cX9_isFraction 5 (some .boolean) 0 := ⟨qy_X9_isFraction, qjX9, by decide +kernel, by decide +kernel, by decide +kernel⟩
set_option maxHeartbeats 4000000 in
set_option maxRecDepth 100000 in
theorem c_X9_isFraction {l : Launch} {D : va_G} {ka : Nat → ClassId} (X0 : VX) (N : Nat) (a0 : Nat) (s sF : vS) (r : Int32) (h : F_X9_isFraction N a0 s = some (r, sF)) : isO s a0 9 = true ∧ vMet l D ka (xb X0) yX9_isFraction cX9_isFraction 5 (some .boolean) 3 64 [.ref (xb X0 + a0)] s sF (some (.int r)) := by
  unfold F_X9_isFraction at h
  unfold rcv at h
  obtain ⟨hO, h⟩ := v_chk h
  refine ⟨hO, vMet.of (ini := false) X0 (plainFor_of_name (by decide +kernel)) (Nat.le_of_ble_eq_true rfl) (fun h => by cases h) (fun X ls hb hl => ?_) rfl⟩
  show V X (cX9_isFraction, RX9, 5, 3, 64, false) (vRet sF (some (.int r)) (some .boolean)) sF s (G0 X 0 ls [])
  rw [← hb] at hl
  have hl : lv_has ls 5 [(0, .ref (xb X + a0))] := hl
  refine v_aload_n dX9_isFraction_0 rfl (lv_at hl 0 rfl) ?_
  refine v_getI 9 29 h (by decide) (Or.inl rfl) qfX9_256 dX9_isFraction_1 (fun v1 h => ?_)
  refine v_istore_n [(1, .int v1), (0, .ref (xb X + a0))] dX9_isFraction_4 rfl hl (by decide) rfl (fun ls hl => ?_)
  refine v_aload_n dX9_isFraction_5 rfl (lv_at hl 1 rfl) ?_
  refine k_X9_number h qmX9_270 (by decide) hl.1 (Nat.le_of_ble_eq_true rfl) dX9_isFraction_6 (fun v2 s h => ?_)
  refine v_istore_n [(2, .int v2), (1, .int v1), (0, .ref (xb X + a0))] dX9_isFraction_9 rfl hl (by decide) rfl (fun ls hl => ?_)
  refine v_iconst (1 : Int32) dX9_isFraction_10 (by decide) ?_
  refine v_istore_n [(3, .int (1 : Int32)), (2, .int v2), (1, .int v1), (0, .ref (xb X + a0))] dX9_isFraction_11 rfl hl (by decide) rfl (fun ls hl => ?_)
  refine v_aload_n dX9_isFraction_12 rfl (lv_at hl 3 rfl) ?_
  refine k_X9_here h qmX9_259 (by decide) hl.1 (Nat.le_of_ble_eq_true rfl) dX9_isFraction_13 (fun v3 s h => ?_)
  refine v_bipush (47 : Int32) dX9_isFraction_16 (by decide) ?_
  refine v_icmp_ne 67 dX9_isFraction_18 (by decide) h (fun h => ?_) (fun h => ?_)
  · exact L_X9_isFraction_67 N a0 v1 v2 (1 : Int32) s ls (lv_sub hl [3, 2, 1, 0] rfl) h
  · refine v_aload_n dX9_isFraction_21 rfl (lv_at hl 3 rfl) ?_
    refine v_dup dX9_isFraction_22 rfl ?_
    refine v_getI 9 29 h (by decide) (Or.inl rfl) qfX9_256 dX9_isFraction_23 (fun v4 h => ?_)
    refine v_iconst (1 : Int32) dX9_isFraction_26 (by decide) ?_
    refine v_iadd dX9_isFraction_27 ?_
    refine v_putI 9 29 h (by decide) rfl (Or.inl rfl) qfX9_256 dX9_isFraction_28 (fun s h => ?_)
    refine v_aload_n dX9_isFraction_31 rfl (lv_at hl 3 rfl) ?_
    refine v_getI 9 29 h (by decide) (Or.inl rfl) qfX9_256 dX9_isFraction_32 (fun v5 h => ?_)
    refine v_istore [(4, .int v5), (3, .int (1 : Int32)), (2, .int v2), (1, .int v1), (0, .ref (xb X + a0))] dX9_isFraction_35 hl (by decide) rfl (fun ls hl => ?_)
    refine v_aload_n dX9_isFraction_37 rfl (lv_at hl 4 rfl) ?_
    refine k_X9_number h qmX9_270 (by decide) hl.1 (Nat.le_of_ble_eq_true rfl) dX9_isFraction_38 (fun v6 s h => ?_)
    refine v_istore_n [(3, .int v6), (4, .int v5), (2, .int v2), (1, .int v1), (0, .ref (xb X + a0))] dX9_isFraction_41 rfl hl (by decide) rfl (fun ls hl => ?_)
    refine v_iload_n dX9_isFraction_42 rfl (lv_at hl 0 rfl) ?_
    refine v_if_lt 53 dX9_isFraction_43 (by decide) h (fun h => ?_) (fun h => ?_)
    · exact L_X9_isFraction_53 N  s ls (lv_sub hl [] rfl) h
    · refine v_aload_n dX9_isFraction_46 rfl (lv_at hl 4 rfl) ?_
      refine k_X9_isFigure h qmX9_263 (by decide) hl.1 (Nat.le_of_ble_eq_true rfl) dX9_isFraction_47 (fun v7 s h => ?_)
      refine v_if_eq 55 dX9_isFraction_50 (by decide) h (fun h => ?_) (fun h => ?_)
      · refine v_iload_n dX9_isFraction_55 rfl (lv_at hl 0 rfl) ?_
        refine v_if_ne 67 dX9_isFraction_56 (by decide) h (fun h => ?_) (fun h => ?_)
        · exact L_X9_isFraction_67 N a0 v1 v2 v6 s ls (lv_sub hl [4, 3, 2, 0] rfl) h
        · refine v_aload_n dX9_isFraction_59 rfl (lv_at hl 4 rfl) ?_
          refine v_iload dX9_isFraction_60 (lv_at hl 1 rfl) ?_
          refine v_putI 9 29 h (by decide) rfl (Or.inl rfl) qfX9_256 dX9_isFraction_62 (fun s h => ?_)
          refine v_iconst (0 : Int32) dX9_isFraction_65 (by decide) ?_
          exact v_zret dX9_isFraction_66 h
      · exact L_X9_isFraction_53 N  s ls (lv_sub hl [] rfl) h
theorem k_X9_isFraction {X : VX} {cc : ByteArray} {own : String} {nL fr lo : Nat} {ini : Bool} {E : VX → Prop} {sF s : vS} {ρ : Type} {res : ρ} {pc : Nat} {ls : Array Slot} {rest : List Value} {N index : Nat} {a0 : Nat} {f : Int32 → vS → Option ρ} (h : bnd (F_X9_isFraction N a0 s) f = some res) (hlink : Cond.methodLink own index yX9_isFraction ∈ TT) (hR : 3 + 1 ≤ fr ∧ 8 + (5 + 11) + 64 ≤ lo) (hls : ls.size = nL) (hr : (rest.map fun v => v.category).sum ≤ 8) (hdg : decode cc pc = .ok (.invokevirtual index, 3)) (kk : ∀ r s', f r s' = some res → V X (cc, own, nL, fr, lo, ini) E sF s' (G0 X (pc + 3) ls (.int r :: rest))) : V X (cc, own, nL, fr, lo, ini) E sF s (G0 X pc ls (.ref (xb X + a0) :: rest)) := by
  obtain ⟨r, s', e, h⟩ := bnd_some h
  exact v_callV (b := a0) (ci := 9) (As := []) (rest := rest) (c_X9_isFraction X N a0 s s' r e).2 (c_X9_isFraction (l := xl X) (D := xD X) (ka := xka X) X N a0 s s' r e).1 rfl vl_X9_isFraction qi_X9_isFraction qe_X9_isFraction hlink hR rfl rfl hls hr hdg (kk r s' h)
set_option maxHeartbeats 4000000 in
set_option maxRecDepth 100000 in
theorem L_X9_isNetwork_266 {X : VX} {sF : vS} {r : Int32} (N : Nat) (a0 : Nat) (l1 : Int32) (l2 : Int32) (k0 : Int32) (s : vS) (ls : Array Slot) (hl : lv_has ls 9 [(0, .ref (xb X + a0)), (1, .int l1), (2, .int l2)]) (h : J_X9_isNetwork_266 N a0 l1 l2 k0 s = some (r, sF)) : V X (cX9_isNetwork, RX9, 9, 2, 42, false) (vRet sF (some (.int r)) (some .boolean)) sF s (G0 X 266 ls [.int k0]) := by
  unfold J_X9_isNetwork_266 at h
  refine v_istore [(8, .int k0), (0, .ref (xb X + a0)), (1, .int l1), (2, .int l2)] dX9_isNetwork_266 hl (by decide) rfl (fun ls hl => ?_)
  refine v_aload_n dX9_isNetwork_268 rfl (lv_at hl 1 rfl) ?_
  refine v_iload_n dX9_isNetwork_269 rfl (lv_at hl 2 rfl) ?_
  refine v_iload_n dX9_isNetwork_270 rfl (lv_at hl 3 rfl) ?_
  refine v_iload dX9_isNetwork_271 (lv_at hl 0 rfl) ?_
  refine v_iconst (0 : Int32) dX9_isNetwork_273 (by decide) ?_
  refine k_X9_add h qmX9_273 (by decide) hl.1 (Nat.le_of_ble_eq_true rfl) dX9_isNetwork_274 (fun v17 s h => ?_)
  refine v_iconst (1 : Int32) dX9_isNetwork_277 (by decide) ?_
  exact v_zret dX9_isNetwork_278 h
set_option maxHeartbeats 4000000 in
set_option maxRecDepth 100000 in
theorem L_X9_isNetwork_220 {X : VX} {sF : vS} {r : Int32} (N : Nat) (a0 : Nat) (l1 : Int32) (l2 : Int32) (l4 : Int32) (l5 : Int32) (k0 : Int32) (s : vS) (ls : Array Slot) (hl : lv_has ls 9 [(0, .ref (xb X + a0)), (1, .int l1), (2, .int l2), (4, .int l4), (5, .int l5)]) (h : J_X9_isNetwork_220 N a0 l1 l2 l4 l5 k0 s = some (r, sF)) : V X (cX9_isNetwork, RX9, 9, 2, 42, false) (vRet sF (some (.int r)) (some .boolean)) sF s (G0 X 220 ls [.int k0]) := by
  unfold J_X9_isNetwork_220 at h
  refine v_istore [(7, .int k0), (0, .ref (xb X + a0)), (1, .int l1), (2, .int l2), (4, .int l4), (5, .int l5)] dX9_isNetwork_220 hl (by decide) rfl (fun ls hl => ?_)
  refine v_iload dX9_isNetwork_222 (lv_at hl 0 rfl) ?_
  refine v_if_ne 231 dX9_isNetwork_224 (by decide) h (fun h => ?_) (fun h => ?_)
  · refine v_iload_n dX9_isNetwork_231 rfl (lv_at hl 2 rfl) ?_
    refine v_bipush (91 : Int32) dX9_isNetwork_232 (by decide) ?_
    refine v_icmp_ne 253 dX9_isNetwork_234 (by decide) h (fun h => ?_) (fun h => ?_)
    · refine v_aload_n dX9_isNetwork_253 rfl (lv_at hl 1 rfl) ?_
      refine v_getR 9 3 h (by decide) rfl qfX9_37 dX9_isNetwork_254 (fun r13 h => ?_)
      refine v_bipush (64 : Int32) dX9_isNetwork_257 (by decide) ?_
      refine v_iload dX9_isNetwork_259 (lv_at hl 4 rfl) ?_
      refine v_imul dX9_isNetwork_261 ?_
      refine v_iload dX9_isNetwork_262 (lv_at hl 5 rfl) ?_
      refine v_iadd dX9_isNetwork_264 ?_
      refine v_iald dX9_isNetwork_265 h (fun v14 h => ?_)
      exact L_X9_isNetwork_266 N a0 l1 l2 v14 s ls (lv_sub hl [1, 2, 3] rfl) h
    · refine v_aload_n dX9_isNetwork_237 rfl (lv_at hl 1 rfl) ?_
      refine v_getR 9 2 h (by decide) rfl qfX9_34 dX9_isNetwork_238 (fun r15 h => ?_)
      refine v_bipush (64 : Int32) dX9_isNetwork_241 (by decide) ?_
      refine v_iload dX9_isNetwork_243 (lv_at hl 4 rfl) ?_
      refine v_imul dX9_isNetwork_245 ?_
      refine v_iload dX9_isNetwork_246 (lv_at hl 5 rfl) ?_
      refine v_iadd dX9_isNetwork_248 ?_
      refine v_iald dX9_isNetwork_249 h (fun v16 h => ?_)
      refine v_goto 266 dX9_isNetwork_250 (by decide) ?_
      exact L_X9_isNetwork_266 N a0 l1 l2 v16 s ls (lv_sub hl [1, 2, 3] rfl) h
  · refine v_iconst (-1 : Int32) dX9_isNetwork_227 (by decide) ?_
    refine v_goto 266 dX9_isNetwork_228 (by decide) ?_
    exact L_X9_isNetwork_266 N a0 l1 l2 (-1 : Int32) s ls (lv_sub hl [1, 2, 3] rfl) h
set_option maxHeartbeats 4000000 in
set_option maxRecDepth 100000 in
theorem L_X9_isNetwork_219 {X : VX} {sF : vS} {r : Int32} (N : Nat) (a0 : Nat) (l1 : Int32) (l2 : Int32) (l4 : Int32) (l5 : Int32) (s : vS) (ls : Array Slot) (hl : lv_has ls 9 [(0, .ref (xb X + a0)), (1, .int l1), (2, .int l2), (4, .int l4), (5, .int l5)]) (h : J_X9_isNetwork_219 N a0 l1 l2 l4 l5 s = some (r, sF)) : V X (cX9_isNetwork, RX9, 9, 2, 42, false) (vRet sF (some (.int r)) (some .boolean)) sF s (G0 X 219 ls []) := by
  unfold J_X9_isNetwork_219 at h
  refine v_iconst (0 : Int32) dX9_isNetwork_219 (by decide) ?_
  exact L_X9_isNetwork_220 N a0 l1 l2 l4 l5 (0 : Int32) s ls (lv_sub hl [0, 1, 2, 3, 4] rfl) h
set_option maxHeartbeats 4000000 in
set_option maxRecDepth 100000 in
theorem L_X9_isNetwork_191 {X : VX} {sF : vS} {r : Int32} (N : Nat) (s : vS) (ls : Array Slot) (hl : lv_has ls 9 []) (h : J_X9_isNetwork_191 N  s = some (r, sF)) : V X (cX9_isNetwork, RX9, 9, 2, 42, false) (vRet sF (some (.int r)) (some .boolean)) sF s (G0 X 191 ls []) := by
  unfold J_X9_isNetwork_191 at h
  refine v_iconst (0 : Int32) dX9_isNetwork_191 (by decide) ?_
  exact v_zret dX9_isNetwork_192 h
set_option maxHeartbeats 4000000 in
set_option maxRecDepth 100000 in
theorem L_X9_isNetwork_188 {X : VX} {sF : vS} {r : Int32} (N : Nat) (a0 : Nat) (l1 : Int32) (l2 : Int32) (l3 : Int32) (l4 : Int32) (l5 : Int32) (l7 : Int32) (k0 : Int32) (k1 : Int32) (s : vS) (ls : Array Slot) (hl : lv_has ls 9 [(0, .ref (xb X + a0)), (1, .int l1), (2, .int l2), (3, .int l3), (4, .int l4), (5, .int l5), (7, .int l7)]) (h : J_X9_isNetwork_188 N a0 l1 l2 l3 l4 l5 l7 k0 k1 s = some (r, sF)) : V X (cX9_isNetwork, RX9, 9, 2, 42, false) (vRet sF (some (.int r)) (some .boolean)) sF s (G0 X 188 ls [.int k1, .int k0]) := by
  unfold J_X9_isNetwork_188 at h
  refine v_icmp_eq 193 dX9_isNetwork_188 (by decide) h (fun h => ?_) (fun h => ?_)
  · refine v_aload_n dX9_isNetwork_193 rfl (lv_at hl 0 rfl) ?_
    refine v_dup dX9_isNetwork_194 rfl ?_
    refine v_getI 9 29 h (by decide) (Or.inl rfl) qfX9_256 dX9_isNetwork_195 (fun v11 h => ?_)
    refine v_iconst (1 : Int32) dX9_isNetwork_198 (by decide) ?_
    refine v_iadd dX9_isNetwork_199 ?_
    refine v_putI 9 29 h (by decide) rfl (Or.inl rfl) qfX9_256 dX9_isNetwork_200 (fun s h => ?_)
    refine v_iload dX9_isNetwork_203 (lv_at hl 6 rfl) ?_
    refine v_if_eq 219 dX9_isNetwork_205 (by decide) h (fun h => ?_) (fun h => ?_)
    · exact L_X9_isNetwork_219 N a0 l1 l2 l4 l5 s ls (lv_sub hl [0, 1, 2, 4, 5] rfl) h
    · refine v_iload_n dX9_isNetwork_208 rfl (lv_at hl 3 rfl) ?_
      refine v_iconst (2 : Int32) dX9_isNetwork_209 (by decide) ?_
      refine v_irem dX9_isNetwork_210 h (fun h => ?_)
      refine v_iconst (1 : Int32) dX9_isNetwork_211 (by decide) ?_
      refine v_icmp_ne 219 dX9_isNetwork_212 (by decide) h (fun h => ?_) (fun h => ?_)
      · exact L_X9_isNetwork_219 N a0 l1 l2 l4 l5 s ls (lv_sub hl [0, 1, 2, 4, 5] rfl) h
      · refine v_iconst (1 : Int32) dX9_isNetwork_215 (by decide) ?_
        refine v_goto 220 dX9_isNetwork_216 (by decide) ?_
        exact L_X9_isNetwork_220 N a0 l1 l2 l4 l5 (1 : Int32) s ls (lv_sub hl [0, 1, 2, 4, 5] rfl) h
  · exact L_X9_isNetwork_191 N  s ls (lv_sub hl [] rfl) h
set_option maxHeartbeats 4000000 in
set_option maxRecDepth 100000 in
theorem L_X9_isNetwork_167 {X : VX} {sF : vS} {r : Int32} (N : Nat) (a0 : Nat) (l1 : Int32) (l2 : Int32) (l3 : Int32) (l4 : Int32) (l5 : Int32) (l7 : Int32) (s : vS) (ls : Array Slot) (hl : lv_has ls 9 [(0, .ref (xb X + a0)), (1, .int l1), (2, .int l2), (3, .int l3), (4, .int l4), (5, .int l5), (7, .int l7)]) (h : J_X9_isNetwork_167 N a0 l1 l2 l3 l4 l5 l7 s = some (r, sF)) : V X (cX9_isNetwork, RX9, 9, 2, 42, false) (vRet sF (some (.int r)) (some .boolean)) sF s (G0 X 167 ls []) := by
  unfold J_X9_isNetwork_167 at h
  refine v_iload_n dX9_isNetwork_167 rfl (lv_at hl 3 rfl) ?_
  refine v_if_eq 191 dX9_isNetwork_168 (by decide) h (fun h => ?_) (fun h => ?_)
  · exact L_X9_isNetwork_191 N  s ls (lv_sub hl [] rfl) h
  · refine v_aload_n dX9_isNetwork_171 rfl (lv_at hl 0 rfl) ?_
    refine k_X9_here h qmX9_259 (by decide) hl.1 (Nat.le_of_ble_eq_true rfl) dX9_isNetwork_172 (fun v6 s h => ?_)
    refine v_iload_n dX9_isNetwork_175 rfl (lv_at hl 1 rfl) ?_
    refine v_bipush (91 : Int32) dX9_isNetwork_176 (by decide) ?_
    refine v_icmp_ne 186 dX9_isNetwork_178 (by decide) h (fun h => ?_) (fun h => ?_)
    · refine v_bipush (62 : Int32) dX9_isNetwork_186 (by decide) ?_
      exact L_X9_isNetwork_188 N a0 l1 l2 l3 l4 l5 l7 v6 (62 : Int32) s ls (lv_sub hl [0, 1, 2, 3, 4, 5, 6] rfl) h
    · refine v_bipush (93 : Int32) dX9_isNetwork_181 (by decide) ?_
      refine v_goto 188 dX9_isNetwork_183 (by decide) ?_
      exact L_X9_isNetwork_188 N a0 l1 l2 l3 l4 l5 l7 v6 (93 : Int32) s ls (lv_sub hl [0, 1, 2, 3, 4, 5, 6] rfl) h
set_option maxHeartbeats 4000000 in
set_option maxRecDepth 100000 in
theorem L_X9_isNetwork_151 {X : VX} {sF : vS} {r : Int32} (N : Nat) (k29 : Nat → Int32 → Int32 → Int32 → Int32 → Int32 → Int32 → Int32 → vS → Option (Int32 × vS)) (hk29 : ∀ (a0 : Nat) (l1 : Int32) (l2 : Int32) (l3 : Int32) (l4 : Int32) (l5 : Int32) (l6 : Int32) (l7 : Int32) (s : vS) (ls : Array Slot), lv_has ls 9 [(0, .ref (xb X + a0)), (1, .int l1), (2, .int l2), (3, .int l3), (4, .int l4), (5, .int l5), (6, .int l6), (7, .int l7)] → k29 a0 l1 l2 l3 l4 l5 l6 l7 s = some (r, sF) → V X (cX9_isNetwork, RX9, 9, 2, 42, false) (vRet sF (some (.int r)) (some .boolean)) sF s (G0 X 29 ls [])) (a0 : Nat) (l1 : Int32) (l2 : Int32) (l3 : Int32) (l4 : Int32) (l5 : Int32) (l6 : Int32) (l7 : Int32) (s : vS) (ls : Array Slot) (hl : lv_has ls 9 [(0, .ref (xb X + a0)), (1, .int l1), (2, .int l2), (3, .int l3), (4, .int l4), (5, .int l5), (6, .int l6), (7, .int l7)]) (h : J_X9_isNetwork_151 N k29 a0 l1 l2 l3 l4 l5 l6 l7 s = some (r, sF)) : V X (cX9_isNetwork, RX9, 9, 2, 42, false) (vRet sF (some (.int r)) (some .boolean)) sF s (G0 X 151 ls []) := by
  unfold J_X9_isNetwork_151 at h
  refine v_aload_n dX9_isNetwork_151 rfl (lv_at hl 0 rfl) ?_
  refine v_dup dX9_isNetwork_152 rfl ?_
  refine v_getI 9 29 h (by decide) (Or.inl rfl) qfX9_256 dX9_isNetwork_153 (fun v8 h => ?_)
  refine v_iconst (1 : Int32) dX9_isNetwork_156 (by decide) ?_
  refine v_iadd dX9_isNetwork_157 ?_
  refine v_putI 9 29 h (by decide) rfl (Or.inl rfl) qfX9_256 dX9_isNetwork_158 (fun s h => ?_)
  refine v_inc (fun z => [(3, .int z), (0, .ref (xb X + a0)), (1, .int l1), (2, .int l2), (4, .int l4), (5, .int l5), (6, .int l6), (7, .int l7)]) dX9_isNetwork_161 h hl (k := 3) rfl (by rfl) (by decide) (fun _ => rfl) (fun l3_9 ls hl h => ?_)
  refine v_goto 29 dX9_isNetwork_164 (by decide) ?_
  exact hk29 a0 l1 l2 l3_9 l4 l5 l6 l7 s ls (lv_sub hl [1, 2, 3, 0, 4, 5, 6, 7] rfl) h
set_option maxHeartbeats 4000000 in
set_option maxRecDepth 100000 in
theorem L_X9_isNetwork_148 {X : VX} {sF : vS} {r : Int32} (N : Nat) (k29 : Nat → Int32 → Int32 → Int32 → Int32 → Int32 → Int32 → Int32 → vS → Option (Int32 × vS)) (hk29 : ∀ (a0 : Nat) (l1 : Int32) (l2 : Int32) (l3 : Int32) (l4 : Int32) (l5 : Int32) (l6 : Int32) (l7 : Int32) (s : vS) (ls : Array Slot), lv_has ls 9 [(0, .ref (xb X + a0)), (1, .int l1), (2, .int l2), (3, .int l3), (4, .int l4), (5, .int l5), (6, .int l6), (7, .int l7)] → k29 a0 l1 l2 l3 l4 l5 l6 l7 s = some (r, sF) → V X (cX9_isNetwork, RX9, 9, 2, 42, false) (vRet sF (some (.int r)) (some .boolean)) sF s (G0 X 29 ls [])) (a0 : Nat) (l1 : Int32) (l2 : Int32) (l3 : Int32) (l4 : Int32) (l6 : Int32) (l7 : Int32) (k0 : Int32) (k1 : Int32) (s : vS) (ls : Array Slot) (hl : lv_has ls 9 [(0, .ref (xb X + a0)), (1, .int l1), (2, .int l2), (3, .int l3), (4, .int l4), (6, .int l6), (7, .int l7)]) (h : J_X9_isNetwork_148 N k29 a0 l1 l2 l3 l4 l6 l7 k0 k1 s = some (r, sF)) : V X (cX9_isNetwork, RX9, 9, 2, 42, false) (vRet sF (some (.int r)) (some .boolean)) sF s (G0 X 148 ls [.int k1, .int k0]) := by
  unfold J_X9_isNetwork_148 at h
  refine v_ior dX9_isNetwork_148 ?_
  refine v_nmI h (fun l5_12 h => ?_)
  refine v_istore [(5, .int l5_12), (0, .ref (xb X + a0)), (1, .int l1), (2, .int l2), (3, .int l3), (4, .int l4), (6, .int l6), (7, .int l7)] dX9_isNetwork_149 hl (by decide) rfl (fun ls hl => ?_)
  exact L_X9_isNetwork_151 N k29 hk29 a0 l1 l2 l3 l4 l5_12 l6 l7 s ls (lv_sub hl [1, 2, 3, 4, 5, 0, 6, 7] rfl) h
set_option maxHeartbeats 4000000 in
set_option maxRecDepth 100000 in
theorem L_X9_isNetwork_126 {X : VX} {sF : vS} {r : Int32} (N : Nat) (k29 : Nat → Int32 → Int32 → Int32 → Int32 → Int32 → Int32 → Int32 → vS → Option (Int32 × vS)) (hk29 : ∀ (a0 : Nat) (l1 : Int32) (l2 : Int32) (l3 : Int32) (l4 : Int32) (l5 : Int32) (l6 : Int32) (l7 : Int32) (s : vS) (ls : Array Slot), lv_has ls 9 [(0, .ref (xb X + a0)), (1, .int l1), (2, .int l2), (3, .int l3), (4, .int l4), (5, .int l5), (6, .int l6), (7, .int l7)] → k29 a0 l1 l2 l3 l4 l5 l6 l7 s = some (r, sF) → V X (cX9_isNetwork, RX9, 9, 2, 42, false) (vRet sF (some (.int r)) (some .boolean)) sF s (G0 X 29 ls [])) (a0 : Nat) (l1 : Int32) (l2 : Int32) (l3 : Int32) (l4 : Int32) (l5 : Int32) (l6 : Int32) (l8 : Int32) (k0 : Int32) (s : vS) (ls : Array Slot) (hl : lv_has ls 9 [(0, .ref (xb X + a0)), (1, .int l1), (2, .int l2), (3, .int l3), (4, .int l4), (5, .int l5), (6, .int l6), (8, .int l8)]) (h : J_X9_isNetwork_126 N k29 a0 l1 l2 l3 l4 l5 l6 l8 k0 s = some (r, sF)) : V X (cX9_isNetwork, RX9, 9, 2, 42, false) (vRet sF (some (.int r)) (some .boolean)) sF s (G0 X 126 ls [.int k0]) := by
  unfold J_X9_isNetwork_126 at h
  refine v_istore [(7, .int k0), (0, .ref (xb X + a0)), (1, .int l1), (2, .int l2), (3, .int l3), (4, .int l4), (5, .int l5), (6, .int l6), (8, .int l8)] dX9_isNetwork_126 hl (by decide) rfl (fun ls hl => ?_)
  refine v_iload dX9_isNetwork_128 (lv_at hl 6 rfl) ?_
  refine v_iload dX9_isNetwork_130 (lv_at hl 0 rfl) ?_
  refine v_if_eq 147 dX9_isNetwork_132 (by decide) h (fun h => ?_) (fun h => ?_)
  · refine v_iconst (0 : Int32) dX9_isNetwork_147 (by decide) ?_
    exact L_X9_isNetwork_148 N k29 hk29 a0 l1 l2 l3 l4 l6 k0 l5 (0 : Int32) s ls (lv_sub hl [1, 2, 3, 4, 5, 7, 0] rfl) h
  · refine v_iconst (1 : Int32) dX9_isNetwork_135 (by decide) ?_
    refine v_iload dX9_isNetwork_136 (lv_at hl 7 rfl) ?_
    refine v_iload dX9_isNetwork_138 (lv_at hl 8 rfl) ?_
    refine k_X9_bit h qmX9_9 (by decide) hl.1 (Nat.le_of_ble_eq_true rfl) dX9_isNetwork_140 (fun v7 s h => ?_)
    refine v_ishl dX9_isNetwork_143 ?_
    refine v_goto 148 dX9_isNetwork_144 (by decide) ?_
    exact L_X9_isNetwork_148 N k29 hk29 a0 l1 l2 l3 l4 l6 k0 l5 ((1 : Int32) <<< (v7 &&& 31)) s ls (lv_sub hl [1, 2, 3, 4, 5, 7, 0] rfl) h
set_option maxHeartbeats 4000000 in
set_option maxRecDepth 100000 in
theorem L_X9_isNetwork_125 {X : VX} {sF : vS} {r : Int32} (N : Nat) (k29 : Nat → Int32 → Int32 → Int32 → Int32 → Int32 → Int32 → Int32 → vS → Option (Int32 × vS)) (hk29 : ∀ (a0 : Nat) (l1 : Int32) (l2 : Int32) (l3 : Int32) (l4 : Int32) (l5 : Int32) (l6 : Int32) (l7 : Int32) (s : vS) (ls : Array Slot), lv_has ls 9 [(0, .ref (xb X + a0)), (1, .int l1), (2, .int l2), (3, .int l3), (4, .int l4), (5, .int l5), (6, .int l6), (7, .int l7)] → k29 a0 l1 l2 l3 l4 l5 l6 l7 s = some (r, sF) → V X (cX9_isNetwork, RX9, 9, 2, 42, false) (vRet sF (some (.int r)) (some .boolean)) sF s (G0 X 29 ls [])) (a0 : Nat) (l1 : Int32) (l2 : Int32) (l3 : Int32) (l4 : Int32) (l5 : Int32) (l6 : Int32) (l8 : Int32) (s : vS) (ls : Array Slot) (hl : lv_has ls 9 [(0, .ref (xb X + a0)), (1, .int l1), (2, .int l2), (3, .int l3), (4, .int l4), (5, .int l5), (6, .int l6), (8, .int l8)]) (h : J_X9_isNetwork_125 N k29 a0 l1 l2 l3 l4 l5 l6 l8 s = some (r, sF)) : V X (cX9_isNetwork, RX9, 9, 2, 42, false) (vRet sF (some (.int r)) (some .boolean)) sF s (G0 X 125 ls []) := by
  unfold J_X9_isNetwork_125 at h
  refine v_iconst (0 : Int32) dX9_isNetwork_125 (by decide) ?_
  exact L_X9_isNetwork_126 N k29 hk29 a0 l1 l2 l3 l4 l5 l6 l8 (0 : Int32) s ls (lv_sub hl [0, 1, 2, 3, 4, 5, 6, 7] rfl) h
set_option maxHeartbeats 4000000 in
set_option maxRecDepth 100000 in
theorem L_X9_isNetwork_72 {X : VX} {sF : vS} {r : Int32} (N : Nat) (k29 : Nat → Int32 → Int32 → Int32 → Int32 → Int32 → Int32 → Int32 → vS → Option (Int32 × vS)) (hk29 : ∀ (a0 : Nat) (l1 : Int32) (l2 : Int32) (l3 : Int32) (l4 : Int32) (l5 : Int32) (l6 : Int32) (l7 : Int32) (s : vS) (ls : Array Slot), lv_has ls 9 [(0, .ref (xb X + a0)), (1, .int l1), (2, .int l2), (3, .int l3), (4, .int l4), (5, .int l5), (6, .int l6), (7, .int l7)] → k29 a0 l1 l2 l3 l4 l5 l6 l7 s = some (r, sF) → V X (cX9_isNetwork, RX9, 9, 2, 42, false) (vRet sF (some (.int r)) (some .boolean)) sF s (G0 X 29 ls [])) (a0 : Nat) (l1 : Int32) (l2 : Int32) (l3 : Int32) (l4 : Int32) (l5 : Int32) (l6 : Int32) (k0 : Int32) (k1 : Int32) (s : vS) (ls : Array Slot) (hl : lv_has ls 9 [(0, .ref (xb X + a0)), (1, .int l1), (2, .int l2), (3, .int l3), (4, .int l4), (5, .int l5), (6, .int l6)]) (h : J_X9_isNetwork_72 N k29 a0 l1 l2 l3 l4 l5 l6 k0 k1 s = some (r, sF)) : V X (cX9_isNetwork, RX9, 9, 2, 42, false) (vRet sF (some (.int r)) (some .boolean)) sF s (G0 X 72 ls [.int k1, .int k0]) := by
  unfold J_X9_isNetwork_72 at h
  refine v_iconst (4 : Int32) dX9_isNetwork_72 (by decide) ?_
  refine k_X9_in h qmX9_129 (by decide) hl.1 (Nat.le_of_ble_eq_true rfl) dX9_isNetwork_73 (fun v10 s h => ?_)
  refine v_istore [(7, .int v10), (0, .ref (xb X + a0)), (1, .int l1), (2, .int l2), (3, .int l3), (4, .int l4), (5, .int l5), (6, .int l6)] dX9_isNetwork_76 hl (by decide) rfl (fun ls hl => ?_)
  refine v_goto 151 dX9_isNetwork_78 (by decide) ?_
  exact L_X9_isNetwork_151 N k29 hk29 a0 l1 l2 l3 l4 l5 l6 v10 s ls (lv_sub hl [1, 2, 3, 4, 5, 6, 7, 0] rfl) h
set_option maxHeartbeats 4000000 in
set_option maxRecDepth 100000 in
theorem L_X9_isNetwork_29 {X : VX} {sF : vS} {r : Int32} (N : Nat) : ∀ (n : Nat) (a0 : Nat) (l1 : Int32) (l2 : Int32) (l3 : Int32) (l4 : Int32) (l5 : Int32) (l6 : Int32) (l7 : Int32) (s : vS) (ls : Array Slot), lv_has ls 9 [(0, .ref (xb X + a0)), (1, .int l1), (2, .int l2), (3, .int l3), (4, .int l4), (5, .int l5), (6, .int l6), (7, .int l7)] → H_X9_isNetwork_29 N n a0 l1 l2 l3 l4 l5 l6 l7 s = some (r, sF) → V X (cX9_isNetwork, RX9, 9, 2, 42, false) (vRet sF (some (.int r)) (some .boolean)) sF s (G0 X 29 ls []) := by
  intro n
  induction n with
  | zero => intro a0 l1 l2 l3 l4 l5 l6 l7 s ls hl h; cases h
  | succ n ih =>
   intro a0 l1 l2 l3 l4 l5 l6 l7 s ls hl h
   unfold H_X9_isNetwork_29 at h
   refine v_iload_n dX9_isNetwork_29 rfl (lv_at hl 3 rfl) ?_
   refine v_bipush (9 : Int32) dX9_isNetwork_30 (by decide) ?_
   refine v_icmp_ge 167 dX9_isNetwork_32 (by decide) h (fun h => ?_) (fun h => ?_)
   · exact L_X9_isNetwork_167 N a0 l1 l2 l3 l4 l5 l7 s ls (lv_sub hl [0, 1, 2, 3, 4, 5, 7] rfl) h
   · refine v_aload_n dX9_isNetwork_35 rfl (lv_at hl 0 rfl) ?_
     refine k_X9_isFigure h qmX9_263 (by decide) hl.1 (Nat.le_of_ble_eq_true rfl) dX9_isNetwork_36 (fun v3 s h => ?_)
     refine v_if_eq 167 dX9_isNetwork_39 (by decide) h (fun h => ?_) (fun h => ?_)
     · exact L_X9_isNetwork_167 N a0 l1 l2 l3 l4 l5 l7 s ls (lv_sub hl [0, 1, 2, 3, 4, 5, 7] rfl) h
     · refine v_aload_n dX9_isNetwork_42 rfl (lv_at hl 0 rfl) ?_
       refine k_X9_here h qmX9_259 (by decide) hl.1 (Nat.le_of_ble_eq_true rfl) dX9_isNetwork_43 (fun v4 s h => ?_)
       refine v_bipush (48 : Int32) dX9_isNetwork_46 (by decide) ?_
       refine v_isub dX9_isNetwork_48 ?_
       refine v_nmI h (fun l8_5 h => ?_)
       refine v_istore [(8, .int l8_5), (0, .ref (xb X + a0)), (1, .int l1), (2, .int l2), (3, .int l3), (4, .int l4), (5, .int l5), (6, .int l6), (7, .int l7)] dX9_isNetwork_49 hl (by decide) rfl (fun ls hl => ?_)
       refine v_iload_n dX9_isNetwork_51 rfl (lv_at hl 4 rfl) ?_
       refine v_if_ne 81 dX9_isNetwork_52 (by decide) h (fun h => ?_) (fun h => ?_)
       · refine v_iload_n dX9_isNetwork_81 rfl (lv_at hl 4 rfl) ?_
         refine v_iconst (2 : Int32) dX9_isNetwork_82 (by decide) ?_
         refine v_irem dX9_isNetwork_83 h (fun h => ?_)
         refine v_iconst (1 : Int32) dX9_isNetwork_84 (by decide) ?_
         refine v_icmp_ne 95 dX9_isNetwork_85 (by decide) h (fun h => ?_) (fun h => ?_)
         · refine v_iload dX9_isNetwork_95 (lv_at hl 8 rfl) ?_
           refine v_if_eq 125 dX9_isNetwork_97 (by decide) h (fun h => ?_) (fun h => ?_)
           · exact L_X9_isNetwork_125 N (H_X9_isNetwork_29 N n) ih a0 l1 l2 l3 l4 l5 l6 l8_5 s ls (lv_sub hl [1, 2, 3, 4, 5, 6, 7, 0] rfl) h
           · refine v_iload dX9_isNetwork_100 (lv_at hl 0 rfl) ?_
             refine v_iload dX9_isNetwork_102 (lv_at hl 7 rfl) ?_
             refine v_icmp_eq 125 dX9_isNetwork_104 (by decide) h (fun h => ?_) (fun h => ?_)
             · exact L_X9_isNetwork_125 N (H_X9_isNetwork_29 N n) ih a0 l1 l2 l3 l4 l5 l6 l8_5 s ls (lv_sub hl [1, 2, 3, 4, 5, 6, 7, 0] rfl) h
             · refine v_iload dX9_isNetwork_107 (lv_at hl 0 rfl) ?_
               refine v_iload dX9_isNetwork_109 (lv_at hl 5 rfl) ?_
               refine v_icmp_ge 125 dX9_isNetwork_111 (by decide) h (fun h => ?_) (fun h => ?_)
               · exact L_X9_isNetwork_125 N (H_X9_isNetwork_29 N n) ih a0 l1 l2 l3 l4 l5 l6 l8_5 s ls (lv_sub hl [1, 2, 3, 4, 5, 6, 7, 0] rfl) h
               · refine v_iload dX9_isNetwork_114 (lv_at hl 7 rfl) ?_
                 refine v_iload dX9_isNetwork_116 (lv_at hl 5 rfl) ?_
                 refine v_icmp_ge 125 dX9_isNetwork_118 (by decide) h (fun h => ?_) (fun h => ?_)
                 · exact L_X9_isNetwork_125 N (H_X9_isNetwork_29 N n) ih a0 l1 l2 l3 l4 l5 l6 l8_5 s ls (lv_sub hl [1, 2, 3, 4, 5, 6, 7, 0] rfl) h
                 · refine v_iconst (1 : Int32) dX9_isNetwork_121 (by decide) ?_
                   refine v_goto 126 dX9_isNetwork_122 (by decide) ?_
                   exact L_X9_isNetwork_126 N (H_X9_isNetwork_29 N n) ih a0 l1 l2 l3 l4 l5 l6 l8_5 (1 : Int32) s ls (lv_sub hl [1, 2, 3, 4, 5, 6, 7, 0] rfl) h
         · refine v_iload dX9_isNetwork_88 (lv_at hl 0 rfl) ?_
           refine v_istore [(6, .int l8_5), (8, .int l8_5), (0, .ref (xb X + a0)), (1, .int l1), (2, .int l2), (3, .int l3), (4, .int l4), (5, .int l5), (7, .int l7)] dX9_isNetwork_90 hl (by decide) rfl (fun ls hl => ?_)
           refine v_goto 151 dX9_isNetwork_92 (by decide) ?_
           exact L_X9_isNetwork_151 N (H_X9_isNetwork_29 N n) ih a0 l1 l2 l3 l4 l5 l8_5 l7 s ls (lv_sub hl [2, 3, 4, 5, 6, 7, 0, 8] rfl) h
       · refine v_iload dX9_isNetwork_55 (lv_at hl 0 rfl) ?_
         refine v_istore [(4, .int l8_5), (8, .int l8_5), (0, .ref (xb X + a0)), (1, .int l1), (2, .int l2), (3, .int l3), (5, .int l5), (6, .int l6), (7, .int l7)] dX9_isNetwork_57 hl (by decide) rfl (fun ls hl => ?_)
         refine v_iload dX9_isNetwork_59 (lv_at hl 0 rfl) ?_
         refine v_iload_n dX9_isNetwork_61 rfl (lv_at hl 3 rfl) ?_
         refine v_bipush (91 : Int32) dX9_isNetwork_62 (by decide) ?_
         refine v_icmp_ne 71 dX9_isNetwork_64 (by decide) h (fun h => ?_) (fun h => ?_)
         · refine v_iconst (1 : Int32) dX9_isNetwork_71 (by decide) ?_
           exact L_X9_isNetwork_72 N (H_X9_isNetwork_29 N n) ih a0 l1 l2 l3 l8_5 l5 l6 l8_5 (1 : Int32) s ls (lv_sub hl [2, 3, 4, 5, 0, 6, 7] rfl) h
         · refine v_iconst (0 : Int32) dX9_isNetwork_67 (by decide) ?_
           refine v_goto 72 dX9_isNetwork_68 (by decide) ?_
           exact L_X9_isNetwork_72 N (H_X9_isNetwork_29 N n) ih a0 l1 l2 l3 l8_5 l5 l6 l8_5 (0 : Int32) s ls (lv_sub hl [2, 3, 4, 5, 0, 6, 7] rfl) h
theorem vl_X9_isNetwork : vCl yX9_isNetwork cX9_isNetwork 9 (some .boolean) 1 := ⟨qy_X9_isNetwork, qjX9, by decide +kernel, by decide +kernel, by decide +kernel⟩
set_option maxHeartbeats 4000000 in
set_option maxRecDepth 100000 in
theorem c_X9_isNetwork {l : Launch} {D : va_G} {ka : Nat → ClassId} (X0 : VX) (N : Nat) (a0 : Nat) (l1 : Int32) (s sF : vS) (r : Int32) (h : F_X9_isNetwork N a0 l1 s = some (r, sF)) : isO s a0 9 = true ∧ vMet l D ka (xb X0) yX9_isNetwork cX9_isNetwork 9 (some .boolean) 2 42 [.ref (xb X0 + a0), .int l1] s sF (some (.int r)) := by
  unfold F_X9_isNetwork at h
  unfold rcv at h
  obtain ⟨hO, h⟩ := v_chk h
  refine ⟨hO, vMet.of (ini := false) X0 (plainFor_of_name (by decide +kernel)) (Nat.le_of_ble_eq_true rfl) (fun h => by cases h) (fun X ls hb hl => ?_) rfl⟩
  show V X (cX9_isNetwork, RX9, 9, 2, 42, false) (vRet sF (some (.int r)) (some .boolean)) sF s (G0 X 0 ls [])
  rw [← hb] at hl
  have hl : lv_has ls 9 [(0, .ref (xb X + a0)), (1, .int l1)] := hl
  refine v_aload_n dX9_isNetwork_0 rfl (lv_at hl 0 rfl) ?_
  refine v_getI 9 29 h (by decide) (Or.inl rfl) qfX9_256 dX9_isNetwork_1 (fun v1 h => ?_)
  refine v_istore_n [(2, .int v1), (0, .ref (xb X + a0)), (1, .int l1)] dX9_isNetwork_4 rfl hl (by decide) rfl (fun ls hl => ?_)
  refine v_iconst (0 : Int32) dX9_isNetwork_5 (by decide) ?_
  refine v_istore_n [(3, .int (0 : Int32)), (2, .int v1), (0, .ref (xb X + a0)), (1, .int l1)] dX9_isNetwork_6 rfl hl (by decide) rfl (fun ls hl => ?_)
  refine v_iconst (0 : Int32) dX9_isNetwork_7 (by decide) ?_
  refine v_istore [(4, .int (0 : Int32)), (3, .int (0 : Int32)), (2, .int v1), (0, .ref (xb X + a0)), (1, .int l1)] dX9_isNetwork_8 hl (by decide) rfl (fun ls hl => ?_)
  refine v_iconst (0 : Int32) dX9_isNetwork_10 (by decide) ?_
  refine v_istore [(5, .int (0 : Int32)), (4, .int (0 : Int32)), (3, .int (0 : Int32)), (2, .int v1), (0, .ref (xb X + a0)), (1, .int l1)] dX9_isNetwork_11 hl (by decide) rfl (fun ls hl => ?_)
  refine v_iconst (0 : Int32) dX9_isNetwork_13 (by decide) ?_
  refine v_istore [(6, .int (0 : Int32)), (5, .int (0 : Int32)), (4, .int (0 : Int32)), (3, .int (0 : Int32)), (2, .int v1), (0, .ref (xb X + a0)), (1, .int l1)] dX9_isNetwork_14 hl (by decide) rfl (fun ls hl => ?_)
  refine v_iconst (1 : Int32) dX9_isNetwork_16 (by decide) ?_
  refine v_istore [(7, .int (1 : Int32)), (6, .int (0 : Int32)), (5, .int (0 : Int32)), (4, .int (0 : Int32)), (3, .int (0 : Int32)), (2, .int v1), (0, .ref (xb X + a0)), (1, .int l1)] dX9_isNetwork_17 hl (by decide) rfl (fun ls hl => ?_)
  refine v_aload_n dX9_isNetwork_19 rfl (lv_at hl 6 rfl) ?_
  refine v_dup dX9_isNetwork_20 rfl ?_
  refine v_getI 9 29 h (by decide) (Or.inl rfl) qfX9_256 dX9_isNetwork_21 (fun v2 h => ?_)
  refine v_iconst (1 : Int32) dX9_isNetwork_24 (by decide) ?_
  refine v_iadd dX9_isNetwork_25 ?_
  refine v_putI 9 29 h (by decide) rfl (Or.inl rfl) qfX9_256 dX9_isNetwork_26 (fun s h => ?_)
  exact L_X9_isNetwork_29 N N a0 l1 v1 (0 : Int32) (0 : Int32) (0 : Int32) (0 : Int32) (1 : Int32) s ls (lv_sub hl [6, 7, 5, 4, 3, 2, 1, 0] rfl) h
