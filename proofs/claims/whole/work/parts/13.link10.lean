theorem vl_X9_empty : vCl yX9_empty cX9_empty 3 none 1 := ⟨qy_X9_empty, qjX9, by decide +kernel, by decide +kernel, by decide +kernel⟩
set_option maxHeartbeats 4000000 in
set_option maxRecDepth 100000 in
theorem c_X9_empty {l : Launch} {D : va_G} {ka : Nat → ClassId} (X0 : VX) (N : Nat) (a0 : Nat) (l1 : Int32) (s sF : vS) (r : Unit) (h : F_X9_empty N a0 l1 s = some (r, sF)) : isO s a0 9 = true ∧ vMet l D ka (xb X0) yX9_empty cX9_empty 3 none 0 0 [.ref (xb X0 + a0), .int l1] s sF none := by
  unfold F_X9_empty at h
  unfold rcv at h
  obtain ⟨hO, h⟩ := v_chk h
  refine ⟨hO, vMet.of (ini := false) X0 (plainFor_of_name (by decide +kernel)) (Nat.le_of_ble_eq_true rfl) (fun h => by cases h) (fun X ls hb hl => ?_) rfl⟩
  show V X (cX9_empty, RX9, 3, 0, 0, false) (vRet sF none none) sF s (G0 X 0 ls [])
  rw [← hb] at hl
  have hl : lv_has ls 3 [(0, .ref (xb X + a0)), (1, .int l1)] := hl
  refine v_aload_n dX9_empty_0 rfl (lv_at hl 0 rfl) ?_
  refine v_getR 9 10 h (by decide) rfl qfX9_56 dX9_empty_1 (fun r1 h => ?_)
  refine v_iload_n dX9_empty_4 rfl (lv_at hl 1 rfl) ?_
  refine v_iconst (2 : Int32) dX9_empty_5 (by decide) ?_
  refine v_iast dX9_empty_6 h (fun s h => ?_)
  refine v_iconst (0 : Int32) dX9_empty_7 (by decide) ?_
  refine v_istore_n [(2, .int (0 : Int32)), (0, .ref (xb X + a0)), (1, .int l1)] dX9_empty_8 rfl hl (by decide) rfl (fun ls hl => ?_)
  exact L_X9_empty_9 N N a0 l1 (0 : Int32) s ls (lv_sub hl [1, 2, 0] rfl) h
theorem k_X9_empty {X : VX} {cc : ByteArray} {own : String} {nL fr lo : Nat} {ini : Bool} {E : VX → Prop} {sF s : vS} {ρ : Type} {res : ρ} {pc : Nat} {ls : Array Slot} {rest : List Value} {N index : Nat} {a0 : Nat} {l1 : Int32} {f : Unit → vS → Option ρ} (h : bnd (F_X9_empty N a0 l1 s) f = some res) (hlink : Cond.methodLink own index yX9_empty ∈ TT) (hR : 0 + 1 ≤ fr ∧ 8 + (3 + 11) + 0 ≤ lo) (hls : ls.size = nL) (hr : (rest.map fun v => v.category).sum ≤ 8) (hdg : decode cc pc = .ok (.invokevirtual index, 3)) (kk : ∀ r s', f r s' = some res → V X (cc, own, nL, fr, lo, ini) E sF s' (G0 X (pc + 3) ls (rest))) : V X (cc, own, nL, fr, lo, ini) E sF s (G0 X pc ls (.int l1 :: .ref (xb X + a0) :: rest)) := by
  obtain ⟨r, s', e, h⟩ := bnd_some h
  exact v_callV (b := a0) (ci := 9) (As := [.int l1]) (rest := rest) (c_X9_empty X N a0 l1 s s' r e).2 (c_X9_empty (l := xl X) (D := xD X) (ka := xka X) X N a0 l1 s s' r e).1 rfl vl_X9_empty qi_X9_empty qe_X9_empty hlink hR rfl rfl hls hr hdg (kk r s' h)
set_option maxHeartbeats 4000000 in
set_option maxRecDepth 100000 in
theorem L_X9_copy_14 {X : VX} {sF : vS} {r : Unit} (N : Nat) : ∀ (n : Nat) (a0 : Nat) (l1 : Int32) (l2 : Int32) (l3 : Int32) (s : vS) (ls : Array Slot), lv_has ls 4 [(0, .ref (xb X + a0)), (1, .int l1), (2, .int l2), (3, .int l3)] → H_X9_copy_14 N n a0 l1 l2 l3 s = some (r, sF) → V X (cX9_copy, RX9, 4, 0, 0, false) (vRet sF none none) sF s (G0 X 14 ls []) := by
  intro n
  induction n with
  | zero => intro a0 l1 l2 l3 s ls hl h; cases h
  | succ n ih =>
   intro a0 l1 l2 l3 s ls hl h
   unfold H_X9_copy_14 at h
   refine v_iload_n dX9_copy_14 rfl (lv_at hl 3 rfl) ?_
   refine v_bipush (29 : Int32) dX9_copy_15 (by decide) ?_
   refine v_icmp_ge 70 dX9_copy_17 (by decide) h (fun h => ?_) (fun h => ?_)
   · exact v_vret dX9_copy_70 h
   · refine v_aload_n dX9_copy_20 rfl (lv_at hl 0 rfl) ?_
     refine v_getR 9 11 h (by decide) rfl qfX9_59 dX9_copy_21 (fun r4 h => ?_)
     refine v_bipush (29 : Int32) dX9_copy_24 (by decide) ?_
     refine v_iload_n dX9_copy_26 rfl (lv_at hl 2 rfl) ?_
     refine v_imul dX9_copy_27 ?_
     refine v_iload_n dX9_copy_28 rfl (lv_at hl 3 rfl) ?_
     refine v_iadd dX9_copy_29 ?_
     refine v_aload_n dX9_copy_30 rfl (lv_at hl 0 rfl) ?_
     refine v_getR 9 11 h (by decide) rfl qfX9_59 dX9_copy_31 (fun r5 h => ?_)
     refine v_bipush (29 : Int32) dX9_copy_34 (by decide) ?_
     refine v_iload_n dX9_copy_36 rfl (lv_at hl 1 rfl) ?_
     refine v_imul dX9_copy_37 ?_
     refine v_iload_n dX9_copy_38 rfl (lv_at hl 3 rfl) ?_
     refine v_iadd dX9_copy_39 ?_
     refine v_lald dX9_copy_40 h (fun v6 h => ?_)
     refine v_last dX9_copy_41 h (fun s h => ?_)
     refine v_aload_n dX9_copy_42 rfl (lv_at hl 0 rfl) ?_
     refine v_getR 9 12 h (by decide) rfl qfX9_63 dX9_copy_43 (fun r7 h => ?_)
     refine v_bipush (29 : Int32) dX9_copy_46 (by decide) ?_
     refine v_iload_n dX9_copy_48 rfl (lv_at hl 2 rfl) ?_
     refine v_imul dX9_copy_49 ?_
     refine v_iload_n dX9_copy_50 rfl (lv_at hl 3 rfl) ?_
     refine v_iadd dX9_copy_51 ?_
     refine v_aload_n dX9_copy_52 rfl (lv_at hl 0 rfl) ?_
     refine v_getR 9 12 h (by decide) rfl qfX9_63 dX9_copy_53 (fun r8 h => ?_)
     refine v_bipush (29 : Int32) dX9_copy_56 (by decide) ?_
     refine v_iload_n dX9_copy_58 rfl (lv_at hl 1 rfl) ?_
     refine v_imul dX9_copy_59 ?_
     refine v_iload_n dX9_copy_60 rfl (lv_at hl 3 rfl) ?_
     refine v_iadd dX9_copy_61 ?_
     refine v_lald dX9_copy_62 h (fun v9 h => ?_)
     refine v_last dX9_copy_63 h (fun s h => ?_)
     refine v_inc (fun z => [(3, .int z), (0, .ref (xb X + a0)), (1, .int l1), (2, .int l2)]) dX9_copy_64 h hl (k := 3) rfl (by rfl) (by decide) (fun _ => rfl) (fun l3_10 ls hl h => ?_)
     refine v_goto 14 dX9_copy_67 (by decide) ?_
     exact ih a0 l1 l2 l3_10 s ls (lv_sub hl [1, 2, 3, 0] rfl) h
theorem vl_X9_copy : vCl yX9_copy cX9_copy 4 none 2 := ⟨qy_X9_copy, qjX9, by decide +kernel, by decide +kernel, by decide +kernel⟩
set_option maxHeartbeats 4000000 in
set_option maxRecDepth 100000 in
theorem c_X9_copy {l : Launch} {D : va_G} {ka : Nat → ClassId} (X0 : VX) (N : Nat) (a0 : Nat) (l1 : Int32) (l2 : Int32) (s sF : vS) (r : Unit) (h : F_X9_copy N a0 l1 l2 s = some (r, sF)) : isO s a0 9 = true ∧ vMet l D ka (xb X0) yX9_copy cX9_copy 4 none 0 0 [.ref (xb X0 + a0), .int l1, .int l2] s sF none := by
  unfold F_X9_copy at h
  unfold rcv at h
  obtain ⟨hO, h⟩ := v_chk h
  refine ⟨hO, vMet.of (ini := false) X0 (plainFor_of_name (by decide +kernel)) (Nat.le_of_ble_eq_true rfl) (fun h => by cases h) (fun X ls hb hl => ?_) rfl⟩
  show V X (cX9_copy, RX9, 4, 0, 0, false) (vRet sF none none) sF s (G0 X 0 ls [])
  rw [← hb] at hl
  have hl : lv_has ls 4 [(0, .ref (xb X + a0)), (1, .int l1), (2, .int l2)] := hl
  refine v_aload_n dX9_copy_0 rfl (lv_at hl 0 rfl) ?_
  refine v_getR 9 10 h (by decide) rfl qfX9_56 dX9_copy_1 (fun r1 h => ?_)
  refine v_iload_n dX9_copy_4 rfl (lv_at hl 2 rfl) ?_
  refine v_aload_n dX9_copy_5 rfl (lv_at hl 0 rfl) ?_
  refine v_getR 9 10 h (by decide) rfl qfX9_56 dX9_copy_6 (fun r2 h => ?_)
  refine v_iload_n dX9_copy_9 rfl (lv_at hl 1 rfl) ?_
  refine v_iald dX9_copy_10 h (fun v3 h => ?_)
  refine v_iast dX9_copy_11 h (fun s h => ?_)
  refine v_iconst (0 : Int32) dX9_copy_12 (by decide) ?_
  refine v_istore_n [(3, .int (0 : Int32)), (0, .ref (xb X + a0)), (1, .int l1), (2, .int l2)] dX9_copy_13 rfl hl (by decide) rfl (fun ls hl => ?_)
  exact L_X9_copy_14 N N a0 l1 l2 (0 : Int32) s ls (lv_sub hl [1, 2, 3, 0] rfl) h
theorem k_X9_copy {X : VX} {cc : ByteArray} {own : String} {nL fr lo : Nat} {ini : Bool} {E : VX → Prop} {sF s : vS} {ρ : Type} {res : ρ} {pc : Nat} {ls : Array Slot} {rest : List Value} {N index : Nat} {a0 : Nat} {l1 : Int32} {l2 : Int32} {f : Unit → vS → Option ρ} (h : bnd (F_X9_copy N a0 l1 l2 s) f = some res) (hlink : Cond.methodLink own index yX9_copy ∈ TT) (hR : 0 + 1 ≤ fr ∧ 8 + (4 + 11) + 0 ≤ lo) (hls : ls.size = nL) (hr : (rest.map fun v => v.category).sum ≤ 8) (hdg : decode cc pc = .ok (.invokevirtual index, 3)) (kk : ∀ r s', f r s' = some res → V X (cc, own, nL, fr, lo, ini) E sF s' (G0 X (pc + 3) ls (rest))) : V X (cc, own, nL, fr, lo, ini) E sF s (G0 X pc ls (.int l2 :: .int l1 :: .ref (xb X + a0) :: rest)) := by
  obtain ⟨r, s', e, h⟩ := bnd_some h
  exact v_callV (b := a0) (ci := 9) (As := [.int l1, .int l2]) (rest := rest) (c_X9_copy X N a0 l1 l2 s s' r e).2 (c_X9_copy (l := xl X) (D := xD X) (ka := xka X) X N a0 l1 l2 s s' r e).1 rfl vl_X9_copy qi_X9_copy qe_X9_copy hlink hR rfl rfl hls hr hdg (kk r s' h)
set_option maxHeartbeats 4000000 in
set_option maxRecDepth 100000 in
theorem L_X9_isTerm_21 {X : VX} {sF : vS} {r : Int32} (N : Nat) (k0 : Int32) (s : vS) (ls : Array Slot) (hl : lv_has ls 3 []) (h : J_X9_isTerm_21 N k0 s = some (r, sF)) : V X (cX9_isTerm, RX9, 3, 0, 0, false) (vRet sF (some (.int r)) (some .boolean)) sF s (G0 X 21 ls [.int k0]) := by
  unfold J_X9_isTerm_21 at h
  exact v_zret dX9_isTerm_21 h
theorem vl_X9_isTerm : vCl yX9_isTerm cX9_isTerm 3 (some .boolean) 2 := ⟨qy_X9_isTerm, qjX9, by decide +kernel, by decide +kernel, by decide +kernel⟩
set_option maxHeartbeats 4000000 in
set_option maxRecDepth 100000 in
theorem c_X9_isTerm {l : Launch} {D : va_G} {ka : Nat → ClassId} (X0 : VX) (N : Nat) (a0 : Nat) (l1 : Int32) (l2 : Int32) (s sF : vS) (r : Int32) (h : F_X9_isTerm N a0 l1 l2 s = some (r, sF)) : isO s a0 9 = true ∧ vMet l D ka (xb X0) yX9_isTerm cX9_isTerm 3 (some .boolean) 0 0 [.ref (xb X0 + a0), .int l1, .int l2] s sF (some (.int r)) := by
  unfold F_X9_isTerm at h
  unfold rcv at h
  obtain ⟨hO, h⟩ := v_chk h
  refine ⟨hO, vMet.of (ini := false) X0 (plainFor_of_name (by decide +kernel)) (Nat.le_of_ble_eq_true rfl) (fun h => by cases h) (fun X ls hb hl => ?_) rfl⟩
  show V X (cX9_isTerm, RX9, 3, 0, 0, false) (vRet sF (some (.int r)) (some .boolean)) sF s (G0 X 0 ls [])
  rw [← hb] at hl
  have hl : lv_has ls 3 [(0, .ref (xb X + a0)), (1, .int l1), (2, .int l2)] := hl
  refine v_aload_n dX9_isTerm_0 rfl (lv_at hl 0 rfl) ?_
  refine v_getR 9 11 h (by decide) rfl qfX9_59 dX9_isTerm_1 (fun r1 h => ?_)
  refine v_bipush (29 : Int32) dX9_isTerm_4 (by decide) ?_
  refine v_iload_n dX9_isTerm_6 rfl (lv_at hl 1 rfl) ?_
  refine v_imul dX9_isTerm_7 ?_
  refine v_iload_n dX9_isTerm_8 rfl (lv_at hl 2 rfl) ?_
  refine v_iadd dX9_isTerm_9 ?_
  refine v_lald dX9_isTerm_10 h (fun v2 h => ?_)
  refine v_lconst (0 : Int64) dX9_isTerm_11 (by decide) ?_
  refine v_lcmp dX9_isTerm_12 ?_
  refine v_if_eq 20 dX9_isTerm_13 (by decide) h (fun h => ?_) (fun h => ?_)
  · refine v_iconst (0 : Int32) dX9_isTerm_20 (by decide) ?_
    exact L_X9_isTerm_21 N (0 : Int32) s ls (lv_sub hl [] rfl) h
  · refine v_iconst (1 : Int32) dX9_isTerm_16 (by decide) ?_
    refine v_goto 21 dX9_isTerm_17 (by decide) ?_
    exact L_X9_isTerm_21 N (1 : Int32) s ls (lv_sub hl [] rfl) h
theorem k_X9_isTerm {X : VX} {cc : ByteArray} {own : String} {nL fr lo : Nat} {ini : Bool} {E : VX → Prop} {sF s : vS} {ρ : Type} {res : ρ} {pc : Nat} {ls : Array Slot} {rest : List Value} {N index : Nat} {a0 : Nat} {l1 : Int32} {l2 : Int32} {f : Int32 → vS → Option ρ} (h : bnd (F_X9_isTerm N a0 l1 l2 s) f = some res) (hlink : Cond.methodLink own index yX9_isTerm ∈ TT) (hR : 0 + 1 ≤ fr ∧ 8 + (3 + 11) + 0 ≤ lo) (hls : ls.size = nL) (hr : (rest.map fun v => v.category).sum ≤ 8) (hdg : decode cc pc = .ok (.invokevirtual index, 3)) (kk : ∀ r s', f r s' = some res → V X (cc, own, nL, fr, lo, ini) E sF s' (G0 X (pc + 3) ls (.int r :: rest))) : V X (cc, own, nL, fr, lo, ini) E sF s (G0 X pc ls (.int l2 :: .int l1 :: .ref (xb X + a0) :: rest)) := by
  obtain ⟨r, s', e, h⟩ := bnd_some h
  exact v_callV (b := a0) (ci := 9) (As := [.int l1, .int l2]) (rest := rest) (c_X9_isTerm X N a0 l1 l2 s s' r e).2 (c_X9_isTerm (l := xl X) (D := xD X) (ka := xka X) X N a0 l1 l2 s s' r e).1 rfl vl_X9_isTerm qi_X9_isTerm qe_X9_isTerm hlink hR rfl rfl hls hr hdg (kk r s' h)
set_option maxHeartbeats 4000000 in
set_option maxRecDepth 100000 in
theorem L_X9_terms_25 {X : VX} {sF : vS} {r : Int32} (N : Nat) (k4 : Nat → Int32 → Int32 → Int32 → vS → Option (Int32 × vS)) (hk4 : ∀ (a0 : Nat) (l1 : Int32) (l2 : Int32) (l3 : Int32) (s : vS) (ls : Array Slot), lv_has ls 4 [(0, .ref (xb X + a0)), (1, .int l1), (2, .int l2), (3, .int l3)] → k4 a0 l1 l2 l3 s = some (r, sF) → V X (cX9_terms, RX9, 4, 1, 22, false) (vRet sF (some (.int r)) (some .int)) sF s (G0 X 4 ls [])) (a0 : Nat) (l1 : Int32) (l3 : Int32) (k0 : Int32) (k1 : Int32) (s : vS) (ls : Array Slot) (hl : lv_has ls 4 [(0, .ref (xb X + a0)), (1, .int l1), (3, .int l3)]) (h : J_X9_terms_25 N k4 a0 l1 l3 k0 k1 s = some (r, sF)) : V X (cX9_terms, RX9, 4, 1, 22, false) (vRet sF (some (.int r)) (some .int)) sF s (G0 X 25 ls [.int k1, .int k0]) := by
  unfold J_X9_terms_25 at h
  refine v_iadd dX9_terms_25 ?_
  refine v_nmI h (fun l2_2 h => ?_)
  refine v_istore_n [(2, .int l2_2), (0, .ref (xb X + a0)), (1, .int l1), (3, .int l3)] dX9_terms_26 rfl hl (by decide) rfl (fun ls hl => ?_)
  refine v_inc (fun z => [(3, .int z), (2, .int l2_2), (0, .ref (xb X + a0)), (1, .int l1)]) dX9_terms_27 h hl (k := 3) rfl (by rfl) (by decide) (fun _ => rfl) (fun l3_3 ls hl h => ?_)
  refine v_goto 4 dX9_terms_30 (by decide) ?_
  exact hk4 a0 l1 l2_2 l3_3 s ls (lv_sub hl [2, 3, 1, 0] rfl) h
set_option maxHeartbeats 4000000 in
set_option maxRecDepth 100000 in
theorem L_X9_terms_4 {X : VX} {sF : vS} {r : Int32} (N : Nat) : ∀ (n : Nat) (a0 : Nat) (l1 : Int32) (l2 : Int32) (l3 : Int32) (s : vS) (ls : Array Slot), lv_has ls 4 [(0, .ref (xb X + a0)), (1, .int l1), (2, .int l2), (3, .int l3)] → H_X9_terms_4 N n a0 l1 l2 l3 s = some (r, sF) → V X (cX9_terms, RX9, 4, 1, 22, false) (vRet sF (some (.int r)) (some .int)) sF s (G0 X 4 ls []) := by
  intro n
  induction n with
  | zero => intro a0 l1 l2 l3 s ls hl h; cases h
  | succ n ih =>
   intro a0 l1 l2 l3 s ls hl h
   unfold H_X9_terms_4 at h
   refine v_iload_n dX9_terms_4 rfl (lv_at hl 3 rfl) ?_
   refine v_bipush (29 : Int32) dX9_terms_5 (by decide) ?_
   refine v_icmp_ge 33 dX9_terms_7 (by decide) h (fun h => ?_) (fun h => ?_)
   · refine v_iload_n dX9_terms_33 rfl (lv_at hl 2 rfl) ?_
     exact v_iret dX9_terms_34 h
   · refine v_iload_n dX9_terms_10 rfl (lv_at hl 2 rfl) ?_
     refine v_aload_n dX9_terms_11 rfl (lv_at hl 0 rfl) ?_
     refine v_iload_n dX9_terms_12 rfl (lv_at hl 1 rfl) ?_
     refine v_iload_n dX9_terms_13 rfl (lv_at hl 3 rfl) ?_
     refine k_X9_isTerm h qmX9_179 (by decide) hl.1 (Nat.le_of_ble_eq_true rfl) dX9_terms_14 (fun v1 s h => ?_)
     refine v_if_eq 24 dX9_terms_17 (by decide) h (fun h => ?_) (fun h => ?_)
     · refine v_iconst (0 : Int32) dX9_terms_24 (by decide) ?_
       exact L_X9_terms_25 N (H_X9_terms_4 N n) ih a0 l1 l3 l2 (0 : Int32) s ls (lv_sub hl [0, 1, 3] rfl) h
     · refine v_iconst (1 : Int32) dX9_terms_20 (by decide) ?_
       refine v_goto 25 dX9_terms_21 (by decide) ?_
       exact L_X9_terms_25 N (H_X9_terms_4 N n) ih a0 l1 l3 l2 (1 : Int32) s ls (lv_sub hl [0, 1, 3] rfl) h
theorem vl_X9_terms : vCl yX9_terms cX9_terms 4 (some .int) 1 := ⟨qy_X9_terms, qjX9, by decide +kernel, by decide +kernel, by decide +kernel⟩
set_option maxHeartbeats 4000000 in
set_option maxRecDepth 100000 in
theorem c_X9_terms {l : Launch} {D : va_G} {ka : Nat → ClassId} (X0 : VX) (N : Nat) (a0 : Nat) (l1 : Int32) (s sF : vS) (r : Int32) (h : F_X9_terms N a0 l1 s = some (r, sF)) : isO s a0 9 = true ∧ vMet l D ka (xb X0) yX9_terms cX9_terms 4 (some .int) 1 22 [.ref (xb X0 + a0), .int l1] s sF (some (.int r)) := by
  unfold F_X9_terms at h
  unfold rcv at h
  obtain ⟨hO, h⟩ := v_chk h
  refine ⟨hO, vMet.of (ini := false) X0 (plainFor_of_name (by decide +kernel)) (Nat.le_of_ble_eq_true rfl) (fun h => by cases h) (fun X ls hb hl => ?_) rfl⟩
  show V X (cX9_terms, RX9, 4, 1, 22, false) (vRet sF (some (.int r)) (some .int)) sF s (G0 X 0 ls [])
  rw [← hb] at hl
  have hl : lv_has ls 4 [(0, .ref (xb X + a0)), (1, .int l1)] := hl
  refine v_iconst (0 : Int32) dX9_terms_0 (by decide) ?_
  refine v_istore_n [(2, .int (0 : Int32)), (0, .ref (xb X + a0)), (1, .int l1)] dX9_terms_1 rfl hl (by decide) rfl (fun ls hl => ?_)
  refine v_iconst (0 : Int32) dX9_terms_2 (by decide) ?_
  refine v_istore_n [(3, .int (0 : Int32)), (2, .int (0 : Int32)), (0, .ref (xb X + a0)), (1, .int l1)] dX9_terms_3 rfl hl (by decide) rfl (fun ls hl => ?_)
  exact L_X9_terms_4 N N a0 l1 (0 : Int32) (0 : Int32) s ls (lv_sub hl [2, 3, 1, 0] rfl) h
theorem k_X9_terms {X : VX} {cc : ByteArray} {own : String} {nL fr lo : Nat} {ini : Bool} {E : VX → Prop} {sF s : vS} {ρ : Type} {res : ρ} {pc : Nat} {ls : Array Slot} {rest : List Value} {N index : Nat} {a0 : Nat} {l1 : Int32} {f : Int32 → vS → Option ρ} (h : bnd (F_X9_terms N a0 l1 s) f = some res) (hlink : Cond.methodLink own index yX9_terms ∈ TT) (hR : 1 + 1 ≤ fr ∧ 8 + (4 + 11) + 22 ≤ lo) (hls : ls.size = nL) (hr : (rest.map fun v => v.category).sum ≤ 8) (hdg : decode cc pc = .ok (.invokevirtual index, 3)) (kk : ∀ r s', f r s' = some res → V X (cc, own, nL, fr, lo, ini) E sF s' (G0 X (pc + 3) ls (.int r :: rest))) : V X (cc, own, nL, fr, lo, ini) E sF s (G0 X pc ls (.int l1 :: .ref (xb X + a0) :: rest)) := by
  obtain ⟨r, s', e, h⟩ := bnd_some h
  exact v_callV (b := a0) (ci := 9) (As := [.int l1]) (rest := rest) (c_X9_terms X N a0 l1 s s' r e).2 (c_X9_terms (l := xl X) (D := xD X) (ka := xka X) X N a0 l1 s s' r e).1 rfl vl_X9_terms qi_X9_terms qe_X9_terms hlink hR rfl rfl hls hr hdg (kk r s' h)
set_option maxHeartbeats 4000000 in
set_option maxRecDepth 100000 in
theorem L_X9_sizeBy_17 {X : VX} {sF : vS} {r : Int32} (N : Nat) (k0 : Int32) (s : vS) (ls : Array Slot) (hl : lv_has ls 3 []) (h : J_X9_sizeBy_17 N k0 s = some (r, sF)) : V X (cX9_sizeBy, RX9, 3, 0, 0, false) (vRet sF (some (.int r)) (some .int)) sF s (G0 X 17 ls [.int k0]) := by
  unfold J_X9_sizeBy_17 at h
  exact v_iret dX9_sizeBy_17 h
theorem vl_X9_sizeBy : vCl yX9_sizeBy cX9_sizeBy 3 (some .int) 3 := ⟨qy_X9_sizeBy, qjX9, by decide +kernel, by decide +kernel, by decide +kernel⟩
set_option maxHeartbeats 4000000 in
set_option maxRecDepth 100000 in
theorem c_X9_sizeBy {l : Launch} {D : va_G} {ka : Nat → ClassId} (X0 : VX) (N : Nat) (a0 : Nat) (l1 : Int32) (l2 : Int32) (s sF : vS) (r : Int32) (h : F_X9_sizeBy N a0 l1 l2 s = some (r, sF)) : vMet l D ka (xb X0) yX9_sizeBy cX9_sizeBy 3 (some .int) 0 0 [.ref (xb X0 + a0), .int l1, .int l2] s sF (some (.int r)) := by
  unfold F_X9_sizeBy at h
  refine vMet.of (ini := false) X0 (plainFor_of_name (by decide +kernel)) (Nat.le_of_ble_eq_true rfl) (fun h => by cases h) (fun X ls hb hl => ?_) rfl
  show V X (cX9_sizeBy, RX9, 3, 0, 0, false) (vRet sF (some (.int r)) (some .int)) sF s (G0 X 0 ls [])
  rw [← hb] at hl
  have hl : lv_has ls 3 [(0, .ref (xb X + a0)), (1, .int l1), (2, .int l2)] := hl
  refine v_iload_n dX9_sizeBy_0 rfl (lv_at hl 1 rfl) ?_
  refine v_iconst (1 : Int32) dX9_sizeBy_1 (by decide) ?_
  refine v_icmp_ne 14 dX9_sizeBy_2 (by decide) h (fun h => ?_) (fun h => ?_)
  · refine v_aload_n dX9_sizeBy_14 rfl (lv_at hl 0 rfl) ?_
    refine v_iload_n dX9_sizeBy_15 rfl (lv_at hl 2 rfl) ?_
    refine v_iald dX9_sizeBy_16 h (fun v1 h => ?_)
    exact L_X9_sizeBy_17 N v1 s ls (lv_sub hl [] rfl) h
  · refine v_aload_n dX9_sizeBy_5 rfl (lv_at hl 0 rfl) ?_
    refine v_bipush (19 : Int32) dX9_sizeBy_6 (by decide) ?_
    refine v_iload_n dX9_sizeBy_8 rfl (lv_at hl 2 rfl) ?_
    refine v_iadd dX9_sizeBy_9 ?_
    refine v_iald dX9_sizeBy_10 h (fun v2 h => ?_)
    refine v_goto 17 dX9_sizeBy_11 (by decide) ?_
    exact L_X9_sizeBy_17 N v2 s ls (lv_sub hl [] rfl) h
theorem k_X9_sizeBy {X : VX} {cc : ByteArray} {own : String} {nL fr lo : Nat} {ini : Bool} {E : VX → Prop} {sF s : vS} {ρ : Type} {res : ρ} {pc : Nat} {ls : Array Slot} {rest : List Value} {N index : Nat} {a0 : Nat} {l1 : Int32} {l2 : Int32} {f : Int32 → vS → Option ρ} (h : bnd (F_X9_sizeBy N a0 l1 l2 s) f = some res) (hlink : Cond.methodLink own index yX9_sizeBy ∈ TT) (hR : 0 + 1 ≤ fr ∧ 8 + (3 + 11) + 0 ≤ lo) (hls : ls.size = nL) (hr : (rest.map fun v => v.category).sum ≤ 8) (hdg : decode cc pc = .ok (.invokestatic index, 3)) (kk : ∀ r s', f r s' = some res → V X (cc, own, nL, fr, lo, ini) E sF s' (G0 X (pc + 3) ls (.int r :: rest))) : V X (cc, own, nL, fr, lo, ini) E sF s (G0 X pc ls (.int l2 :: .int l1 :: .ref (xb X + a0) :: rest)) := by
  obtain ⟨r, s', e, h⟩ := bnd_some h
  exact v_callS (As := [.ref (xb X + a0), .int l1, .int l2]) (rest := rest) (c_X9_sizeBy X N a0 l1 l2 s s' r e) vl_X9_sizeBy qs_X9_sizeBy hlink hR rfl rfl hls hr hdg (kk r s' h)
set_option maxHeartbeats 4000000 in
set_option maxRecDepth 100000 in
theorem L_X9_areUnlike_22 {X : VX} {sF : vS} {r : Int32} (N : Nat) (k0 : Int32) (s : vS) (ls : Array Slot) (hl : lv_has ls 3 []) (h : J_X9_areUnlike_22 N k0 s = some (r, sF)) : V X (cX9_areUnlike, RX9, 3, 0, 0, false) (vRet sF (some (.int r)) (some .boolean)) sF s (G0 X 22 ls [.int k0]) := by
  unfold J_X9_areUnlike_22 at h
  exact v_zret dX9_areUnlike_22 h
theorem vl_X9_areUnlike : vCl yX9_areUnlike cX9_areUnlike 3 (some .boolean) 2 := ⟨qy_X9_areUnlike, qjX9, by decide +kernel, by decide +kernel, by decide +kernel⟩
set_option maxHeartbeats 4000000 in
set_option maxRecDepth 100000 in
theorem c_X9_areUnlike {l : Launch} {D : va_G} {ka : Nat → ClassId} (X0 : VX) (N : Nat) (a0 : Nat) (l1 : Int32) (l2 : Int32) (s sF : vS) (r : Int32) (h : F_X9_areUnlike N a0 l1 l2 s = some (r, sF)) : isO s a0 9 = true ∧ vMet l D ka (xb X0) yX9_areUnlike cX9_areUnlike 3 (some .boolean) 0 0 [.ref (xb X0 + a0), .int l1, .int l2] s sF (some (.int r)) := by
  unfold F_X9_areUnlike at h
  unfold rcv at h
  obtain ⟨hO, h⟩ := v_chk h
  refine ⟨hO, vMet.of (ini := false) X0 (plainFor_of_name (by decide +kernel)) (Nat.le_of_ble_eq_true rfl) (fun h => by cases h) (fun X ls hb hl => ?_) rfl⟩
  show V X (cX9_areUnlike, RX9, 3, 0, 0, false) (vRet sF (some (.int r)) (some .boolean)) sF s (G0 X 0 ls [])
  rw [← hb] at hl
  have hl : lv_has ls 3 [(0, .ref (xb X + a0)), (1, .int l1), (2, .int l2)] := hl
  refine v_aload_n dX9_areUnlike_0 rfl (lv_at hl 0 rfl) ?_
  refine v_getR 9 10 h (by decide) rfl qfX9_56 dX9_areUnlike_1 (fun r1 h => ?_)
  refine v_iload_n dX9_areUnlike_4 rfl (lv_at hl 1 rfl) ?_
  refine v_iald dX9_areUnlike_5 h (fun v2 h => ?_)
  refine v_aload_n dX9_areUnlike_6 rfl (lv_at hl 0 rfl) ?_
  refine v_getR 9 10 h (by decide) rfl qfX9_56 dX9_areUnlike_7 (fun r3 h => ?_)
  refine v_iload_n dX9_areUnlike_10 rfl (lv_at hl 2 rfl) ?_
  refine v_iald dX9_areUnlike_11 h (fun v4 h => ?_)
  refine v_iadd dX9_areUnlike_12 ?_
  refine v_iconst (1 : Int32) dX9_areUnlike_13 (by decide) ?_
  refine v_icmp_ne 21 dX9_areUnlike_14 (by decide) h (fun h => ?_) (fun h => ?_)
  · refine v_iconst (0 : Int32) dX9_areUnlike_21 (by decide) ?_
    exact L_X9_areUnlike_22 N (0 : Int32) s ls (lv_sub hl [] rfl) h
  · refine v_iconst (1 : Int32) dX9_areUnlike_17 (by decide) ?_
    refine v_goto 22 dX9_areUnlike_18 (by decide) ?_
    exact L_X9_areUnlike_22 N (1 : Int32) s ls (lv_sub hl [] rfl) h
theorem k_X9_areUnlike {X : VX} {cc : ByteArray} {own : String} {nL fr lo : Nat} {ini : Bool} {E : VX → Prop} {sF s : vS} {ρ : Type} {res : ρ} {pc : Nat} {ls : Array Slot} {rest : List Value} {N index : Nat} {a0 : Nat} {l1 : Int32} {l2 : Int32} {f : Int32 → vS → Option ρ} (h : bnd (F_X9_areUnlike N a0 l1 l2 s) f = some res) (hlink : Cond.methodLink own index yX9_areUnlike ∈ TT) (hR : 0 + 1 ≤ fr ∧ 8 + (3 + 11) + 0 ≤ lo) (hls : ls.size = nL) (hr : (rest.map fun v => v.category).sum ≤ 8) (hdg : decode cc pc = .ok (.invokevirtual index, 3)) (kk : ∀ r s', f r s' = some res → V X (cc, own, nL, fr, lo, ini) E sF s' (G0 X (pc + 3) ls (.int r :: rest))) : V X (cc, own, nL, fr, lo, ini) E sF s (G0 X pc ls (.int l2 :: .int l1 :: .ref (xb X + a0) :: rest)) := by
  obtain ⟨r, s', e, h⟩ := bnd_some h
  exact v_callV (b := a0) (ci := 9) (As := [.int l1, .int l2]) (rest := rest) (c_X9_areUnlike X N a0 l1 l2 s s' r e).2 (c_X9_areUnlike (l := xl X) (D := xD X) (ka := xka X) X N a0 l1 l2 s s' r e).1 rfl vl_X9_areUnlike qi_X9_areUnlike qe_X9_areUnlike hlink hR rfl rfl hls hr hdg (kk r s' h)
set_option maxHeartbeats 4000000 in
set_option maxRecDepth 100000 in
theorem L_X9_settle_23 {X : VX} {sF : vS} {r : Unit} (N : Nat) (k0 : Nat) (k1 : Int32) (k2 : Int32) (s : vS) (ls : Array Slot) (hl : lv_has ls 2 []) (h : J_X9_settle_23 N k0 k1 k2 s = some (r, sF)) : V X (cX9_settle, RX9, 2, 2, 45, false) (vRet sF none none) sF s (G0 X 23 ls [.int k2, .int k1, .ref (xb X + k0)]) := by
  unfold J_X9_settle_23 at h
  refine v_iast dX9_settle_23 h (fun s h => ?_)
  exact v_vret dX9_settle_24 h
theorem vl_X9_settle : vCl yX9_settle cX9_settle 2 none 1 := ⟨qy_X9_settle, qjX9, by decide +kernel, by decide +kernel, by decide +kernel⟩
set_option maxHeartbeats 4000000 in
set_option maxRecDepth 100000 in
theorem c_X9_settle {l : Launch} {D : va_G} {ka : Nat → ClassId} (X0 : VX) (N : Nat) (a0 : Nat) (l1 : Int32) (s sF : vS) (r : Unit) (h : F_X9_settle N a0 l1 s = some (r, sF)) : isO s a0 9 = true ∧ vMet l D ka (xb X0) yX9_settle cX9_settle 2 none 2 45 [.ref (xb X0 + a0), .int l1] s sF none := by
  unfold F_X9_settle at h
  unfold rcv at h
  obtain ⟨hO, h⟩ := v_chk h
  refine ⟨hO, vMet.of (ini := false) X0 (plainFor_of_name (by decide +kernel)) (Nat.le_of_ble_eq_true rfl) (fun h => by cases h) (fun X ls hb hl => ?_) rfl⟩
  show V X (cX9_settle, RX9, 2, 2, 45, false) (vRet sF none none) sF s (G0 X 0 ls [])
  rw [← hb] at hl
  have hl : lv_has ls 2 [(0, .ref (xb X + a0)), (1, .int l1)] := hl
  refine v_aload_n dX9_settle_0 rfl (lv_at hl 0 rfl) ?_
  refine v_getR 9 10 h (by decide) rfl qfX9_56 dX9_settle_1 (fun r1 h => ?_)
  refine v_iload_n dX9_settle_4 rfl (lv_at hl 1 rfl) ?_
  refine v_aload_n dX9_settle_5 rfl (lv_at hl 0 rfl) ?_
  refine v_iload_n dX9_settle_6 rfl (lv_at hl 1 rfl) ?_
  refine k_X9_terms h qmX9_196 (by decide) hl.1 (Nat.le_of_ble_eq_true rfl) dX9_settle_7 (fun v2 s h => ?_)
  refine v_if_ne 17 dX9_settle_10 (by decide) h (fun h => ?_) (fun h => ?_)
  · refine v_aload_n dX9_settle_17 rfl (lv_at hl 0 rfl) ?_
    refine v_getR 9 10 h (by decide) rfl qfX9_56 dX9_settle_18 (fun r3 h => ?_)
    refine v_iload_n dX9_settle_21 rfl (lv_at hl 1 rfl) ?_
    refine v_iald dX9_settle_22 h (fun v4 h => ?_)
    exact L_X9_settle_23 N r1 l1 v4 s ls (lv_sub hl [] rfl) h
  · refine v_iconst (2 : Int32) dX9_settle_13 (by decide) ?_
    refine v_goto 23 dX9_settle_14 (by decide) ?_
    exact L_X9_settle_23 N r1 l1 (2 : Int32) s ls (lv_sub hl [] rfl) h
theorem k_X9_settle {X : VX} {cc : ByteArray} {own : String} {nL fr lo : Nat} {ini : Bool} {E : VX → Prop} {sF s : vS} {ρ : Type} {res : ρ} {pc : Nat} {ls : Array Slot} {rest : List Value} {N index : Nat} {a0 : Nat} {l1 : Int32} {f : Unit → vS → Option ρ} (h : bnd (F_X9_settle N a0 l1 s) f = some res) (hlink : Cond.methodLink own index yX9_settle ∈ TT) (hR : 2 + 1 ≤ fr ∧ 8 + (2 + 11) + 45 ≤ lo) (hls : ls.size = nL) (hr : (rest.map fun v => v.category).sum ≤ 8) (hdg : decode cc pc = .ok (.invokevirtual index, 3)) (kk : ∀ r s', f r s' = some res → V X (cc, own, nL, fr, lo, ini) E sF s' (G0 X (pc + 3) ls (rest))) : V X (cc, own, nL, fr, lo, ini) E sF s (G0 X pc ls (.int l1 :: .ref (xb X + a0) :: rest)) := by
  obtain ⟨r, s', e, h⟩ := bnd_some h
  exact v_callV (b := a0) (ci := 9) (As := [.int l1]) (rest := rest) (c_X9_settle X N a0 l1 s s' r e).2 (c_X9_settle (l := xl X) (D := xD X) (ka := xka X) X N a0 l1 s s' r e).1 rfl vl_X9_settle qi_X9_settle qe_X9_settle hlink hR rfl rfl hls hr hdg (kk r s' h)
set_option maxHeartbeats 4000000 in
set_option maxRecDepth 100000 in
theorem L_X9_sumUp_130 {X : VX} {sF : vS} {r : Unit} (N : Nat) (k51 : Nat → Int32 → Int64 → Int32 → Int32 → vS → Option (Unit × vS)) (hk51 : ∀ (a0 : Nat) (l2 : Int32) (l3 : Int64) (l5 : Int32) (l7 : Int32) (s : vS) (ls : Array Slot), lv_has ls 8 [(0, .ref (xb X + a0)), (2, .int l2), (3, .long l3), (5, .int l5), (7, .int l7)] → k51 a0 l2 l3 l5 l7 s = some (r, sF) → V X (cX9_sumUp, RX9, 8, 4, 116, false) (vRet sF none none) sF s (G0 X 51 ls [])) (a0 : Nat) (l2 : Int32) (l3 : Int64) (l5 : Int32) (l7 : Int32) (s : vS) (ls : Array Slot) (hl : lv_has ls 8 [(0, .ref (xb X + a0)), (2, .int l2), (3, .long l3), (5, .int l5), (7, .int l7)]) (h : J_X9_sumUp_130 N k51 a0 l2 l3 l5 l7 s = some (r, sF)) : V X (cX9_sumUp, RX9, 8, 4, 116, false) (vRet sF none none) sF s (G0 X 130 ls []) := by
  unfold J_X9_sumUp_130 at h
  refine v_inc (fun z => [(7, .int z), (0, .ref (xb X + a0)), (2, .int l2), (3, .long l3), (5, .int l5)]) dX9_sumUp_130 h hl (k := 4) rfl (by rfl) (by decide) (fun _ => rfl) (fun l7_20 ls hl h => ?_)
  refine v_goto 51 dX9_sumUp_133 (by decide) ?_
  exact hk51 a0 l2 l3 l5 l7_20 s ls (lv_sub hl [1, 2, 3, 4, 0] rfl) h
set_option maxHeartbeats 4000000 in
set_option maxRecDepth 100000 in
theorem L_X9_sumUp_122 {X : VX} {sF : vS} {r : Unit} (N : Nat) (k51 : Nat → Int32 → Int64 → Int32 → Int32 → vS → Option (Unit × vS)) (hk51 : ∀ (a0 : Nat) (l2 : Int32) (l3 : Int64) (l5 : Int32) (l7 : Int32) (s : vS) (ls : Array Slot), lv_has ls 8 [(0, .ref (xb X + a0)), (2, .int l2), (3, .long l3), (5, .int l5), (7, .int l7)] → k51 a0 l2 l3 l5 l7 s = some (r, sF) → V X (cX9_sumUp, RX9, 8, 4, 116, false) (vRet sF none none) sF s (G0 X 51 ls [])) (a0 : Nat) (l2 : Int32) (l3 : Int64) (l5 : Int32) (l7 : Int32) (s : vS) (ls : Array Slot) (hl : lv_has ls 8 [(0, .ref (xb X + a0)), (2, .int l2), (3, .long l3), (5, .int l5), (7, .int l7)]) (h : J_X9_sumUp_122 N k51 a0 l2 l3 l5 l7 s = some (r, sF)) : V X (cX9_sumUp, RX9, 8, 4, 116, false) (vRet sF none none) sF s (G0 X 122 ls []) := by
  unfold J_X9_sumUp_122 at h
  refine v_aload_n dX9_sumUp_122 rfl (lv_at hl 0 rfl) ?_
  refine v_iload dX9_sumUp_123 (lv_at hl 3 rfl) ?_
  refine v_iload dX9_sumUp_125 (lv_at hl 4 rfl) ?_
  refine k_X9_addTo h qmX9_189 (by decide) hl.1 (Nat.le_of_ble_eq_true rfl) dX9_sumUp_127 (fun v21 s h => ?_)
  exact L_X9_sumUp_130 N k51 hk51 a0 l2 l3 l5 l7 s ls (lv_sub hl [0, 1, 2, 3, 4] rfl) h
set_option maxHeartbeats 4000000 in
set_option maxRecDepth 100000 in
theorem L_X9_sumUp_51 {X : VX} {sF : vS} {r : Unit} (N : Nat) : ∀ (n : Nat) (a0 : Nat) (l2 : Int32) (l3 : Int64) (l5 : Int32) (l7 : Int32) (s : vS) (ls : Array Slot), lv_has ls 8 [(0, .ref (xb X + a0)), (2, .int l2), (3, .long l3), (5, .int l5), (7, .int l7)] → H_X9_sumUp_51 N n a0 l2 l3 l5 l7 s = some (r, sF) → V X (cX9_sumUp, RX9, 8, 4, 116, false) (vRet sF none none) sF s (G0 X 51 ls []) := by
  intro n
  induction n with
  | zero => intro a0 l2 l3 l5 l7 s ls hl h; cases h
  | succ n ih =>
   intro a0 l2 l3 l5 l7 s ls hl h
   unfold H_X9_sumUp_51 at h
   refine v_iload dX9_sumUp_51 (lv_at hl 4 rfl) ?_
   refine v_bipush (29 : Int32) dX9_sumUp_53 (by decide) ?_
   refine v_icmp_ge 136 dX9_sumUp_55 (by decide) h (fun h => ?_) (fun h => ?_)
   · refine v_aload_n dX9_sumUp_136 rfl (lv_at hl 0 rfl) ?_
     refine v_iload dX9_sumUp_137 (lv_at hl 3 rfl) ?_
     refine k_X9_settle h qmX9_192 (by decide) hl.1 (Nat.le_of_ble_eq_true rfl) dX9_sumUp_139 (fun v11 s h => ?_)
     exact v_vret dX9_sumUp_142 h
   · refine v_aload_n dX9_sumUp_58 rfl (lv_at hl 0 rfl) ?_
     refine v_iload_n dX9_sumUp_59 rfl (lv_at hl 1 rfl) ?_
     refine v_iload dX9_sumUp_60 (lv_at hl 4 rfl) ?_
     refine k_X9_isTerm h qmX9_179 (by decide) hl.1 (Nat.le_of_ble_eq_true rfl) dX9_sumUp_62 (fun v12 s h => ?_)
     refine v_if_eq 130 dX9_sumUp_65 (by decide) h (fun h => ?_) (fun h => ?_)
     · exact L_X9_sumUp_130 N (H_X9_sumUp_51 N n) ih a0 l2 l3 l5 l7 s ls (lv_sub hl [0, 1, 2, 3, 4] rfl) h
     · refine v_aload_n dX9_sumUp_68 rfl (lv_at hl 0 rfl) ?_
       refine v_aload_n dX9_sumUp_69 rfl (lv_at hl 0 rfl) ?_
       refine v_getR 9 11 h (by decide) rfl qfX9_59 dX9_sumUp_70 (fun r13 h => ?_)
       refine v_bipush (29 : Int32) dX9_sumUp_73 (by decide) ?_
       refine v_iload_n dX9_sumUp_75 rfl (lv_at hl 1 rfl) ?_
       refine v_imul dX9_sumUp_76 ?_
       refine v_iload dX9_sumUp_77 (lv_at hl 4 rfl) ?_
       refine v_iadd dX9_sumUp_79 ?_
       refine v_lald dX9_sumUp_80 h (fun v14 h => ?_)
       refine v_putJ 9 23 h (by decide) rfl (Or.inl rfl) qfX9_150 dX9_sumUp_81 (fun s h => ?_)
       refine v_aload_n dX9_sumUp_84 rfl (lv_at hl 0 rfl) ?_
       refine v_aload_n dX9_sumUp_85 rfl (lv_at hl 0 rfl) ?_
       refine v_getR 9 12 h (by decide) rfl qfX9_63 dX9_sumUp_86 (fun r15 h => ?_)
       refine v_bipush (29 : Int32) dX9_sumUp_89 (by decide) ?_
       refine v_iload_n dX9_sumUp_91 rfl (lv_at hl 1 rfl) ?_
       refine v_imul dX9_sumUp_92 ?_
       refine v_iload dX9_sumUp_93 (lv_at hl 4 rfl) ?_
       refine v_iadd dX9_sumUp_95 ?_
       refine v_lald dX9_sumUp_96 h (fun v16 h => ?_)
       refine v_putJ 9 24 h (by decide) rfl (Or.inl rfl) qfX9_154 dX9_sumUp_97 (fun s h => ?_)
       refine v_lload_n dX9_sumUp_100 rfl (lv_at hl 2 rfl) ?_
       refine v_lconst (0 : Int64) dX9_sumUp_101 (by decide) ?_
       refine v_lcmp dX9_sumUp_102 ?_
       refine v_if_ge 122 dX9_sumUp_103 (by decide) h (fun h => ?_) (fun h => ?_)
       · exact L_X9_sumUp_122 N (H_X9_sumUp_51 N n) ih a0 l2 l3 l5 l7 s ls (lv_sub hl [0, 1, 2, 3, 4] rfl) h
       · refine v_aload_n dX9_sumUp_106 rfl (lv_at hl 0 rfl) ?_
         refine v_ldc2 qkX9_164 dX9_sumUp_107 ?_
         refine v_lconst (1 : Int64) dX9_sumUp_110 (by decide) ?_
         refine v_aload_n dX9_sumUp_111 rfl (lv_at hl 0 rfl) ?_
         refine v_getJ 9 23 h (by decide) rfl qfX9_150 dX9_sumUp_112 (fun v17 h => ?_)
         refine v_aload_n dX9_sumUp_115 rfl (lv_at hl 0 rfl) ?_
         refine v_getJ 9 24 h (by decide) rfl qfX9_154 dX9_sumUp_116 (fun v18 h => ?_)
         refine k_X9_times h qmX9_186 (by decide) hl.1 (Nat.le_of_ble_eq_true rfl) dX9_sumUp_119 (fun v19 s h => ?_)
         exact L_X9_sumUp_122 N (H_X9_sumUp_51 N n) ih a0 l2 l3 l5 l7 s ls (lv_sub hl [0, 1, 2, 3, 4] rfl) h
set_option maxHeartbeats 4000000 in
set_option maxRecDepth 100000 in
theorem L_X9_sumUp_30 {X : VX} {sF : vS} {r : Unit} (N : Nat) (a0 : Nat) (l1 : Int32) (l2 : Int32) (l3 : Int64) (l5 : Int32) (k0 : Int32) (s : vS) (ls : Array Slot) (hl : lv_has ls 8 [(0, .ref (xb X + a0)), (1, .int l1), (2, .int l2), (3, .long l3), (5, .int l5)]) (h : J_X9_sumUp_30 N a0 l1 l2 l3 l5 k0 s = some (r, sF)) : V X (cX9_sumUp, RX9, 8, 4, 116, false) (vRet sF none none) sF s (G0 X 30 ls [.int k0]) := by
  unfold J_X9_sumUp_30 at h
  refine v_istore [(6, .int k0), (0, .ref (xb X + a0)), (1, .int l1), (2, .int l2), (3, .long l3), (5, .int l5)] dX9_sumUp_30 hl (by decide) rfl (fun ls hl => ?_)
  refine v_aload_n dX9_sumUp_32 rfl (lv_at hl 1 rfl) ?_
  refine v_iload_n dX9_sumUp_33 rfl (lv_at hl 2 rfl) ?_
  refine v_iload dX9_sumUp_34 (lv_at hl 5 rfl) ?_
  refine k_X9_copy h qmX9_182 (by decide) hl.1 (Nat.le_of_ble_eq_true rfl) dX9_sumUp_36 (fun v9 s h => ?_)
  refine v_aload_n dX9_sumUp_39 rfl (lv_at hl 1 rfl) ?_
  refine v_getR 9 10 h (by decide) rfl qfX9_56 dX9_sumUp_40 (fun r10 h => ?_)
  refine v_iload dX9_sumUp_43 (lv_at hl 5 rfl) ?_
  refine v_iload dX9_sumUp_45 (lv_at hl 0 rfl) ?_
  refine v_iast dX9_sumUp_47 h (fun s h => ?_)
  refine v_iconst (0 : Int32) dX9_sumUp_48 (by decide) ?_
  refine v_istore [(7, .int (0 : Int32)), (6, .int k0), (0, .ref (xb X + a0)), (1, .int l1), (2, .int l2), (3, .long l3), (5, .int l5)] dX9_sumUp_49 hl (by decide) rfl (fun ls hl => ?_)
  exact L_X9_sumUp_51 N N a0 l2 l3 l5 (0 : Int32) s ls (lv_sub hl [2, 4, 5, 6, 0] rfl) h
theorem vl_X9_sumUp : vCl yX9_sumUp cX9_sumUp 8 none 4 := ⟨qy_X9_sumUp, qjX9, by decide +kernel, by decide +kernel, by decide +kernel⟩
set_option maxHeartbeats 4000000 in
set_option maxRecDepth 100000 in
theorem c_X9_sumUp {l : Launch} {D : va_G} {ka : Nat → ClassId} (X0 : VX) (N : Nat) (a0 : Nat) (l1 : Int32) (l2 : Int32) (l3 : Int64) (l5 : Int32) (s sF : vS) (r : Unit) (h : F_X9_sumUp N a0 l1 l2 l3 l5 s = some (r, sF)) : isO s a0 9 = true ∧ vMet l D ka (xb X0) yX9_sumUp cX9_sumUp 8 none 4 116 [.ref (xb X0 + a0), .int l1, .int l2, .long l3, .int l5] s sF none := by
  unfold F_X9_sumUp at h
  unfold rcv at h
  obtain ⟨hO, h⟩ := v_chk h
  refine ⟨hO, vMet.of (ini := false) X0 (plainFor_of_name (by decide +kernel)) (Nat.le_of_ble_eq_true rfl) (fun h => by cases h) (fun X ls hb hl => ?_) rfl⟩
  show V X (cX9_sumUp, RX9, 8, 4, 116, false) (vRet sF none none) sF s (G0 X 0 ls [])
  rw [← hb] at hl
  have hl : lv_has ls 8 [(0, .ref (xb X + a0)), (1, .int l1), (2, .int l2), (3, .long l3), (5, .int l5)] := hl
  refine v_aload_n dX9_sumUp_0 rfl (lv_at hl 0 rfl) ?_
  refine v_getR 9 10 h (by decide) rfl qfX9_56 dX9_sumUp_1 (fun r1 h => ?_)
  refine v_iload_n dX9_sumUp_4 rfl (lv_at hl 1 rfl) ?_
  refine v_iald dX9_sumUp_5 h (fun v2 h => ?_)
  refine v_aload_n dX9_sumUp_6 rfl (lv_at hl 0 rfl) ?_
  refine v_getR 9 10 h (by decide) rfl qfX9_56 dX9_sumUp_7 (fun r3 h => ?_)
  refine v_iload_n dX9_sumUp_10 rfl (lv_at hl 2 rfl) ?_
  refine v_iald dX9_sumUp_11 h (fun v4 h => ?_)
  refine v_icmp_ge 24 dX9_sumUp_12 (by decide) h (fun h => ?_) (fun h => ?_)
  · refine v_aload_n dX9_sumUp_24 rfl (lv_at hl 0 rfl) ?_
    refine v_getR 9 10 h (by decide) rfl qfX9_56 dX9_sumUp_25 (fun r5 h => ?_)
    refine v_iload_n dX9_sumUp_28 rfl (lv_at hl 2 rfl) ?_
    refine v_iald dX9_sumUp_29 h (fun v6 h => ?_)
    exact L_X9_sumUp_30 N a0 l1 l2 l3 l5 v6 s ls (lv_sub hl [0, 1, 2, 3, 4] rfl) h
  · refine v_aload_n dX9_sumUp_15 rfl (lv_at hl 0 rfl) ?_
    refine v_getR 9 10 h (by decide) rfl qfX9_56 dX9_sumUp_16 (fun r7 h => ?_)
    refine v_iload_n dX9_sumUp_19 rfl (lv_at hl 1 rfl) ?_
    refine v_iald dX9_sumUp_20 h (fun v8 h => ?_)
    refine v_goto 30 dX9_sumUp_21 (by decide) ?_
    exact L_X9_sumUp_30 N a0 l1 l2 l3 l5 v8 s ls (lv_sub hl [0, 1, 2, 3, 4] rfl) h
theorem k_X9_sumUp {X : VX} {cc : ByteArray} {own : String} {nL fr lo : Nat} {ini : Bool} {E : VX → Prop} {sF s : vS} {ρ : Type} {res : ρ} {pc : Nat} {ls : Array Slot} {rest : List Value} {N index : Nat} {a0 : Nat} {l1 : Int32} {l2 : Int32} {l3 : Int64} {l5 : Int32} {f : Unit → vS → Option ρ} (h : bnd (F_X9_sumUp N a0 l1 l2 l3 l5 s) f = some res) (hlink : Cond.methodLink own index yX9_sumUp ∈ TT) (hR : 4 + 1 ≤ fr ∧ 8 + (8 + 11) + 116 ≤ lo) (hls : ls.size = nL) (hr : (rest.map fun v => v.category).sum ≤ 8) (hdg : decode cc pc = .ok (.invokevirtual index, 3)) (kk : ∀ r s', f r s' = some res → V X (cc, own, nL, fr, lo, ini) E sF s' (G0 X (pc + 3) ls (rest))) : V X (cc, own, nL, fr, lo, ini) E sF s (G0 X pc ls (.int l5 :: .long l3 :: .int l2 :: .int l1 :: .ref (xb X + a0) :: rest)) := by
  obtain ⟨r, s', e, h⟩ := bnd_some h
  exact v_callV (b := a0) (ci := 9) (As := [.int l1, .int l2, .long l3, .int l5]) (rest := rest) (c_X9_sumUp X N a0 l1 l2 l3 l5 s s' r e).2 (c_X9_sumUp (l := xl X) (D := xD X) (ka := xka X) X N a0 l1 l2 l3 l5 s s' r e).1 rfl vl_X9_sumUp qi_X9_sumUp qe_X9_sumUp hlink hR rfl rfl hls hr hdg (kk r s' h)
set_option maxHeartbeats 4000000 in
set_option maxRecDepth 100000 in
theorem L_X9_isTooGreat_102 {X : VX} {sF : vS} {r : Int32} (N : Nat) (k34 : Nat → Int32 → Int32 → Int32 → Int32 → vS → Option (Int32 × vS)) (k44 : Nat → Int32 → Int32 → Int32 → Int32 → Int32 → vS → Option (Int32 × vS)) (hk34 : ∀ (a0 : Nat) (l1 : Int32) (l2 : Int32) (l3 : Int32) (l4 : Int32) (s : vS) (ls : Array Slot), lv_has ls 6 [(0, .ref (xb X + a0)), (1, .int l1), (2, .int l2), (3, .int l3), (4, .int l4)] → k34 a0 l1 l2 l3 l4 s = some (r, sF) → V X (cX9_isTooGreat, RX9, 6, 1, 22, false) (vRet sF (some (.int r)) (some .boolean)) sF s (G0 X 34 ls [])) (hk44 : ∀ (a0 : Nat) (l1 : Int32) (l2 : Int32) (l3 : Int32) (l4 : Int32) (l5 : Int32) (s : vS) (ls : Array Slot), lv_has ls 6 [(0, .ref (xb X + a0)), (1, .int l1), (2, .int l2), (3, .int l3), (4, .int l4), (5, .int l5)] → k44 a0 l1 l2 l3 l4 l5 s = some (r, sF) → V X (cX9_isTooGreat, RX9, 6, 1, 22, false) (vRet sF (some (.int r)) (some .boolean)) sF s (G0 X 44 ls [])) (a0 : Nat) (l1 : Int32) (l2 : Int32) (l3 : Int32) (l4 : Int32) (l5 : Int32) (s : vS) (ls : Array Slot) (hl : lv_has ls 6 [(0, .ref (xb X + a0)), (1, .int l1), (2, .int l2), (3, .int l3), (4, .int l4), (5, .int l5)]) (h : J_X9_isTooGreat_102 N k34 k44 a0 l1 l2 l3 l4 l5 s = some (r, sF)) : V X (cX9_isTooGreat, RX9, 6, 1, 22, false) (vRet sF (some (.int r)) (some .boolean)) sF s (G0 X 102 ls []) := by
  unfold J_X9_isTooGreat_102 at h
  refine v_inc (fun z => [(5, .int z), (0, .ref (xb X + a0)), (1, .int l1), (2, .int l2), (3, .int l3), (4, .int l4)]) dX9_isTooGreat_102 h hl (k := 5) rfl (by rfl) (by decide) (fun _ => rfl) (fun l5_16 ls hl h => ?_)
  refine v_goto 44 dX9_isTooGreat_105 (by decide) ?_
  exact hk44 a0 l1 l2 l3 l4 l5_16 s ls (lv_sub hl [1, 2, 3, 4, 5, 0] rfl) h
set_option maxHeartbeats 4000000 in
set_option maxRecDepth 100000 in
theorem L_X9_isTooGreat_44 {X : VX} {sF : vS} {r : Int32} (N : Nat) (k34 : Nat → Int32 → Int32 → Int32 → Int32 → vS → Option (Int32 × vS)) (hk34 : ∀ (a0 : Nat) (l1 : Int32) (l2 : Int32) (l3 : Int32) (l4 : Int32) (s : vS) (ls : Array Slot), lv_has ls 6 [(0, .ref (xb X + a0)), (1, .int l1), (2, .int l2), (3, .int l3), (4, .int l4)] → k34 a0 l1 l2 l3 l4 s = some (r, sF) → V X (cX9_isTooGreat, RX9, 6, 1, 22, false) (vRet sF (some (.int r)) (some .boolean)) sF s (G0 X 34 ls [])) : ∀ (n : Nat) (a0 : Nat) (l1 : Int32) (l2 : Int32) (l3 : Int32) (l4 : Int32) (l5 : Int32) (s : vS) (ls : Array Slot), lv_has ls 6 [(0, .ref (xb X + a0)), (1, .int l1), (2, .int l2), (3, .int l3), (4, .int l4), (5, .int l5)] → H_X9_isTooGreat_44 N k34 n a0 l1 l2 l3 l4 l5 s = some (r, sF) → V X (cX9_isTooGreat, RX9, 6, 1, 22, false) (vRet sF (some (.int r)) (some .boolean)) sF s (G0 X 44 ls []) := by
  intro n
  induction n with
  | zero => intro a0 l1 l2 l3 l4 l5 s ls hl h; cases h
  | succ n ih =>
   intro a0 l1 l2 l3 l4 l5 s ls hl h
   unfold H_X9_isTooGreat_44 at h
   refine v_iload dX9_isTooGreat_44 (lv_at hl 5 rfl) ?_
   refine v_bipush (29 : Int32) dX9_isTooGreat_46 (by decide) ?_
   refine v_icmp_ge 108 dX9_isTooGreat_48 (by decide) h (fun h => ?_) (fun h => ?_)
   · refine v_inc (fun z => [(4, .int z), (0, .ref (xb X + a0)), (1, .int l1), (2, .int l2), (3, .int l3), (5, .int l5)]) dX9_isTooGreat_108 h hl (k := 4) rfl (by rfl) (by decide) (fun _ => rfl) (fun l4_9 ls hl h => ?_)
     refine v_goto 34 dX9_isTooGreat_111 (by decide) ?_
     exact hk34 a0 l1 l2 l3 l4_9 s ls (lv_sub hl [1, 2, 3, 4, 0] rfl) h
   · refine v_aload_n dX9_isTooGreat_51 rfl (lv_at hl 0 rfl) ?_
     refine v_iload_n dX9_isTooGreat_52 rfl (lv_at hl 1 rfl) ?_
     refine v_iload dX9_isTooGreat_53 (lv_at hl 4 rfl) ?_
     refine k_X9_isTerm h qmX9_179 (by decide) hl.1 (Nat.le_of_ble_eq_true rfl) dX9_isTooGreat_55 (fun v10 s h => ?_)
     refine v_if_eq 102 dX9_isTooGreat_58 (by decide) h (fun h => ?_) (fun h => ?_)
     · exact L_X9_isTooGreat_102 N k34 (H_X9_isTooGreat_44 N k34 n) hk34 ih a0 l1 l2 l3 l4 l5 s ls (lv_sub hl [0, 1, 2, 3, 4, 5] rfl) h
     · refine v_aload_n dX9_isTooGreat_61 rfl (lv_at hl 0 rfl) ?_
       refine v_iload_n dX9_isTooGreat_62 rfl (lv_at hl 2 rfl) ?_
       refine v_iload dX9_isTooGreat_63 (lv_at hl 5 rfl) ?_
       refine k_X9_isTerm h qmX9_179 (by decide) hl.1 (Nat.le_of_ble_eq_true rfl) dX9_isTooGreat_65 (fun v11 s h => ?_)
       refine v_if_eq 102 dX9_isTooGreat_68 (by decide) h (fun h => ?_) (fun h => ?_)
       · exact L_X9_isTooGreat_102 N k34 (H_X9_isTooGreat_44 N k34 n) hk34 ih a0 l1 l2 l3 l4 l5 s ls (lv_sub hl [0, 1, 2, 3, 4, 5] rfl) h
       · refine v_aload_n dX9_isTooGreat_71 rfl (lv_at hl 0 rfl) ?_
         refine v_getR 9 0 h (by decide) rfl qfX9_28 dX9_isTooGreat_72 (fun r12 h => ?_)
         refine v_iload_n dX9_isTooGreat_75 rfl (lv_at hl 3 rfl) ?_
         refine v_iload dX9_isTooGreat_76 (lv_at hl 4 rfl) ?_
         refine k_X9_sizeBy h qmX9_199 (by decide) hl.1 (Nat.le_of_ble_eq_true rfl) dX9_isTooGreat_78 (fun v13 s h => ?_)
         refine v_aload_n dX9_isTooGreat_81 rfl (lv_at hl 0 rfl) ?_
         refine v_getR 9 0 h (by decide) rfl qfX9_28 dX9_isTooGreat_82 (fun r14 h => ?_)
         refine v_iload_n dX9_isTooGreat_85 rfl (lv_at hl 3 rfl) ?_
         refine v_iload dX9_isTooGreat_86 (lv_at hl 5 rfl) ?_
         refine k_X9_sizeBy h qmX9_199 (by decide) hl.1 (Nat.le_of_ble_eq_true rfl) dX9_isTooGreat_88 (fun v15 s h => ?_)
         refine v_iadd dX9_isTooGreat_91 ?_
         refine v_iload_n dX9_isTooGreat_92 rfl (lv_at hl 3 rfl) ?_
         refine v_iconst (2 : Int32) dX9_isTooGreat_93 (by decide) ?_
         refine v_irem dX9_isTooGreat_94 h (fun h => ?_)
         refine v_isub dX9_isTooGreat_95 ?_
         refine v_iconst (4 : Int32) dX9_isTooGreat_96 (by decide) ?_
         refine v_icmp_le 102 dX9_isTooGreat_97 (by decide) h (fun h => ?_) (fun h => ?_)
         · exact L_X9_isTooGreat_102 N k34 (H_X9_isTooGreat_44 N k34 n) hk34 ih a0 l1 l2 l3 l4 l5 s ls (lv_sub hl [0, 1, 2, 3, 4, 5] rfl) h
         · refine v_iconst (1 : Int32) dX9_isTooGreat_100 (by decide) ?_
           exact v_zret dX9_isTooGreat_101 h
set_option maxHeartbeats 4000000 in
set_option maxRecDepth 100000 in
theorem L_X9_isTooGreat_34 {X : VX} {sF : vS} {r : Int32} (N : Nat) : ∀ (n : Nat) (a0 : Nat) (l1 : Int32) (l2 : Int32) (l3 : Int32) (l4 : Int32) (s : vS) (ls : Array Slot), lv_has ls 6 [(0, .ref (xb X + a0)), (1, .int l1), (2, .int l2), (3, .int l3), (4, .int l4)] → H_X9_isTooGreat_34 N n a0 l1 l2 l3 l4 s = some (r, sF) → V X (cX9_isTooGreat, RX9, 6, 1, 22, false) (vRet sF (some (.int r)) (some .boolean)) sF s (G0 X 34 ls []) := by
  intro n
  induction n with
  | zero => intro a0 l1 l2 l3 l4 s ls hl h; cases h
  | succ n ih =>
   intro a0 l1 l2 l3 l4 s ls hl h
   unfold H_X9_isTooGreat_34 at h
   refine v_iload dX9_isTooGreat_34 (lv_at hl 4 rfl) ?_
   refine v_bipush (29 : Int32) dX9_isTooGreat_36 (by decide) ?_
   refine v_icmp_ge 114 dX9_isTooGreat_38 (by decide) h (fun h => ?_) (fun h => ?_)
   · refine v_iconst (0 : Int32) dX9_isTooGreat_114 (by decide) ?_
     exact v_zret dX9_isTooGreat_115 h
   · refine v_iconst (0 : Int32) dX9_isTooGreat_41 (by decide) ?_
     refine v_istore [(5, .int (0 : Int32)), (0, .ref (xb X + a0)), (1, .int l1), (2, .int l2), (3, .int l3), (4, .int l4)] dX9_isTooGreat_42 hl (by decide) rfl (fun ls hl => ?_)
     exact L_X9_isTooGreat_44 N (H_X9_isTooGreat_34 N n) ih N a0 l1 l2 l3 l4 (0 : Int32) s ls (lv_sub hl [1, 2, 3, 4, 5, 0] rfl) h
set_option maxHeartbeats 4000000 in
set_option maxRecDepth 100000 in
theorem L_X9_isTooGreat_30 {X : VX} {sF : vS} {r : Int32} (N : Nat) (a0 : Nat) (l1 : Int32) (l2 : Int32) (k0 : Int32) (s : vS) (ls : Array Slot) (hl : lv_has ls 6 [(0, .ref (xb X + a0)), (1, .int l1), (2, .int l2)]) (h : J_X9_isTooGreat_30 N a0 l1 l2 k0 s = some (r, sF)) : V X (cX9_isTooGreat, RX9, 6, 1, 22, false) (vRet sF (some (.int r)) (some .boolean)) sF s (G0 X 30 ls [.int k0]) := by
  unfold J_X9_isTooGreat_30 at h
  refine v_istore_n [(3, .int k0), (0, .ref (xb X + a0)), (1, .int l1), (2, .int l2)] dX9_isTooGreat_30 rfl hl (by decide) rfl (fun ls hl => ?_)
  refine v_iconst (0 : Int32) dX9_isTooGreat_31 (by decide) ?_
  refine v_istore [(4, .int (0 : Int32)), (3, .int k0), (0, .ref (xb X + a0)), (1, .int l1), (2, .int l2)] dX9_isTooGreat_32 hl (by decide) rfl (fun ls hl => ?_)
  exact L_X9_isTooGreat_34 N N a0 l1 l2 k0 (0 : Int32) s ls (lv_sub hl [2, 3, 4, 1, 0] rfl) h
theorem vl_X9_isTooGreat : vCl yX9_isTooGreat cX9_isTooGreat 6 (some .boolean) 2 := ⟨qy_X9_isTooGreat, qjX9, by decide +kernel, by decide +kernel, by decide +kernel⟩
set_option maxHeartbeats 4000000 in
set_option maxRecDepth 100000 in
theorem c_X9_isTooGreat {l : Launch} {D : va_G} {ka : Nat → ClassId} (X0 : VX) (N : Nat) (a0 : Nat) (l1 : Int32) (l2 : Int32) (s sF : vS) (r : Int32) (h : F_X9_isTooGreat N a0 l1 l2 s = some (r, sF)) : isO s a0 9 = true ∧ vMet l D ka (xb X0) yX9_isTooGreat cX9_isTooGreat 6 (some .boolean) 1 22 [.ref (xb X0 + a0), .int l1, .int l2] s sF (some (.int r)) := by
  unfold F_X9_isTooGreat at h
  unfold rcv at h
  obtain ⟨hO, h⟩ := v_chk h
  refine ⟨hO, vMet.of (ini := false) X0 (plainFor_of_name (by decide +kernel)) (Nat.le_of_ble_eq_true rfl) (fun h => by cases h) (fun X ls hb hl => ?_) rfl⟩
  show V X (cX9_isTooGreat, RX9, 6, 1, 22, false) (vRet sF (some (.int r)) (some .boolean)) sF s (G0 X 0 ls [])
  rw [← hb] at hl
  have hl : lv_has ls 6 [(0, .ref (xb X + a0)), (1, .int l1), (2, .int l2)] := hl
  refine v_aload_n dX9_isTooGreat_0 rfl (lv_at hl 0 rfl) ?_
  refine v_getR 9 10 h (by decide) rfl qfX9_56 dX9_isTooGreat_1 (fun r1 h => ?_)
  refine v_iload_n dX9_isTooGreat_4 rfl (lv_at hl 1 rfl) ?_
  refine v_iald dX9_isTooGreat_5 h (fun v2 h => ?_)
  refine v_aload_n dX9_isTooGreat_6 rfl (lv_at hl 0 rfl) ?_
  refine v_getR 9 10 h (by decide) rfl qfX9_56 dX9_isTooGreat_7 (fun r3 h => ?_)
  refine v_iload_n dX9_isTooGreat_10 rfl (lv_at hl 2 rfl) ?_
  refine v_iald dX9_isTooGreat_11 h (fun v4 h => ?_)
  refine v_icmp_ge 24 dX9_isTooGreat_12 (by decide) h (fun h => ?_) (fun h => ?_)
  · refine v_aload_n dX9_isTooGreat_24 rfl (lv_at hl 0 rfl) ?_
    refine v_getR 9 10 h (by decide) rfl qfX9_56 dX9_isTooGreat_25 (fun r5 h => ?_)
    refine v_iload_n dX9_isTooGreat_28 rfl (lv_at hl 2 rfl) ?_
    refine v_iald dX9_isTooGreat_29 h (fun v6 h => ?_)
    exact L_X9_isTooGreat_30 N a0 l1 l2 v6 s ls (lv_sub hl [0, 1, 2] rfl) h
  · refine v_aload_n dX9_isTooGreat_15 rfl (lv_at hl 0 rfl) ?_
    refine v_getR 9 10 h (by decide) rfl qfX9_56 dX9_isTooGreat_16 (fun r7 h => ?_)
    refine v_iload_n dX9_isTooGreat_19 rfl (lv_at hl 1 rfl) ?_
    refine v_iald dX9_isTooGreat_20 h (fun v8 h => ?_)
    refine v_goto 30 dX9_isTooGreat_21 (by decide) ?_
    exact L_X9_isTooGreat_30 N a0 l1 l2 v8 s ls (lv_sub hl [0, 1, 2] rfl) h
theorem k_X9_isTooGreat {X : VX} {cc : ByteArray} {own : String} {nL fr lo : Nat} {ini : Bool} {E : VX → Prop} {sF s : vS} {ρ : Type} {res : ρ} {pc : Nat} {ls : Array Slot} {rest : List Value} {N index : Nat} {a0 : Nat} {l1 : Int32} {l2 : Int32} {f : Int32 → vS → Option ρ} (h : bnd (F_X9_isTooGreat N a0 l1 l2 s) f = some res) (hlink : Cond.methodLink own index yX9_isTooGreat ∈ TT) (hR : 1 + 1 ≤ fr ∧ 8 + (6 + 11) + 22 ≤ lo) (hls : ls.size = nL) (hr : (rest.map fun v => v.category).sum ≤ 8) (hdg : decode cc pc = .ok (.invokevirtual index, 3)) (kk : ∀ r s', f r s' = some res → V X (cc, own, nL, fr, lo, ini) E sF s' (G0 X (pc + 3) ls (.int r :: rest))) : V X (cc, own, nL, fr, lo, ini) E sF s (G0 X pc ls (.int l2 :: .int l1 :: .ref (xb X + a0) :: rest)) := by
  obtain ⟨r, s', e, h⟩ := bnd_some h
  exact v_callV (b := a0) (ci := 9) (As := [.int l1, .int l2]) (rest := rest) (c_X9_isTooGreat X N a0 l1 l2 s s' r e).2 (c_X9_isTooGreat (l := xl X) (D := xD X) (ka := xka X) X N a0 l1 l2 s s' r e).1 rfl vl_X9_isTooGreat qi_X9_isTooGreat qe_X9_isTooGreat hlink hR rfl rfl hls hr hdg (kk r s' h)
set_option maxHeartbeats 4000000 in
set_option maxRecDepth 100000 in
theorem L_X9_multiplyBy_152 {X : VX} {sF : vS} {r : Unit} (N : Nat) (k36 : Nat → Int32 → Int32 → Int32 → Int64 → Int64 → Int32 → Int32 → Int32 → Int32 → Int32 → vS → Option (Unit × vS)) (hk36 : ∀ (a0 : Nat) (l1 : Int32) (l2 : Int32) (l3 : Int32) (l4 : Int64) (l6 : Int64) (l8 : Int32) (l9 : Int32) (l10 : Int32) (l11 : Int32) (l12 : Int32) (s : vS) (ls : Array Slot), lv_has ls 13 [(0, .ref (xb X + a0)), (1, .int l1), (2, .int l2), (3, .int l3), (4, .long l4), (6, .long l6), (8, .int l8), (9, .int l9), (10, .int l10), (11, .int l11), (12, .int l12)] → k36 a0 l1 l2 l3 l4 l6 l8 l9 l10 l11 l12 s = some (r, sF) → V X (cX9_multiplyBy, RX9, 13, 4, 116, false) (vRet sF none none) sF s (G0 X 36 ls [])) (a0 : Nat) (l1 : Int32) (l2 : Int32) (l3 : Int32) (l4 : Int64) (l6 : Int64) (l8 : Int32) (l9 : Int32) (l10 : Int32) (l11 : Int32) (l12 : Int32) (s : vS) (ls : Array Slot) (hl : lv_has ls 13 [(0, .ref (xb X + a0)), (1, .int l1), (2, .int l2), (3, .int l3), (4, .long l4), (6, .long l6), (8, .int l8), (9, .int l9), (10, .int l10), (11, .int l11), (12, .int l12)]) (h : J_X9_multiplyBy_152 N k36 a0 l1 l2 l3 l4 l6 l8 l9 l10 l11 l12 s = some (r, sF)) : V X (cX9_multiplyBy, RX9, 13, 4, 116, false) (vRet sF none none) sF s (G0 X 152 ls []) := by
  unfold J_X9_multiplyBy_152 at h
  refine v_inc (fun z => [(12, .int z), (0, .ref (xb X + a0)), (1, .int l1), (2, .int l2), (3, .int l3), (4, .long l4), (6, .long l6), (8, .int l8), (9, .int l9), (10, .int l10), (11, .int l11)]) dX9_multiplyBy_152 h hl (k := 10) rfl (by rfl) (by decide) (fun _ => rfl) (fun l12_12 ls hl h => ?_)
  refine v_goto 36 dX9_multiplyBy_155 (by decide) ?_
  exact hk36 a0 l1 l2 l3 l4 l6 l8 l9 l10 l11 l12_12 s ls (lv_sub hl [1, 2, 3, 4, 5, 6, 7, 8, 9, 10, 0] rfl) h
set_option maxHeartbeats 4000000 in
set_option maxRecDepth 100000 in
theorem L_X9_multiplyBy_116 {X : VX} {sF : vS} {r : Unit} (N : Nat) (k36 : Nat → Int32 → Int32 → Int32 → Int64 → Int64 → Int32 → Int32 → Int32 → Int32 → Int32 → vS → Option (Unit × vS)) (hk36 : ∀ (a0 : Nat) (l1 : Int32) (l2 : Int32) (l3 : Int32) (l4 : Int64) (l6 : Int64) (l8 : Int32) (l9 : Int32) (l10 : Int32) (l11 : Int32) (l12 : Int32) (s : vS) (ls : Array Slot), lv_has ls 13 [(0, .ref (xb X + a0)), (1, .int l1), (2, .int l2), (3, .int l3), (4, .long l4), (6, .long l6), (8, .int l8), (9, .int l9), (10, .int l10), (11, .int l11), (12, .int l12)] → k36 a0 l1 l2 l3 l4 l6 l8 l9 l10 l11 l12 s = some (r, sF) → V X (cX9_multiplyBy, RX9, 13, 4, 116, false) (vRet sF none none) sF s (G0 X 36 ls [])) (a0 : Nat) (l1 : Int32) (l2 : Int32) (l3 : Int32) (l4 : Int64) (l6 : Int64) (l8 : Int32) (l9 : Int32) (l10 : Int32) (l11 : Int32) (l12 : Int32) (k0 : Nat) (k1 : Int32) (k2 : Int32) (k3 : Int32) (k4 : Int32) (k5 : Int32) (s : vS) (ls : Array Slot) (hl : lv_has ls 13 [(0, .ref (xb X + a0)), (1, .int l1), (2, .int l2), (3, .int l3), (4, .long l4), (6, .long l6), (8, .int l8), (9, .int l9), (10, .int l10), (11, .int l11), (12, .int l12)]) (h : J_X9_multiplyBy_116 N k36 a0 l1 l2 l3 l4 l6 l8 l9 l10 l11 l12 k0 k1 k2 k3 k4 k5 s = some (r, sF)) : V X (cX9_multiplyBy, RX9, 13, 4, 116, false) (vRet sF none none) sF s (G0 X 116 ls [.int k5, .int k4, .int k3, .int k2, .int k1, .ref (xb X + k0)]) := by
  unfold J_X9_multiplyBy_116 at h
  refine k_X9_jointOf h qmX9_206 (by decide) hl.1 (Nat.le_of_ble_eq_true rfl) dX9_multiplyBy_116 (fun v14 s h => ?_)
  refine v_aload_n dX9_multiplyBy_119 rfl (lv_at hl 0 rfl) ?_
  refine v_getJ 9 23 h (by decide) rfl qfX9_150 dX9_multiplyBy_120 (fun v15 h => ?_)
  refine v_lconst (0 : Int64) dX9_multiplyBy_123 (by decide) ?_
  refine v_lcmp dX9_multiplyBy_124 ?_
  refine v_if_eq 152 dX9_multiplyBy_125 (by decide) h (fun h => ?_) (fun h => ?_)
  · exact L_X9_multiplyBy_152 N k36 hk36 a0 l1 l2 l3 l4 l6 l8 l9 l10 l11 l12 s ls (lv_sub hl [0, 1, 2, 3, 4, 5, 6, 7, 8, 9, 10] rfl) h
  · refine v_aload_n dX9_multiplyBy_128 rfl (lv_at hl 0 rfl) ?_
    refine v_lload dX9_multiplyBy_129 (lv_at hl 4 rfl) ?_
    refine v_lload dX9_multiplyBy_131 (lv_at hl 5 rfl) ?_
    refine v_aload_n dX9_multiplyBy_133 rfl (lv_at hl 0 rfl) ?_
    refine v_getJ 9 23 h (by decide) rfl qfX9_150 dX9_multiplyBy_134 (fun v16 h => ?_)
    refine v_aload_n dX9_multiplyBy_137 rfl (lv_at hl 0 rfl) ?_
    refine v_getJ 9 24 h (by decide) rfl qfX9_154 dX9_multiplyBy_138 (fun v17 h => ?_)
    refine k_X9_times h qmX9_186 (by decide) hl.1 (Nat.le_of_ble_eq_true rfl) dX9_multiplyBy_141 (fun v18 s h => ?_)
    refine v_aload_n dX9_multiplyBy_144 rfl (lv_at hl 0 rfl) ?_
    refine v_iload dX9_multiplyBy_145 (lv_at hl 6 rfl) ?_
    refine v_iload dX9_multiplyBy_147 (lv_at hl 10 rfl) ?_
    refine k_X9_addTo h qmX9_189 (by decide) hl.1 (Nat.le_of_ble_eq_true rfl) dX9_multiplyBy_149 (fun v19 s h => ?_)
    exact L_X9_multiplyBy_152 N k36 hk36 a0 l1 l2 l3 l4 l6 l8 l9 l10 l11 l12 s ls (lv_sub hl [0, 1, 2, 3, 4, 5, 6, 7, 8, 9, 10] rfl) h
set_option maxHeartbeats 4000000 in
set_option maxRecDepth 100000 in
theorem L_X9_multiplyBy_96 {X : VX} {sF : vS} {r : Unit} (N : Nat) (k36 : Nat → Int32 → Int32 → Int32 → Int64 → Int64 → Int32 → Int32 → Int32 → Int32 → Int32 → vS → Option (Unit × vS)) (hk36 : ∀ (a0 : Nat) (l1 : Int32) (l2 : Int32) (l3 : Int32) (l4 : Int64) (l6 : Int64) (l8 : Int32) (l9 : Int32) (l10 : Int32) (l11 : Int32) (l12 : Int32) (s : vS) (ls : Array Slot), lv_has ls 13 [(0, .ref (xb X + a0)), (1, .int l1), (2, .int l2), (3, .int l3), (4, .long l4), (6, .long l6), (8, .int l8), (9, .int l9), (10, .int l10), (11, .int l11), (12, .int l12)] → k36 a0 l1 l2 l3 l4 l6 l8 l9 l10 l11 l12 s = some (r, sF) → V X (cX9_multiplyBy, RX9, 13, 4, 116, false) (vRet sF none none) sF s (G0 X 36 ls [])) (a0 : Nat) (l1 : Int32) (l2 : Int32) (l3 : Int32) (l4 : Int64) (l6 : Int64) (l8 : Int32) (l9 : Int32) (l10 : Int32) (l11 : Int32) (l12 : Int32) (k0 : Nat) (k1 : Int32) (k2 : Int32) (s : vS) (ls : Array Slot) (hl : lv_has ls 13 [(0, .ref (xb X + a0)), (1, .int l1), (2, .int l2), (3, .int l3), (4, .long l4), (6, .long l6), (8, .int l8), (9, .int l9), (10, .int l10), (11, .int l11), (12, .int l12)]) (h : J_X9_multiplyBy_96 N k36 a0 l1 l2 l3 l4 l6 l8 l9 l10 l11 l12 k0 k1 k2 s = some (r, sF)) : V X (cX9_multiplyBy, RX9, 13, 4, 116, false) (vRet sF none none) sF s (G0 X 96 ls [.int k2, .int k1, .ref (xb X + k0)]) := by
  unfold J_X9_multiplyBy_96 at h
  refine k_X9_lookInto h qmX9_203 (by decide) hl.1 (Nat.le_of_ble_eq_true rfl) dX9_multiplyBy_96 (fun v13 s h => ?_)
  refine v_aload_n dX9_multiplyBy_99 rfl (lv_at hl 0 rfl) ?_
  refine v_iload_n dX9_multiplyBy_100 rfl (lv_at hl 2 rfl) ?_
  refine v_iload dX9_multiplyBy_101 (lv_at hl 7 rfl) ?_
  refine v_iload_n dX9_multiplyBy_103 rfl (lv_at hl 3 rfl) ?_
  refine v_iload dX9_multiplyBy_104 (lv_at hl 8 rfl) ?_
  refine v_iload_n dX9_multiplyBy_106 rfl (lv_at hl 1 rfl) ?_
  refine v_iconst (1 : Int32) dX9_multiplyBy_107 (by decide) ?_
  refine v_icmp_ne 115 dX9_multiplyBy_108 (by decide) h (fun h => ?_) (fun h => ?_)
  · refine v_iconst (-1 : Int32) dX9_multiplyBy_115 (by decide) ?_
    exact L_X9_multiplyBy_116 N k36 hk36 a0 l1 l2 l3 l4 l6 l8 l9 l10 l11 l12 a0 l2 l9 l3 l10 (-1 : Int32) s ls (lv_sub hl [0, 1, 2, 3, 4, 5, 6, 7, 8, 9, 10] rfl) h
  · refine v_iconst (0 : Int32) dX9_multiplyBy_111 (by decide) ?_
    refine v_goto 116 dX9_multiplyBy_112 (by decide) ?_
    exact L_X9_multiplyBy_116 N k36 hk36 a0 l1 l2 l3 l4 l6 l8 l9 l10 l11 l12 a0 l2 l9 l3 l10 (0 : Int32) s ls (lv_sub hl [0, 1, 2, 3, 4, 5, 6, 7, 8, 9, 10] rfl) h
set_option maxHeartbeats 4000000 in
set_option maxRecDepth 100000 in
theorem L_X9_multiplyBy_50 {X : VX} {sF : vS} {r : Unit} (N : Nat) (k36 : Nat → Int32 → Int32 → Int32 → Int64 → Int64 → Int32 → Int32 → Int32 → Int32 → Int32 → vS → Option (Unit × vS)) (hk36 : ∀ (a0 : Nat) (l1 : Int32) (l2 : Int32) (l3 : Int32) (l4 : Int64) (l6 : Int64) (l8 : Int32) (l9 : Int32) (l10 : Int32) (l11 : Int32) (l12 : Int32) (s : vS) (ls : Array Slot), lv_has ls 13 [(0, .ref (xb X + a0)), (1, .int l1), (2, .int l2), (3, .int l3), (4, .long l4), (6, .long l6), (8, .int l8), (9, .int l9), (10, .int l10), (11, .int l11), (12, .int l12)] → k36 a0 l1 l2 l3 l4 l6 l8 l9 l10 l11 l12 s = some (r, sF) → V X (cX9_multiplyBy, RX9, 13, 4, 116, false) (vRet sF none none) sF s (G0 X 36 ls [])) (a0 : Nat) (l1 : Int32) (l2 : Int32) (l3 : Int32) (l4 : Int64) (l6 : Int64) (l8 : Int32) (l9 : Int32) (l10 : Int32) (l11 : Int32) (l12 : Int32) (k0 : Int32) (k1 : Int32) (s : vS) (ls : Array Slot) (hl : lv_has ls 13 [(0, .ref (xb X + a0)), (1, .int l1), (2, .int l2), (3, .int l3), (4, .long l4), (6, .long l6), (8, .int l8), (9, .int l9), (10, .int l10), (11, .int l11), (12, .int l12)]) (h : J_X9_multiplyBy_50 N k36 a0 l1 l2 l3 l4 l6 l8 l9 l10 l11 l12 k0 k1 s = some (r, sF)) : V X (cX9_multiplyBy, RX9, 13, 4, 116, false) (vRet sF none none) sF s (G0 X 50 ls [.int k1, .int k0]) := by
  unfold J_X9_multiplyBy_50 at h
  refine v_icmp_ge 158 dX9_multiplyBy_50 (by decide) h (fun h => ?_) (fun h => ?_)
  · exact v_vret dX9_multiplyBy_158 h
  · refine v_aload_n dX9_multiplyBy_53 rfl (lv_at hl 0 rfl) ?_
    refine v_getR 9 0 h (by decide) rfl qfX9_28 dX9_multiplyBy_54 (fun r6 h => ?_)
    refine v_iload_n dX9_multiplyBy_57 rfl (lv_at hl 1 rfl) ?_
    refine v_iload dX9_multiplyBy_58 (lv_at hl 10 rfl) ?_
    refine k_X9_sizeBy h qmX9_199 (by decide) hl.1 (Nat.le_of_ble_eq_true rfl) dX9_multiplyBy_60 (fun v7 s h => ?_)
    refine v_iload dX9_multiplyBy_63 (lv_at hl 9 rfl) ?_
    refine v_icmp_ne 152 dX9_multiplyBy_65 (by decide) h (fun h => ?_) (fun h => ?_)
    · exact L_X9_multiplyBy_152 N k36 hk36 a0 l1 l2 l3 l4 l6 l8 l9 l10 l11 l12 s ls (lv_sub hl [0, 1, 2, 3, 4, 5, 6, 7, 8, 9, 10] rfl) h
    · refine v_aload_n dX9_multiplyBy_68 rfl (lv_at hl 0 rfl) ?_
      refine v_iload dX9_multiplyBy_69 (lv_at hl 9 rfl) ?_
      refine v_iload_n dX9_multiplyBy_71 rfl (lv_at hl 1 rfl) ?_
      refine v_iconst (1 : Int32) dX9_multiplyBy_72 (by decide) ?_
      refine v_icmp_ne 89 dX9_multiplyBy_73 (by decide) h (fun h => ?_) (fun h => ?_)
      · refine v_aload_n dX9_multiplyBy_89 rfl (lv_at hl 0 rfl) ?_
        refine v_getR 9 1 h (by decide) rfl qfX9_31 dX9_multiplyBy_90 (fun r8 h => ?_)
        refine v_iload dX9_multiplyBy_93 (lv_at hl 10 rfl) ?_
        refine v_iald dX9_multiplyBy_95 h (fun v9 h => ?_)
        exact L_X9_multiplyBy_96 N k36 hk36 a0 l1 l2 l3 l4 l6 l8 l9 l10 l11 l12 a0 l11 v9 s ls (lv_sub hl [0, 1, 2, 3, 4, 5, 6, 7, 8, 9, 10] rfl) h
      · refine v_aload_n dX9_multiplyBy_76 rfl (lv_at hl 0 rfl) ?_
        refine v_getR 9 1 h (by decide) rfl qfX9_31 dX9_multiplyBy_77 (fun r10 h => ?_)
        refine v_bipush (19 : Int32) dX9_multiplyBy_80 (by decide) ?_
        refine v_iload dX9_multiplyBy_82 (lv_at hl 10 rfl) ?_
        refine v_iadd dX9_multiplyBy_84 ?_
        refine v_iald dX9_multiplyBy_85 h (fun v11 h => ?_)
        refine v_goto 96 dX9_multiplyBy_86 (by decide) ?_
        exact L_X9_multiplyBy_96 N k36 hk36 a0 l1 l2 l3 l4 l6 l8 l9 l10 l11 l12 a0 l11 v11 s ls (lv_sub hl [0, 1, 2, 3, 4, 5, 6, 7, 8, 9, 10] rfl) h
set_option maxHeartbeats 4000000 in
set_option maxRecDepth 100000 in
theorem L_X9_multiplyBy_36 {X : VX} {sF : vS} {r : Unit} (N : Nat) : ∀ (n : Nat) (a0 : Nat) (l1 : Int32) (l2 : Int32) (l3 : Int32) (l4 : Int64) (l6 : Int64) (l8 : Int32) (l9 : Int32) (l10 : Int32) (l11 : Int32) (l12 : Int32) (s : vS) (ls : Array Slot), lv_has ls 13 [(0, .ref (xb X + a0)), (1, .int l1), (2, .int l2), (3, .int l3), (4, .long l4), (6, .long l6), (8, .int l8), (9, .int l9), (10, .int l10), (11, .int l11), (12, .int l12)] → H_X9_multiplyBy_36 N n a0 l1 l2 l3 l4 l6 l8 l9 l10 l11 l12 s = some (r, sF) → V X (cX9_multiplyBy, RX9, 13, 4, 116, false) (vRet sF none none) sF s (G0 X 36 ls []) := by
  intro n
  induction n with
  | zero => intro a0 l1 l2 l3 l4 l6 l8 l9 l10 l11 l12 s ls hl h; cases h
  | succ n ih =>
   intro a0 l1 l2 l3 l4 l6 l8 l9 l10 l11 l12 s ls hl h
   unfold H_X9_multiplyBy_36 at h
   refine v_iload dX9_multiplyBy_36 (lv_at hl 10 rfl) ?_
   refine v_iload_n dX9_multiplyBy_38 rfl (lv_at hl 1 rfl) ?_
   refine v_iconst (1 : Int32) dX9_multiplyBy_39 (by decide) ?_
   refine v_icmp_ne 48 dX9_multiplyBy_40 (by decide) h (fun h => ?_) (fun h => ?_)
   · refine v_bipush (19 : Int32) dX9_multiplyBy_48 (by decide) ?_
     exact L_X9_multiplyBy_50 N (H_X9_multiplyBy_36 N n) ih a0 l1 l2 l3 l4 l6 l8 l9 l10 l11 l12 l12 (19 : Int32) s ls (lv_sub hl [0, 1, 2, 3, 4, 5, 6, 7, 8, 9, 10] rfl) h
   · refine v_bipush (29 : Int32) dX9_multiplyBy_43 (by decide) ?_
     refine v_goto 50 dX9_multiplyBy_45 (by decide) ?_
     exact L_X9_multiplyBy_50 N (H_X9_multiplyBy_36 N n) ih a0 l1 l2 l3 l4 l6 l8 l9 l10 l11 l12 l12 (29 : Int32) s ls (lv_sub hl [0, 1, 2, 3, 4, 5, 6, 7, 8, 9, 10] rfl) h
theorem vl_X9_multiplyBy : vCl yX9_multiplyBy cX9_multiplyBy 13 none 6 := ⟨qy_X9_multiplyBy, qjX9, by decide +kernel, by decide +kernel, by decide +kernel⟩
set_option maxHeartbeats 4000000 in
set_option maxRecDepth 100000 in
theorem c_X9_multiplyBy {l : Launch} {D : va_G} {ka : Nat → ClassId} (X0 : VX) (N : Nat) (a0 : Nat) (l1 : Int32) (l2 : Int32) (l3 : Int32) (l4 : Int64) (l6 : Int64) (l8 : Int32) (s sF : vS) (r : Unit) (h : F_X9_multiplyBy N a0 l1 l2 l3 l4 l6 l8 s = some (r, sF)) : isO s a0 9 = true ∧ vMet l D ka (xb X0) yX9_multiplyBy cX9_multiplyBy 13 none 4 116 [.ref (xb X0 + a0), .int l1, .int l2, .int l3, .long l4, .long l6, .int l8] s sF none := by
  unfold F_X9_multiplyBy at h
  unfold rcv at h
  obtain ⟨hO, h⟩ := v_chk h
  refine ⟨hO, vMet.of (ini := false) X0 (plainFor_of_name (by decide +kernel)) (Nat.le_of_ble_eq_true rfl) (fun h => by cases h) (fun X ls hb hl => ?_) rfl⟩
  show V X (cX9_multiplyBy, RX9, 13, 4, 116, false) (vRet sF none none) sF s (G0 X 0 ls [])
  rw [← hb] at hl
  have hl : lv_has ls 13 [(0, .ref (xb X + a0)), (1, .int l1), (2, .int l2), (3, .int l3), (4, .long l4), (6, .long l6), (8, .int l8)] := hl
  refine v_aload_n dX9_multiplyBy_0 rfl (lv_at hl 0 rfl) ?_
  refine v_getR 9 0 h (by decide) rfl qfX9_28 dX9_multiplyBy_1 (fun r1 h => ?_)
  refine v_iload_n dX9_multiplyBy_4 rfl (lv_at hl 1 rfl) ?_
  refine v_iload_n dX9_multiplyBy_5 rfl (lv_at hl 2 rfl) ?_
  refine k_X9_sizeBy h qmX9_199 (by decide) hl.1 (Nat.le_of_ble_eq_true rfl) dX9_multiplyBy_6 (fun v2 s h => ?_)
  refine v_istore [(9, .int v2), (0, .ref (xb X + a0)), (1, .int l1), (2, .int l2), (3, .int l3), (4, .long l4), (6, .long l6), (8, .int l8)] dX9_multiplyBy_9 hl (by decide) rfl (fun ls hl => ?_)
  refine v_aload_n dX9_multiplyBy_11 rfl (lv_at hl 1 rfl) ?_
  refine v_getR 9 0 h (by decide) rfl qfX9_28 dX9_multiplyBy_12 (fun r3 h => ?_)
  refine v_iload_n dX9_multiplyBy_15 rfl (lv_at hl 2 rfl) ?_
  refine v_iload_n dX9_multiplyBy_16 rfl (lv_at hl 4 rfl) ?_
  refine k_X9_sizeBy h qmX9_199 (by decide) hl.1 (Nat.le_of_ble_eq_true rfl) dX9_multiplyBy_17 (fun v4 s h => ?_)
  refine v_istore [(10, .int v4), (9, .int v2), (0, .ref (xb X + a0)), (1, .int l1), (2, .int l2), (3, .int l3), (4, .long l4), (6, .long l6), (8, .int l8)] dX9_multiplyBy_20 hl (by decide) rfl (fun ls hl => ?_)
  refine v_iload dX9_multiplyBy_22 (lv_at hl 1 rfl) ?_
  refine v_iload dX9_multiplyBy_24 (lv_at hl 0 rfl) ?_
  refine v_iadd dX9_multiplyBy_26 ?_
  refine v_iload_n dX9_multiplyBy_27 rfl (lv_at hl 3 rfl) ?_
  refine v_iconst (2 : Int32) dX9_multiplyBy_28 (by decide) ?_
  refine v_irem dX9_multiplyBy_29 h (fun h => ?_)
  refine v_isub dX9_multiplyBy_30 ?_
  refine v_nmI h (fun l11_5 h => ?_)
  refine v_istore [(11, .int l11_5), (10, .int v4), (9, .int v2), (0, .ref (xb X + a0)), (1, .int l1), (2, .int l2), (3, .int l3), (4, .long l4), (6, .long l6), (8, .int l8)] dX9_multiplyBy_31 hl (by decide) rfl (fun ls hl => ?_)
  refine v_iconst (0 : Int32) dX9_multiplyBy_33 (by decide) ?_
  refine v_istore [(12, .int (0 : Int32)), (11, .int l11_5), (10, .int v4), (9, .int v2), (0, .ref (xb X + a0)), (1, .int l1), (2, .int l2), (3, .int l3), (4, .long l4), (6, .long l6), (8, .int l8)] dX9_multiplyBy_34 hl (by decide) rfl (fun ls hl => ?_)
  exact L_X9_multiplyBy_36 N N a0 l1 l2 l3 l4 l6 l8 v2 v4 l11_5 (0 : Int32) s ls (lv_sub hl [4, 5, 6, 7, 8, 9, 10, 3, 2, 1, 0] rfl) h
theorem k_X9_multiplyBy {X : VX} {cc : ByteArray} {own : String} {nL fr lo : Nat} {ini : Bool} {E : VX → Prop} {sF s : vS} {ρ : Type} {res : ρ} {pc : Nat} {ls : Array Slot} {rest : List Value} {N index : Nat} {a0 : Nat} {l1 : Int32} {l2 : Int32} {l3 : Int32} {l4 : Int64} {l6 : Int64} {l8 : Int32} {f : Unit → vS → Option ρ} (h : bnd (F_X9_multiplyBy N a0 l1 l2 l3 l4 l6 l8 s) f = some res) (hlink : Cond.methodLink own index yX9_multiplyBy ∈ TT) (hR : 4 + 1 ≤ fr ∧ 8 + (13 + 11) + 116 ≤ lo) (hls : ls.size = nL) (hr : (rest.map fun v => v.category).sum ≤ 8) (hdg : decode cc pc = .ok (.invokevirtual index, 3)) (kk : ∀ r s', f r s' = some res → V X (cc, own, nL, fr, lo, ini) E sF s' (G0 X (pc + 3) ls (rest))) : V X (cc, own, nL, fr, lo, ini) E sF s (G0 X pc ls (.int l8 :: .long l6 :: .long l4 :: .int l3 :: .int l2 :: .int l1 :: .ref (xb X + a0) :: rest)) := by
  obtain ⟨r, s', e, h⟩ := bnd_some h
  exact v_callV (b := a0) (ci := 9) (As := [.int l1, .int l2, .int l3, .long l4, .long l6, .int l8]) (rest := rest) (c_X9_multiplyBy X N a0 l1 l2 l3 l4 l6 l8 s s' r e).2 (c_X9_multiplyBy (l := xl X) (D := xD X) (ka := xka X) X N a0 l1 l2 l3 l4 l6 l8 s s' r e).1 rfl vl_X9_multiplyBy qi_X9_multiplyBy qe_X9_multiplyBy hlink hR rfl rfl hls hr hdg (kk r s' h)
set_option maxHeartbeats 4000000 in
set_option maxRecDepth 100000 in
theorem L_X9_multiply_162 {X : VX} {sF : vS} {r : Unit} (N : Nat) (k40 : Nat → Int32 → Int32 → Int32 → Int32 → Int32 → vS → Option (Unit × vS)) (k50 : Nat → Int32 → Int32 → Int32 → Int32 → Int32 → Int32 → vS → Option (Unit × vS)) (hk40 : ∀ (a0 : Nat) (l1 : Int32) (l2 : Int32) (l3 : Int32) (l4 : Int32) (l5 : Int32) (s : vS) (ls : Array Slot), lv_has ls 7 [(0, .ref (xb X + a0)), (1, .int l1), (2, .int l2), (3, .int l3), (4, .int l4), (5, .int l5)] → k40 a0 l1 l2 l3 l4 l5 s = some (r, sF) → V X (cX9_multiply, RX9, 7, 5, 148, false) (vRet sF none none) sF s (G0 X 40 ls [])) (hk50 : ∀ (a0 : Nat) (l1 : Int32) (l2 : Int32) (l3 : Int32) (l4 : Int32) (l5 : Int32) (l6 : Int32) (s : vS) (ls : Array Slot), lv_has ls 7 [(0, .ref (xb X + a0)), (1, .int l1), (2, .int l2), (3, .int l3), (4, .int l4), (5, .int l5), (6, .int l6)] → k50 a0 l1 l2 l3 l4 l5 l6 s = some (r, sF) → V X (cX9_multiply, RX9, 7, 5, 148, false) (vRet sF none none) sF s (G0 X 50 ls [])) (a0 : Nat) (l1 : Int32) (l2 : Int32) (l3 : Int32) (l4 : Int32) (l5 : Int32) (l6 : Int32) (s : vS) (ls : Array Slot) (hl : lv_has ls 7 [(0, .ref (xb X + a0)), (1, .int l1), (2, .int l2), (3, .int l3), (4, .int l4), (5, .int l5), (6, .int l6)]) (h : J_X9_multiply_162 N k40 k50 a0 l1 l2 l3 l4 l5 l6 s = some (r, sF)) : V X (cX9_multiply, RX9, 7, 5, 148, false) (vRet sF none none) sF s (G0 X 162 ls []) := by
  unfold J_X9_multiply_162 at h
  refine v_inc (fun z => [(6, .int z), (0, .ref (xb X + a0)), (1, .int l1), (2, .int l2), (3, .int l3), (4, .int l4), (5, .int l5)]) dX9_multiply_162 h hl (k := 6) rfl (by rfl) (by decide) (fun _ => rfl) (fun l6_29 ls hl h => ?_)
  refine v_goto 50 dX9_multiply_165 (by decide) ?_
  exact hk50 a0 l1 l2 l3 l4 l5 l6_29 s ls (lv_sub hl [1, 2, 3, 4, 5, 6, 0] rfl) h
set_option maxHeartbeats 4000000 in
set_option maxRecDepth 100000 in
theorem L_X9_multiply_50 {X : VX} {sF : vS} {r : Unit} (N : Nat) (k40 : Nat → Int32 → Int32 → Int32 → Int32 → Int32 → vS → Option (Unit × vS)) (hk40 : ∀ (a0 : Nat) (l1 : Int32) (l2 : Int32) (l3 : Int32) (l4 : Int32) (l5 : Int32) (s : vS) (ls : Array Slot), lv_has ls 7 [(0, .ref (xb X + a0)), (1, .int l1), (2, .int l2), (3, .int l3), (4, .int l4), (5, .int l5)] → k40 a0 l1 l2 l3 l4 l5 s = some (r, sF) → V X (cX9_multiply, RX9, 7, 5, 148, false) (vRet sF none none) sF s (G0 X 40 ls [])) : ∀ (n : Nat) (a0 : Nat) (l1 : Int32) (l2 : Int32) (l3 : Int32) (l4 : Int32) (l5 : Int32) (l6 : Int32) (s : vS) (ls : Array Slot), lv_has ls 7 [(0, .ref (xb X + a0)), (1, .int l1), (2, .int l2), (3, .int l3), (4, .int l4), (5, .int l5), (6, .int l6)] → H_X9_multiply_50 N k40 n a0 l1 l2 l3 l4 l5 l6 s = some (r, sF) → V X (cX9_multiply, RX9, 7, 5, 148, false) (vRet sF none none) sF s (G0 X 50 ls []) := by
  intro n
  induction n with
  | zero => intro a0 l1 l2 l3 l4 l5 l6 s ls hl h; cases h
  | succ n ih =>
   intro a0 l1 l2 l3 l4 l5 l6 s ls hl h
   unfold H_X9_multiply_50 at h
   refine v_iload dX9_multiply_50 (lv_at hl 6 rfl) ?_
   refine v_bipush (29 : Int32) dX9_multiply_52 (by decide) ?_
   refine v_icmp_ge 168 dX9_multiply_54 (by decide) h (fun h => ?_) (fun h => ?_)
   · refine v_inc (fun z => [(5, .int z), (0, .ref (xb X + a0)), (1, .int l1), (2, .int l2), (3, .int l3), (4, .int l4), (6, .int l6)]) dX9_multiply_168 h hl (k := 5) rfl (by rfl) (by decide) (fun _ => rfl) (fun l5_12 ls hl h => ?_)
     refine v_goto 40 dX9_multiply_171 (by decide) ?_
     exact hk40 a0 l1 l2 l3 l4 l5_12 s ls (lv_sub hl [1, 2, 3, 4, 5, 0] rfl) h
   · refine v_aload_n dX9_multiply_57 rfl (lv_at hl 0 rfl) ?_
     refine v_iload_n dX9_multiply_58 rfl (lv_at hl 1 rfl) ?_
     refine v_iload dX9_multiply_59 (lv_at hl 5 rfl) ?_
     refine k_X9_isTerm h qmX9_179 (by decide) hl.1 (Nat.le_of_ble_eq_true rfl) dX9_multiply_61 (fun v13 s h => ?_)
     refine v_if_eq 162 dX9_multiply_64 (by decide) h (fun h => ?_) (fun h => ?_)
     · exact L_X9_multiply_162 N k40 (H_X9_multiply_50 N k40 n) hk40 ih a0 l1 l2 l3 l4 l5 l6 s ls (lv_sub hl [0, 1, 2, 3, 4, 5, 6] rfl) h
     · refine v_aload_n dX9_multiply_67 rfl (lv_at hl 0 rfl) ?_
       refine v_iload_n dX9_multiply_68 rfl (lv_at hl 2 rfl) ?_
       refine v_iload dX9_multiply_69 (lv_at hl 6 rfl) ?_
       refine k_X9_isTerm h qmX9_179 (by decide) hl.1 (Nat.le_of_ble_eq_true rfl) dX9_multiply_71 (fun v14 s h => ?_)
       refine v_if_eq 162 dX9_multiply_74 (by decide) h (fun h => ?_) (fun h => ?_)
       · exact L_X9_multiply_162 N k40 (H_X9_multiply_50 N k40 n) hk40 ih a0 l1 l2 l3 l4 l5 l6 s ls (lv_sub hl [0, 1, 2, 3, 4, 5, 6] rfl) h
       · refine v_aload_n dX9_multiply_77 rfl (lv_at hl 0 rfl) ?_
         refine v_getI 9 25 h (by decide) (Or.inr rfl) qfX9_168 dX9_multiply_78 (fun v15 h => ?_)
         refine v_if_ne 162 dX9_multiply_81 (by decide) h (fun h => ?_) (fun h => ?_)
         · exact L_X9_multiply_162 N k40 (H_X9_multiply_50 N k40 n) hk40 ih a0 l1 l2 l3 l4 l5 l6 s ls (lv_sub hl [0, 1, 2, 3, 4, 5, 6] rfl) h
         · refine v_aload_n dX9_multiply_84 rfl (lv_at hl 0 rfl) ?_
           refine v_aload_n dX9_multiply_85 rfl (lv_at hl 0 rfl) ?_
           refine v_getR 9 11 h (by decide) rfl qfX9_59 dX9_multiply_86 (fun r16 h => ?_)
           refine v_bipush (29 : Int32) dX9_multiply_89 (by decide) ?_
           refine v_iload_n dX9_multiply_91 rfl (lv_at hl 1 rfl) ?_
           refine v_imul dX9_multiply_92 ?_
           refine v_iload dX9_multiply_93 (lv_at hl 5 rfl) ?_
           refine v_iadd dX9_multiply_95 ?_
           refine v_lald dX9_multiply_96 h (fun v17 h => ?_)
           refine v_aload_n dX9_multiply_97 rfl (lv_at hl 0 rfl) ?_
           refine v_getR 9 12 h (by decide) rfl qfX9_63 dX9_multiply_98 (fun r18 h => ?_)
           refine v_bipush (29 : Int32) dX9_multiply_101 (by decide) ?_
           refine v_iload_n dX9_multiply_103 rfl (lv_at hl 1 rfl) ?_
           refine v_imul dX9_multiply_104 ?_
           refine v_iload dX9_multiply_105 (lv_at hl 5 rfl) ?_
           refine v_iadd dX9_multiply_107 ?_
           refine v_lald dX9_multiply_108 h (fun v19 h => ?_)
           refine v_aload_n dX9_multiply_109 rfl (lv_at hl 0 rfl) ?_
           refine v_getR 9 11 h (by decide) rfl qfX9_59 dX9_multiply_110 (fun r20 h => ?_)
           refine v_bipush (29 : Int32) dX9_multiply_113 (by decide) ?_
           refine v_iload_n dX9_multiply_115 rfl (lv_at hl 2 rfl) ?_
           refine v_imul dX9_multiply_116 ?_
           refine v_iload dX9_multiply_117 (lv_at hl 6 rfl) ?_
           refine v_iadd dX9_multiply_119 ?_
           refine v_lald dX9_multiply_120 h (fun v21 h => ?_)
           refine v_aload_n dX9_multiply_121 rfl (lv_at hl 0 rfl) ?_
           refine v_getR 9 12 h (by decide) rfl qfX9_63 dX9_multiply_122 (fun r22 h => ?_)
           refine v_bipush (29 : Int32) dX9_multiply_125 (by decide) ?_
           refine v_iload_n dX9_multiply_127 rfl (lv_at hl 2 rfl) ?_
           refine v_imul dX9_multiply_128 ?_
           refine v_iload dX9_multiply_129 (lv_at hl 6 rfl) ?_
           refine v_iadd dX9_multiply_131 ?_
           refine v_lald dX9_multiply_132 h (fun v23 h => ?_)
           refine k_X9_times h qmX9_186 (by decide) hl.1 (Nat.le_of_ble_eq_true rfl) dX9_multiply_133 (fun v24 s h => ?_)
           refine v_aload_n dX9_multiply_136 rfl (lv_at hl 0 rfl) ?_
           refine v_getI 9 25 h (by decide) (Or.inr rfl) qfX9_168 dX9_multiply_137 (fun v25 h => ?_)
           refine v_if_ne 162 dX9_multiply_140 (by decide) h (fun h => ?_) (fun h => ?_)
           · exact L_X9_multiply_162 N k40 (H_X9_multiply_50 N k40 n) hk40 ih a0 l1 l2 l3 l4 l5 l6 s ls (lv_sub hl [0, 1, 2, 3, 4, 5, 6] rfl) h
           · refine v_aload_n dX9_multiply_143 rfl (lv_at hl 0 rfl) ?_
             refine v_iload dX9_multiply_144 (lv_at hl 4 rfl) ?_
             refine v_iload dX9_multiply_146 (lv_at hl 5 rfl) ?_
             refine v_iload dX9_multiply_148 (lv_at hl 6 rfl) ?_
             refine v_aload_n dX9_multiply_150 rfl (lv_at hl 0 rfl) ?_
             refine v_getJ 9 23 h (by decide) rfl qfX9_150 dX9_multiply_151 (fun v26 h => ?_)
             refine v_aload_n dX9_multiply_154 rfl (lv_at hl 0 rfl) ?_
             refine v_getJ 9 24 h (by decide) rfl qfX9_154 dX9_multiply_155 (fun v27 h => ?_)
             refine v_iload_n dX9_multiply_158 rfl (lv_at hl 3 rfl) ?_
             refine k_X9_multiplyBy h qmX9_213 (by decide) hl.1 (Nat.le_of_ble_eq_true rfl) dX9_multiply_159 (fun v28 s h => ?_)
             exact L_X9_multiply_162 N k40 (H_X9_multiply_50 N k40 n) hk40 ih a0 l1 l2 l3 l4 l5 l6 s ls (lv_sub hl [0, 1, 2, 3, 4, 5, 6] rfl) h
set_option maxHeartbeats 4000000 in
set_option maxRecDepth 100000 in
theorem L_X9_multiply_40 {X : VX} {sF : vS} {r : Unit} (N : Nat) : ∀ (n : Nat) (a0 : Nat) (l1 : Int32) (l2 : Int32) (l3 : Int32) (l4 : Int32) (l5 : Int32) (s : vS) (ls : Array Slot), lv_has ls 7 [(0, .ref (xb X + a0)), (1, .int l1), (2, .int l2), (3, .int l3), (4, .int l4), (5, .int l5)] → H_X9_multiply_40 N n a0 l1 l2 l3 l4 l5 s = some (r, sF) → V X (cX9_multiply, RX9, 7, 5, 148, false) (vRet sF none none) sF s (G0 X 40 ls []) := by
  intro n
  induction n with
  | zero => intro a0 l1 l2 l3 l4 l5 s ls hl h; cases h
  | succ n ih =>
   intro a0 l1 l2 l3 l4 l5 s ls hl h
   unfold H_X9_multiply_40 at h
   refine v_iload dX9_multiply_40 (lv_at hl 5 rfl) ?_
   refine v_bipush (29 : Int32) dX9_multiply_42 (by decide) ?_
   refine v_icmp_ge 174 dX9_multiply_44 (by decide) h (fun h => ?_) (fun h => ?_)
   · refine v_aload_n dX9_multiply_174 rfl (lv_at hl 0 rfl) ?_
     refine v_getR 9 10 h (by decide) rfl qfX9_56 dX9_multiply_175 (fun r10 h => ?_)
     refine v_iload_n dX9_multiply_178 rfl (lv_at hl 3 rfl) ?_
     refine v_iload dX9_multiply_179 (lv_at hl 4 rfl) ?_
     refine v_iast dX9_multiply_181 h (fun s h => ?_)
     refine v_aload_n dX9_multiply_182 rfl (lv_at hl 0 rfl) ?_
     refine v_iload_n dX9_multiply_183 rfl (lv_at hl 3 rfl) ?_
     refine k_X9_settle h qmX9_192 (by decide) hl.1 (Nat.le_of_ble_eq_true rfl) dX9_multiply_184 (fun v11 s h => ?_)
     exact v_vret dX9_multiply_187 h
   · refine v_iconst (0 : Int32) dX9_multiply_47 (by decide) ?_
     refine v_istore [(6, .int (0 : Int32)), (0, .ref (xb X + a0)), (1, .int l1), (2, .int l2), (3, .int l3), (4, .int l4), (5, .int l5)] dX9_multiply_48 hl (by decide) rfl (fun ls hl => ?_)
     exact L_X9_multiply_50 N (H_X9_multiply_40 N n) ih N a0 l1 l2 l3 l4 l5 (0 : Int32) s ls (lv_sub hl [1, 2, 3, 4, 5, 6, 0] rfl) h
set_option maxHeartbeats 4000000 in
set_option maxRecDepth 100000 in
theorem L_X9_multiply_30 {X : VX} {sF : vS} {r : Unit} (N : Nat) (a0 : Nat) (l1 : Int32) (l2 : Int32) (l3 : Int32) (k0 : Int32) (s : vS) (ls : Array Slot) (hl : lv_has ls 7 [(0, .ref (xb X + a0)), (1, .int l1), (2, .int l2), (3, .int l3)]) (h : J_X9_multiply_30 N a0 l1 l2 l3 k0 s = some (r, sF)) : V X (cX9_multiply, RX9, 7, 5, 148, false) (vRet sF none none) sF s (G0 X 30 ls [.int k0]) := by
  unfold J_X9_multiply_30 at h
  refine v_istore [(4, .int k0), (0, .ref (xb X + a0)), (1, .int l1), (2, .int l2), (3, .int l3)] dX9_multiply_30 hl (by decide) rfl (fun ls hl => ?_)
  refine v_aload_n dX9_multiply_32 rfl (lv_at hl 1 rfl) ?_
  refine v_iload_n dX9_multiply_33 rfl (lv_at hl 4 rfl) ?_
  refine k_X9_empty h qmX9_210 (by decide) hl.1 (Nat.le_of_ble_eq_true rfl) dX9_multiply_34 (fun v9 s h => ?_)
  refine v_iconst (0 : Int32) dX9_multiply_37 (by decide) ?_
  refine v_istore [(5, .int (0 : Int32)), (4, .int k0), (0, .ref (xb X + a0)), (1, .int l1), (2, .int l2), (3, .int l3)] dX9_multiply_38 hl (by decide) rfl (fun ls hl => ?_)
  exact L_X9_multiply_40 N N a0 l1 l2 l3 k0 (0 : Int32) s ls (lv_sub hl [2, 3, 4, 5, 1, 0] rfl) h
theorem vl_X9_multiply : vCl yX9_multiply cX9_multiply 7 none 3 := ⟨qy_X9_multiply, qjX9, by decide +kernel, by decide +kernel, by decide +kernel⟩
set_option maxHeartbeats 4000000 in
set_option maxRecDepth 100000 in
theorem c_X9_multiply {l : Launch} {D : va_G} {ka : Nat → ClassId} (X0 : VX) (N : Nat) (a0 : Nat) (l1 : Int32) (l2 : Int32) (l3 : Int32) (s sF : vS) (r : Unit) (h : F_X9_multiply N a0 l1 l2 l3 s = some (r, sF)) : isO s a0 9 = true ∧ vMet l D ka (xb X0) yX9_multiply cX9_multiply 7 none 5 148 [.ref (xb X0 + a0), .int l1, .int l2, .int l3] s sF none := by
  unfold F_X9_multiply at h
  unfold rcv at h
  obtain ⟨hO, h⟩ := v_chk h
  refine ⟨hO, vMet.of (ini := false) X0 (plainFor_of_name (by decide +kernel)) (Nat.le_of_ble_eq_true rfl) (fun h => by cases h) (fun X ls hb hl => ?_) rfl⟩
  show V X (cX9_multiply, RX9, 7, 5, 148, false) (vRet sF none none) sF s (G0 X 0 ls [])
  rw [← hb] at hl
  have hl : lv_has ls 7 [(0, .ref (xb X + a0)), (1, .int l1), (2, .int l2), (3, .int l3)] := hl
  refine v_aload_n dX9_multiply_0 rfl (lv_at hl 0 rfl) ?_
  refine v_getR 9 10 h (by decide) rfl qfX9_56 dX9_multiply_1 (fun r1 h => ?_)
  refine v_iload_n dX9_multiply_4 rfl (lv_at hl 1 rfl) ?_
  refine v_iald dX9_multiply_5 h (fun v2 h => ?_)
  refine v_aload_n dX9_multiply_6 rfl (lv_at hl 0 rfl) ?_
  refine v_getR 9 10 h (by decide) rfl qfX9_56 dX9_multiply_7 (fun r3 h => ?_)
  refine v_iload_n dX9_multiply_10 rfl (lv_at hl 2 rfl) ?_
  refine v_iald dX9_multiply_11 h (fun v4 h => ?_)
  refine v_icmp_ge 24 dX9_multiply_12 (by decide) h (fun h => ?_) (fun h => ?_)
  · refine v_aload_n dX9_multiply_24 rfl (lv_at hl 0 rfl) ?_
    refine v_getR 9 10 h (by decide) rfl qfX9_56 dX9_multiply_25 (fun r5 h => ?_)
    refine v_iload_n dX9_multiply_28 rfl (lv_at hl 2 rfl) ?_
    refine v_iald dX9_multiply_29 h (fun v6 h => ?_)
    exact L_X9_multiply_30 N a0 l1 l2 l3 v6 s ls (lv_sub hl [0, 1, 2, 3] rfl) h
  · refine v_aload_n dX9_multiply_15 rfl (lv_at hl 0 rfl) ?_
    refine v_getR 9 10 h (by decide) rfl qfX9_56 dX9_multiply_16 (fun r7 h => ?_)
    refine v_iload_n dX9_multiply_19 rfl (lv_at hl 1 rfl) ?_
    refine v_iald dX9_multiply_20 h (fun v8 h => ?_)
    refine v_goto 30 dX9_multiply_21 (by decide) ?_
    exact L_X9_multiply_30 N a0 l1 l2 l3 v8 s ls (lv_sub hl [0, 1, 2, 3] rfl) h
theorem k_X9_multiply {X : VX} {cc : ByteArray} {own : String} {nL fr lo : Nat} {ini : Bool} {E : VX → Prop} {sF s : vS} {ρ : Type} {res : ρ} {pc : Nat} {ls : Array Slot} {rest : List Value} {N index : Nat} {a0 : Nat} {l1 : Int32} {l2 : Int32} {l3 : Int32} {f : Unit → vS → Option ρ} (h : bnd (F_X9_multiply N a0 l1 l2 l3 s) f = some res) (hlink : Cond.methodLink own index yX9_multiply ∈ TT) (hR : 5 + 1 ≤ fr ∧ 8 + (7 + 11) + 148 ≤ lo) (hls : ls.size = nL) (hr : (rest.map fun v => v.category).sum ≤ 8) (hdg : decode cc pc = .ok (.invokevirtual index, 3)) (kk : ∀ r s', f r s' = some res → V X (cc, own, nL, fr, lo, ini) E sF s' (G0 X (pc + 3) ls (rest))) : V X (cc, own, nL, fr, lo, ini) E sF s (G0 X pc ls (.int l3 :: .int l2 :: .int l1 :: .ref (xb X + a0) :: rest)) := by
  obtain ⟨r, s', e, h⟩ := bnd_some h
  exact v_callV (b := a0) (ci := 9) (As := [.int l1, .int l2, .int l3]) (rest := rest) (c_X9_multiply X N a0 l1 l2 l3 s s' r e).2 (c_X9_multiply (l := xl X) (D := xD X) (ka := xka X) X N a0 l1 l2 l3 s s' r e).1 rfl vl_X9_multiply qi_X9_multiply qe_X9_multiply hlink hR rfl rfl hls hr hdg (kk r s' h)
set_option maxHeartbeats 4000000 in
set_option maxRecDepth 100000 in
theorem L_X9_liftTo_187 {X : VX} {sF : vS} {r : Unit} (N : Nat) (k16 : Nat → Int32 → Int32 → Int32 → Int32 → Int32 → vS → Option (Unit × vS)) (k26 : Nat → Int32 → Int32 → Int32 → Int32 → Int32 → Int32 → vS → Option (Unit × vS)) (hk16 : ∀ (a0 : Nat) (l1 : Int32) (l2 : Int32) (l3 : Int32) (l4 : Int32) (l5 : Int32) (s : vS) (ls : Array Slot), lv_has ls 7 [(0, .ref (xb X + a0)), (1, .int l1), (2, .int l2), (3, .int l3), (4, .int l4), (5, .int l5)] → k16 a0 l1 l2 l3 l4 l5 s = some (r, sF) → V X (cX9_liftTo, RX9, 7, 4, 116, false) (vRet sF none none) sF s (G0 X 16 ls [])) (hk26 : ∀ (a0 : Nat) (l1 : Int32) (l2 : Int32) (l3 : Int32) (l4 : Int32) (l5 : Int32) (l6 : Int32) (s : vS) (ls : Array Slot), lv_has ls 7 [(0, .ref (xb X + a0)), (1, .int l1), (2, .int l2), (3, .int l3), (4, .int l4), (5, .int l5), (6, .int l6)] → k26 a0 l1 l2 l3 l4 l5 l6 s = some (r, sF) → V X (cX9_liftTo, RX9, 7, 4, 116, false) (vRet sF none none) sF s (G0 X 26 ls [])) (a0 : Nat) (l1 : Int32) (l2 : Int32) (l3 : Int32) (l4 : Int32) (l5 : Int32) (l6 : Int32) (s : vS) (ls : Array Slot) (hl : lv_has ls 7 [(0, .ref (xb X + a0)), (1, .int l1), (2, .int l2), (3, .int l3), (4, .int l4), (5, .int l5), (6, .int l6)]) (h : J_X9_liftTo_187 N k16 k26 a0 l1 l2 l3 l4 l5 l6 s = some (r, sF)) : V X (cX9_liftTo, RX9, 7, 4, 116, false) (vRet sF none none) sF s (G0 X 187 ls []) := by
  unfold J_X9_liftTo_187 at h
  refine v_inc (fun z => [(6, .int z), (0, .ref (xb X + a0)), (1, .int l1), (2, .int l2), (3, .int l3), (4, .int l4), (5, .int l5)]) dX9_liftTo_187 h hl (k := 6) rfl (by rfl) (by decide) (fun _ => rfl) (fun l6_15 ls hl h => ?_)
  refine v_goto 26 dX9_liftTo_190 (by decide) ?_
  exact hk26 a0 l1 l2 l3 l4 l5 l6_15 s ls (lv_sub hl [1, 2, 3, 4, 5, 6, 0] rfl) h
set_option maxHeartbeats 4000000 in
set_option maxRecDepth 100000 in
theorem L_X9_liftTo_132 {X : VX} {sF : vS} {r : Unit} (N : Nat) (k16 : Nat → Int32 → Int32 → Int32 → Int32 → Int32 → vS → Option (Unit × vS)) (k26 : Nat → Int32 → Int32 → Int32 → Int32 → Int32 → Int32 → vS → Option (Unit × vS)) (hk16 : ∀ (a0 : Nat) (l1 : Int32) (l2 : Int32) (l3 : Int32) (l4 : Int32) (l5 : Int32) (s : vS) (ls : Array Slot), lv_has ls 7 [(0, .ref (xb X + a0)), (1, .int l1), (2, .int l2), (3, .int l3), (4, .int l4), (5, .int l5)] → k16 a0 l1 l2 l3 l4 l5 s = some (r, sF) → V X (cX9_liftTo, RX9, 7, 4, 116, false) (vRet sF none none) sF s (G0 X 16 ls [])) (hk26 : ∀ (a0 : Nat) (l1 : Int32) (l2 : Int32) (l3 : Int32) (l4 : Int32) (l5 : Int32) (l6 : Int32) (s : vS) (ls : Array Slot), lv_has ls 7 [(0, .ref (xb X + a0)), (1, .int l1), (2, .int l2), (3, .int l3), (4, .int l4), (5, .int l5), (6, .int l6)] → k26 a0 l1 l2 l3 l4 l5 l6 s = some (r, sF) → V X (cX9_liftTo, RX9, 7, 4, 116, false) (vRet sF none none) sF s (G0 X 26 ls [])) (a0 : Nat) (l1 : Int32) (l2 : Int32) (l3 : Int32) (l4 : Int32) (l5 : Int32) (l6 : Int32) (k0 : Nat) (k1 : Int32) (k2 : Int32) (k3 : Int32) (s : vS) (ls : Array Slot) (hl : lv_has ls 7 [(0, .ref (xb X + a0)), (1, .int l1), (2, .int l2), (3, .int l3), (4, .int l4), (5, .int l5), (6, .int l6)]) (h : J_X9_liftTo_132 N k16 k26 a0 l1 l2 l3 l4 l5 l6 k0 k1 k2 k3 s = some (r, sF)) : V X (cX9_liftTo, RX9, 7, 4, 116, false) (vRet sF none none) sF s (G0 X 132 ls [.int k3, .int k2, .int k1, .ref (xb X + k0)]) := by
  unfold J_X9_liftTo_132 at h
  refine k_X9_insideOf h qmX9_217 (by decide) hl.1 (Nat.le_of_ble_eq_true rfl) dX9_liftTo_132 (fun v19 s h => ?_)
  refine v_aload_n dX9_liftTo_135 rfl (lv_at hl 0 rfl) ?_
  refine v_getJ 9 23 h (by decide) rfl qfX9_150 dX9_liftTo_136 (fun v20 h => ?_)
  refine v_lconst (0 : Int64) dX9_liftTo_139 (by decide) ?_
  refine v_lcmp dX9_liftTo_140 ?_
  refine v_if_eq 187 dX9_liftTo_141 (by decide) h (fun h => ?_) (fun h => ?_)
  · exact L_X9_liftTo_187 N k16 k26 hk16 hk26 a0 l1 l2 l3 l4 l5 l6 s ls (lv_sub hl [0, 1, 2, 3, 4, 5, 6] rfl) h
  · refine v_aload_n dX9_liftTo_144 rfl (lv_at hl 0 rfl) ?_
    refine v_aload_n dX9_liftTo_145 rfl (lv_at hl 0 rfl) ?_
    refine v_getR 9 11 h (by decide) rfl qfX9_59 dX9_liftTo_146 (fun r21 h => ?_)
    refine v_bipush (29 : Int32) dX9_liftTo_149 (by decide) ?_
    refine v_iload_n dX9_liftTo_151 rfl (lv_at hl 1 rfl) ?_
    refine v_imul dX9_liftTo_152 ?_
    refine v_iload dX9_liftTo_153 (lv_at hl 5 rfl) ?_
    refine v_iadd dX9_liftTo_155 ?_
    refine v_lald dX9_liftTo_156 h (fun v22 h => ?_)
    refine v_aload_n dX9_liftTo_157 rfl (lv_at hl 0 rfl) ?_
    refine v_getR 9 12 h (by decide) rfl qfX9_63 dX9_liftTo_158 (fun r23 h => ?_)
    refine v_bipush (29 : Int32) dX9_liftTo_161 (by decide) ?_
    refine v_iload_n dX9_liftTo_163 rfl (lv_at hl 1 rfl) ?_
    refine v_imul dX9_liftTo_164 ?_
    refine v_iload dX9_liftTo_165 (lv_at hl 5 rfl) ?_
    refine v_iadd dX9_liftTo_167 ?_
    refine v_lald dX9_liftTo_168 h (fun v24 h => ?_)
    refine v_aload_n dX9_liftTo_169 rfl (lv_at hl 0 rfl) ?_
    refine v_getJ 9 23 h (by decide) rfl qfX9_150 dX9_liftTo_170 (fun v25 h => ?_)
    refine v_aload_n dX9_liftTo_173 rfl (lv_at hl 0 rfl) ?_
    refine v_getJ 9 24 h (by decide) rfl qfX9_154 dX9_liftTo_174 (fun v26 h => ?_)
    refine k_X9_times h qmX9_186 (by decide) hl.1 (Nat.le_of_ble_eq_true rfl) dX9_liftTo_177 (fun v27 s h => ?_)
    refine v_aload_n dX9_liftTo_180 rfl (lv_at hl 0 rfl) ?_
    refine v_iload_n dX9_liftTo_181 rfl (lv_at hl 3 rfl) ?_
    refine v_iload dX9_liftTo_182 (lv_at hl 6 rfl) ?_
    refine k_X9_addTo h qmX9_189 (by decide) hl.1 (Nat.le_of_ble_eq_true rfl) dX9_liftTo_184 (fun v28 s h => ?_)
    exact L_X9_liftTo_187 N k16 k26 hk16 hk26 a0 l1 l2 l3 l4 l5 l6 s ls (lv_sub hl [0, 1, 2, 3, 4, 5, 6] rfl) h
set_option maxHeartbeats 4000000 in
set_option maxRecDepth 100000 in
theorem L_X9_liftTo_104 {X : VX} {sF : vS} {r : Unit} (N : Nat) (k16 : Nat → Int32 → Int32 → Int32 → Int32 → Int32 → vS → Option (Unit × vS)) (k26 : Nat → Int32 → Int32 → Int32 → Int32 → Int32 → Int32 → vS → Option (Unit × vS)) (hk16 : ∀ (a0 : Nat) (l1 : Int32) (l2 : Int32) (l3 : Int32) (l4 : Int32) (l5 : Int32) (s : vS) (ls : Array Slot), lv_has ls 7 [(0, .ref (xb X + a0)), (1, .int l1), (2, .int l2), (3, .int l3), (4, .int l4), (5, .int l5)] → k16 a0 l1 l2 l3 l4 l5 s = some (r, sF) → V X (cX9_liftTo, RX9, 7, 4, 116, false) (vRet sF none none) sF s (G0 X 16 ls [])) (hk26 : ∀ (a0 : Nat) (l1 : Int32) (l2 : Int32) (l3 : Int32) (l4 : Int32) (l5 : Int32) (l6 : Int32) (s : vS) (ls : Array Slot), lv_has ls 7 [(0, .ref (xb X + a0)), (1, .int l1), (2, .int l2), (3, .int l3), (4, .int l4), (5, .int l5), (6, .int l6)] → k26 a0 l1 l2 l3 l4 l5 l6 s = some (r, sF) → V X (cX9_liftTo, RX9, 7, 4, 116, false) (vRet sF none none) sF s (G0 X 26 ls [])) (a0 : Nat) (l1 : Int32) (l2 : Int32) (l3 : Int32) (l4 : Int32) (l5 : Int32) (l6 : Int32) (k0 : Nat) (k1 : Int32) (k2 : Int32) (s : vS) (ls : Array Slot) (hl : lv_has ls 7 [(0, .ref (xb X + a0)), (1, .int l1), (2, .int l2), (3, .int l3), (4, .int l4), (5, .int l5), (6, .int l6)]) (h : J_X9_liftTo_104 N k16 k26 a0 l1 l2 l3 l4 l5 l6 k0 k1 k2 s = some (r, sF)) : V X (cX9_liftTo, RX9, 7, 4, 116, false) (vRet sF none none) sF s (G0 X 104 ls [.int k2, .int k1, .ref (xb X + k0)]) := by
  unfold J_X9_liftTo_104 at h
  refine k_X9_lookInto h qmX9_203 (by decide) hl.1 (Nat.le_of_ble_eq_true rfl) dX9_liftTo_104 (fun v16 s h => ?_)
  refine v_aload_n dX9_liftTo_107 rfl (lv_at hl 0 rfl) ?_
  refine v_iload dX9_liftTo_108 (lv_at hl 5 rfl) ?_
  refine v_aload_n dX9_liftTo_110 rfl (lv_at hl 0 rfl) ?_
  refine v_getR 9 0 h (by decide) rfl qfX9_28 dX9_liftTo_111 (fun r17 h => ?_)
  refine v_iload dX9_liftTo_114 (lv_at hl 4 rfl) ?_
  refine v_iload dX9_liftTo_116 (lv_at hl 5 rfl) ?_
  refine k_X9_sizeBy h qmX9_199 (by decide) hl.1 (Nat.le_of_ble_eq_true rfl) dX9_liftTo_118 (fun v18 s h => ?_)
  refine v_iload dX9_liftTo_121 (lv_at hl 4 rfl) ?_
  refine v_iconst (1 : Int32) dX9_liftTo_123 (by decide) ?_
  refine v_icmp_ne 131 dX9_liftTo_124 (by decide) h (fun h => ?_) (fun h => ?_)
  · refine v_iconst (-1 : Int32) dX9_liftTo_131 (by decide) ?_
    exact L_X9_liftTo_132 N k16 k26 hk16 hk26 a0 l1 l2 l3 l4 l5 l6 a0 l5 v18 (-1 : Int32) s ls (lv_sub hl [0, 1, 2, 3, 4, 5, 6] rfl) h
  · refine v_iconst (0 : Int32) dX9_liftTo_127 (by decide) ?_
    refine v_goto 132 dX9_liftTo_128 (by decide) ?_
    exact L_X9_liftTo_132 N k16 k26 hk16 hk26 a0 l1 l2 l3 l4 l5 l6 a0 l5 v18 (0 : Int32) s ls (lv_sub hl [0, 1, 2, 3, 4, 5, 6] rfl) h
set_option maxHeartbeats 4000000 in
set_option maxRecDepth 100000 in
theorem L_X9_liftTo_41 {X : VX} {sF : vS} {r : Unit} (N : Nat) (k16 : Nat → Int32 → Int32 → Int32 → Int32 → Int32 → vS → Option (Unit × vS)) (k26 : Nat → Int32 → Int32 → Int32 → Int32 → Int32 → Int32 → vS → Option (Unit × vS)) (hk16 : ∀ (a0 : Nat) (l1 : Int32) (l2 : Int32) (l3 : Int32) (l4 : Int32) (l5 : Int32) (s : vS) (ls : Array Slot), lv_has ls 7 [(0, .ref (xb X + a0)), (1, .int l1), (2, .int l2), (3, .int l3), (4, .int l4), (5, .int l5)] → k16 a0 l1 l2 l3 l4 l5 s = some (r, sF) → V X (cX9_liftTo, RX9, 7, 4, 116, false) (vRet sF none none) sF s (G0 X 16 ls [])) (hk26 : ∀ (a0 : Nat) (l1 : Int32) (l2 : Int32) (l3 : Int32) (l4 : Int32) (l5 : Int32) (l6 : Int32) (s : vS) (ls : Array Slot), lv_has ls 7 [(0, .ref (xb X + a0)), (1, .int l1), (2, .int l2), (3, .int l3), (4, .int l4), (5, .int l5), (6, .int l6)] → k26 a0 l1 l2 l3 l4 l5 l6 s = some (r, sF) → V X (cX9_liftTo, RX9, 7, 4, 116, false) (vRet sF none none) sF s (G0 X 26 ls [])) (a0 : Nat) (l1 : Int32) (l2 : Int32) (l3 : Int32) (l4 : Int32) (l5 : Int32) (l6 : Int32) (k0 : Int32) (k1 : Int32) (s : vS) (ls : Array Slot) (hl : lv_has ls 7 [(0, .ref (xb X + a0)), (1, .int l1), (2, .int l2), (3, .int l3), (4, .int l4), (5, .int l5), (6, .int l6)]) (h : J_X9_liftTo_41 N k16 k26 a0 l1 l2 l3 l4 l5 l6 k0 k1 s = some (r, sF)) : V X (cX9_liftTo, RX9, 7, 4, 116, false) (vRet sF none none) sF s (G0 X 41 ls [.int k1, .int k0]) := by
  unfold J_X9_liftTo_41 at h
  refine v_icmp_ge 193 dX9_liftTo_41 (by decide) h (fun h => ?_) (fun h => ?_)
  · refine v_inc (fun z => [(5, .int z), (0, .ref (xb X + a0)), (1, .int l1), (2, .int l2), (3, .int l3), (4, .int l4), (6, .int l6)]) dX9_liftTo_193 h hl (k := 5) rfl (by rfl) (by decide) (fun _ => rfl) (fun l5_6 ls hl h => ?_)
    refine v_goto 16 dX9_liftTo_196 (by decide) ?_
    exact hk16 a0 l1 l2 l3 l4 l5_6 s ls (lv_sub hl [1, 2, 3, 4, 5, 0] rfl) h
  · refine v_aload_n dX9_liftTo_44 rfl (lv_at hl 0 rfl) ?_
    refine v_iload_n dX9_liftTo_45 rfl (lv_at hl 1 rfl) ?_
    refine v_iload dX9_liftTo_46 (lv_at hl 5 rfl) ?_
    refine k_X9_isTerm h qmX9_179 (by decide) hl.1 (Nat.le_of_ble_eq_true rfl) dX9_liftTo_48 (fun v7 s h => ?_)
    refine v_if_eq 187 dX9_liftTo_51 (by decide) h (fun h => ?_) (fun h => ?_)
    · exact L_X9_liftTo_187 N k16 k26 hk16 hk26 a0 l1 l2 l3 l4 l5 l6 s ls (lv_sub hl [0, 1, 2, 3, 4, 5, 6] rfl) h
    · refine v_aload_n dX9_liftTo_54 rfl (lv_at hl 0 rfl) ?_
      refine v_getR 9 0 h (by decide) rfl qfX9_28 dX9_liftTo_55 (fun r8 h => ?_)
      refine v_iload dX9_liftTo_58 (lv_at hl 4 rfl) ?_
      refine v_iload dX9_liftTo_60 (lv_at hl 6 rfl) ?_
      refine k_X9_sizeBy h qmX9_199 (by decide) hl.1 (Nat.le_of_ble_eq_true rfl) dX9_liftTo_62 (fun v9 s h => ?_)
      refine v_iload_n dX9_liftTo_65 rfl (lv_at hl 2 rfl) ?_
      refine v_icmp_ne 187 dX9_liftTo_66 (by decide) h (fun h => ?_) (fun h => ?_)
      · exact L_X9_liftTo_187 N k16 k26 hk16 hk26 a0 l1 l2 l3 l4 l5 l6 s ls (lv_sub hl [0, 1, 2, 3, 4, 5, 6] rfl) h
      · refine v_aload_n dX9_liftTo_69 rfl (lv_at hl 0 rfl) ?_
        refine v_getI 9 25 h (by decide) (Or.inr rfl) qfX9_168 dX9_liftTo_70 (fun v10 h => ?_)
        refine v_if_ne 187 dX9_liftTo_73 (by decide) h (fun h => ?_) (fun h => ?_)
        · exact L_X9_liftTo_187 N k16 k26 hk16 hk26 a0 l1 l2 l3 l4 l5 l6 s ls (lv_sub hl [0, 1, 2, 3, 4, 5, 6] rfl) h
        · refine v_aload_n dX9_liftTo_76 rfl (lv_at hl 0 rfl) ?_
          refine v_iload_n dX9_liftTo_77 rfl (lv_at hl 2 rfl) ?_
          refine v_iload dX9_liftTo_78 (lv_at hl 4 rfl) ?_
          refine v_iconst (1 : Int32) dX9_liftTo_80 (by decide) ?_
          refine v_icmp_ne 97 dX9_liftTo_81 (by decide) h (fun h => ?_) (fun h => ?_)
          · refine v_aload_n dX9_liftTo_97 rfl (lv_at hl 0 rfl) ?_
            refine v_getR 9 1 h (by decide) rfl qfX9_31 dX9_liftTo_98 (fun r11 h => ?_)
            refine v_iload dX9_liftTo_101 (lv_at hl 6 rfl) ?_
            refine v_iald dX9_liftTo_103 h (fun v12 h => ?_)
            exact L_X9_liftTo_104 N k16 k26 hk16 hk26 a0 l1 l2 l3 l4 l5 l6 a0 l2 v12 s ls (lv_sub hl [0, 1, 2, 3, 4, 5, 6] rfl) h
          · refine v_aload_n dX9_liftTo_84 rfl (lv_at hl 0 rfl) ?_
            refine v_getR 9 1 h (by decide) rfl qfX9_31 dX9_liftTo_85 (fun r13 h => ?_)
            refine v_bipush (19 : Int32) dX9_liftTo_88 (by decide) ?_
            refine v_iload dX9_liftTo_90 (lv_at hl 6 rfl) ?_
            refine v_iadd dX9_liftTo_92 ?_
            refine v_iald dX9_liftTo_93 h (fun v14 h => ?_)
            refine v_goto 104 dX9_liftTo_94 (by decide) ?_
            exact L_X9_liftTo_104 N k16 k26 hk16 hk26 a0 l1 l2 l3 l4 l5 l6 a0 l2 v14 s ls (lv_sub hl [0, 1, 2, 3, 4, 5, 6] rfl) h
set_option maxHeartbeats 4000000 in
set_option maxRecDepth 100000 in
theorem L_X9_liftTo_26 {X : VX} {sF : vS} {r : Unit} (N : Nat) (k16 : Nat → Int32 → Int32 → Int32 → Int32 → Int32 → vS → Option (Unit × vS)) (hk16 : ∀ (a0 : Nat) (l1 : Int32) (l2 : Int32) (l3 : Int32) (l4 : Int32) (l5 : Int32) (s : vS) (ls : Array Slot), lv_has ls 7 [(0, .ref (xb X + a0)), (1, .int l1), (2, .int l2), (3, .int l3), (4, .int l4), (5, .int l5)] → k16 a0 l1 l2 l3 l4 l5 s = some (r, sF) → V X (cX9_liftTo, RX9, 7, 4, 116, false) (vRet sF none none) sF s (G0 X 16 ls [])) : ∀ (n : Nat) (a0 : Nat) (l1 : Int32) (l2 : Int32) (l3 : Int32) (l4 : Int32) (l5 : Int32) (l6 : Int32) (s : vS) (ls : Array Slot), lv_has ls 7 [(0, .ref (xb X + a0)), (1, .int l1), (2, .int l2), (3, .int l3), (4, .int l4), (5, .int l5), (6, .int l6)] → H_X9_liftTo_26 N k16 n a0 l1 l2 l3 l4 l5 l6 s = some (r, sF) → V X (cX9_liftTo, RX9, 7, 4, 116, false) (vRet sF none none) sF s (G0 X 26 ls []) := by
  intro n
  induction n with
  | zero => intro a0 l1 l2 l3 l4 l5 l6 s ls hl h; cases h
  | succ n ih =>
   intro a0 l1 l2 l3 l4 l5 l6 s ls hl h
   unfold H_X9_liftTo_26 at h
   refine v_iload dX9_liftTo_26 (lv_at hl 6 rfl) ?_
   refine v_iload dX9_liftTo_28 (lv_at hl 4 rfl) ?_
   refine v_iconst (1 : Int32) dX9_liftTo_30 (by decide) ?_
   refine v_icmp_ne 39 dX9_liftTo_31 (by decide) h (fun h => ?_) (fun h => ?_)
   · refine v_bipush (19 : Int32) dX9_liftTo_39 (by decide) ?_
     exact L_X9_liftTo_41 N k16 (H_X9_liftTo_26 N k16 n) hk16 ih a0 l1 l2 l3 l4 l5 l6 l6 (19 : Int32) s ls (lv_sub hl [0, 1, 2, 3, 4, 5, 6] rfl) h
   · refine v_bipush (29 : Int32) dX9_liftTo_34 (by decide) ?_
     refine v_goto 41 dX9_liftTo_36 (by decide) ?_
     exact L_X9_liftTo_41 N k16 (H_X9_liftTo_26 N k16 n) hk16 ih a0 l1 l2 l3 l4 l5 l6 l6 (29 : Int32) s ls (lv_sub hl [0, 1, 2, 3, 4, 5, 6] rfl) h
set_option maxHeartbeats 4000000 in
set_option maxRecDepth 100000 in
theorem L_X9_liftTo_16 {X : VX} {sF : vS} {r : Unit} (N : Nat) : ∀ (n : Nat) (a0 : Nat) (l1 : Int32) (l2 : Int32) (l3 : Int32) (l4 : Int32) (l5 : Int32) (s : vS) (ls : Array Slot), lv_has ls 7 [(0, .ref (xb X + a0)), (1, .int l1), (2, .int l2), (3, .int l3), (4, .int l4), (5, .int l5)] → H_X9_liftTo_16 N n a0 l1 l2 l3 l4 l5 s = some (r, sF) → V X (cX9_liftTo, RX9, 7, 4, 116, false) (vRet sF none none) sF s (G0 X 16 ls []) := by
  intro n
  induction n with
  | zero => intro a0 l1 l2 l3 l4 l5 s ls hl h; cases h
  | succ n ih =>
   intro a0 l1 l2 l3 l4 l5 s ls hl h
   unfold H_X9_liftTo_16 at h
   refine v_iload dX9_liftTo_16 (lv_at hl 5 rfl) ?_
   refine v_bipush (29 : Int32) dX9_liftTo_18 (by decide) ?_
   refine v_icmp_ge 199 dX9_liftTo_20 (by decide) h (fun h => ?_) (fun h => ?_)
   · refine v_aload_n dX9_liftTo_199 rfl (lv_at hl 0 rfl) ?_
     refine v_getR 9 10 h (by decide) rfl qfX9_56 dX9_liftTo_200 (fun r4 h => ?_)
     refine v_iload_n dX9_liftTo_203 rfl (lv_at hl 3 rfl) ?_
     refine v_iload dX9_liftTo_204 (lv_at hl 4 rfl) ?_
     refine v_iast dX9_liftTo_206 h (fun s h => ?_)
     refine v_aload_n dX9_liftTo_207 rfl (lv_at hl 0 rfl) ?_
     refine v_iload_n dX9_liftTo_208 rfl (lv_at hl 3 rfl) ?_
     refine k_X9_settle h qmX9_192 (by decide) hl.1 (Nat.le_of_ble_eq_true rfl) dX9_liftTo_209 (fun v5 s h => ?_)
     exact v_vret dX9_liftTo_212 h
   · refine v_iconst (0 : Int32) dX9_liftTo_23 (by decide) ?_
     refine v_istore [(6, .int (0 : Int32)), (0, .ref (xb X + a0)), (1, .int l1), (2, .int l2), (3, .int l3), (4, .int l4), (5, .int l5)] dX9_liftTo_24 hl (by decide) rfl (fun ls hl => ?_)
     exact L_X9_liftTo_26 N (H_X9_liftTo_16 N n) ih N a0 l1 l2 l3 l4 l5 (0 : Int32) s ls (lv_sub hl [1, 2, 3, 4, 5, 6, 0] rfl) h
theorem vl_X9_liftTo : vCl yX9_liftTo cX9_liftTo 7 none 3 := ⟨qy_X9_liftTo, qjX9, by decide +kernel, by decide +kernel, by decide +kernel⟩
set_option maxHeartbeats 4000000 in
set_option maxRecDepth 100000 in
theorem c_X9_liftTo {l : Launch} {D : va_G} {ka : Nat → ClassId} (X0 : VX) (N : Nat) (a0 : Nat) (l1 : Int32) (l2 : Int32) (l3 : Int32) (s sF : vS) (r : Unit) (h : F_X9_liftTo N a0 l1 l2 l3 s = some (r, sF)) : isO s a0 9 = true ∧ vMet l D ka (xb X0) yX9_liftTo cX9_liftTo 7 none 4 116 [.ref (xb X0 + a0), .int l1, .int l2, .int l3] s sF none := by
  unfold F_X9_liftTo at h
  unfold rcv at h
  obtain ⟨hO, h⟩ := v_chk h
  refine ⟨hO, vMet.of (ini := false) X0 (plainFor_of_name (by decide +kernel)) (Nat.le_of_ble_eq_true rfl) (fun h => by cases h) (fun X ls hb hl => ?_) rfl⟩
  show V X (cX9_liftTo, RX9, 7, 4, 116, false) (vRet sF none none) sF s (G0 X 0 ls [])
  rw [← hb] at hl
  have hl : lv_has ls 7 [(0, .ref (xb X + a0)), (1, .int l1), (2, .int l2), (3, .int l3)] := hl
  refine v_aload_n dX9_liftTo_0 rfl (lv_at hl 0 rfl) ?_
  refine v_getR 9 10 h (by decide) rfl qfX9_56 dX9_liftTo_1 (fun r1 h => ?_)
  refine v_iload_n dX9_liftTo_4 rfl (lv_at hl 1 rfl) ?_
  refine v_iald dX9_liftTo_5 h (fun v2 h => ?_)
  refine v_istore [(4, .int v2), (0, .ref (xb X + a0)), (1, .int l1), (2, .int l2), (3, .int l3)] dX9_liftTo_6 hl (by decide) rfl (fun ls hl => ?_)
  refine v_aload_n dX9_liftTo_8 rfl (lv_at hl 1 rfl) ?_
  refine v_iload_n dX9_liftTo_9 rfl (lv_at hl 4 rfl) ?_
  refine k_X9_empty h qmX9_210 (by decide) hl.1 (Nat.le_of_ble_eq_true rfl) dX9_liftTo_10 (fun v3 s h => ?_)
  refine v_iconst (0 : Int32) dX9_liftTo_13 (by decide) ?_
  refine v_istore [(5, .int (0 : Int32)), (4, .int v2), (0, .ref (xb X + a0)), (1, .int l1), (2, .int l2), (3, .int l3)] dX9_liftTo_14 hl (by decide) rfl (fun ls hl => ?_)
  exact L_X9_liftTo_16 N N a0 l1 l2 l3 v2 (0 : Int32) s ls (lv_sub hl [2, 3, 4, 5, 1, 0] rfl) h
theorem k_X9_liftTo {X : VX} {cc : ByteArray} {own : String} {nL fr lo : Nat} {ini : Bool} {E : VX → Prop} {sF s : vS} {ρ : Type} {res : ρ} {pc : Nat} {ls : Array Slot} {rest : List Value} {N index : Nat} {a0 : Nat} {l1 : Int32} {l2 : Int32} {l3 : Int32} {f : Unit → vS → Option ρ} (h : bnd (F_X9_liftTo N a0 l1 l2 l3 s) f = some res) (hlink : Cond.methodLink own index yX9_liftTo ∈ TT) (hR : 4 + 1 ≤ fr ∧ 8 + (7 + 11) + 116 ≤ lo) (hls : ls.size = nL) (hr : (rest.map fun v => v.category).sum ≤ 8) (hdg : decode cc pc = .ok (.invokevirtual index, 3)) (kk : ∀ r s', f r s' = some res → V X (cc, own, nL, fr, lo, ini) E sF s' (G0 X (pc + 3) ls (rest))) : V X (cc, own, nL, fr, lo, ini) E sF s (G0 X pc ls (.int l3 :: .int l2 :: .int l1 :: .ref (xb X + a0) :: rest)) := by
  obtain ⟨r, s', e, h⟩ := bnd_some h
  exact v_callV (b := a0) (ci := 9) (As := [.int l1, .int l2, .int l3]) (rest := rest) (c_X9_liftTo X N a0 l1 l2 l3 s s' r e).2 (c_X9_liftTo (l := xl X) (D := xD X) (ka := xka X) X N a0 l1 l2 l3 s s' r e).1 rfl vl_X9_liftTo qi_X9_liftTo qe_X9_liftTo hlink hR rfl rfl hls hr hdg (kk r s' h)
theorem vl_X9_plainOf : vCl yX9_plainOf cX9_plainOf 2 (some .int) 1 := ⟨qy_X9_plainOf, qjX9, by decide +kernel, by decide +kernel, by decide +kernel⟩
set_option maxHeartbeats 4000000 in
set_option maxRecDepth 100000 in
theorem c_X9_plainOf {l : Launch} {D : va_G} {ka : Nat → ClassId} (X0 : VX) (N : Nat) (a0 : Nat) (l1 : Int32) (s sF : vS) (r : Int32) (h : F_X9_plainOf N a0 l1 s = some (r, sF)) : isO s a0 9 = true ∧ vMet l D ka (xb X0) yX9_plainOf cX9_plainOf 2 (some .int) 0 0 [.ref (xb X0 + a0), .int l1] s sF (some (.int r)) := by
  unfold F_X9_plainOf at h
  unfold rcv at h
  obtain ⟨hO, h⟩ := v_chk h
  refine ⟨hO, vMet.of (ini := false) X0 (plainFor_of_name (by decide +kernel)) (Nat.le_of_ble_eq_true rfl) (fun h => by cases h) (fun X ls hb hl => ?_) rfl⟩
  show V X (cX9_plainOf, RX9, 2, 0, 0, false) (vRet sF (some (.int r)) (some .int)) sF s (G0 X 0 ls [])
  rw [← hb] at hl
  have hl : lv_has ls 2 [(0, .ref (xb X + a0)), (1, .int l1)] := hl
  refine v_aload_n dX9_plainOf_0 rfl (lv_at hl 0 rfl) ?_
  refine v_getR 9 2 h (by decide) rfl qfX9_34 dX9_plainOf_1 (fun r1 h => ?_)
  refine v_bipush (64 : Int32) dX9_plainOf_4 (by decide) ?_
  refine v_aload_n dX9_plainOf_6 rfl (lv_at hl 0 rfl) ?_
  refine v_getR 9 0 h (by decide) rfl qfX9_28 dX9_plainOf_7 (fun r2 h => ?_)
  refine v_bipush (19 : Int32) dX9_plainOf_10 (by decide) ?_
  refine v_iload_n dX9_plainOf_12 rfl (lv_at hl 1 rfl) ?_
  refine v_iadd dX9_plainOf_13 ?_
  refine v_iald dX9_plainOf_14 h (fun v3 h => ?_)
  refine v_imul dX9_plainOf_15 ?_
  refine v_aload_n dX9_plainOf_16 rfl (lv_at hl 0 rfl) ?_
  refine v_getR 9 1 h (by decide) rfl qfX9_31 dX9_plainOf_17 (fun r4 h => ?_)
  refine v_bipush (19 : Int32) dX9_plainOf_20 (by decide) ?_
  refine v_iload_n dX9_plainOf_22 rfl (lv_at hl 1 rfl) ?_
  refine v_iadd dX9_plainOf_23 ?_
  refine v_iald dX9_plainOf_24 h (fun v5 h => ?_)
  refine v_iadd dX9_plainOf_25 ?_
  refine v_iald dX9_plainOf_26 h (fun v6 h => ?_)
  exact v_iret dX9_plainOf_27 h
theorem k_X9_plainOf {X : VX} {cc : ByteArray} {own : String} {nL fr lo : Nat} {ini : Bool} {E : VX → Prop} {sF s : vS} {ρ : Type} {res : ρ} {pc : Nat} {ls : Array Slot} {rest : List Value} {N index : Nat} {a0 : Nat} {l1 : Int32} {f : Int32 → vS → Option ρ} (h : bnd (F_X9_plainOf N a0 l1 s) f = some res) (hlink : Cond.methodLink own index yX9_plainOf ∈ TT) (hR : 0 + 1 ≤ fr ∧ 8 + (2 + 11) + 0 ≤ lo) (hls : ls.size = nL) (hr : (rest.map fun v => v.category).sum ≤ 8) (hdg : decode cc pc = .ok (.invokevirtual index, 3)) (kk : ∀ r s', f r s' = some res → V X (cc, own, nL, fr, lo, ini) E sF s' (G0 X (pc + 3) ls (.int r :: rest))) : V X (cc, own, nL, fr, lo, ini) E sF s (G0 X pc ls (.int l1 :: .ref (xb X + a0) :: rest)) := by
  obtain ⟨r, s', e, h⟩ := bnd_some h
  exact v_callV (b := a0) (ci := 9) (As := [.int l1]) (rest := rest) (c_X9_plainOf X N a0 l1 s s' r e).2 (c_X9_plainOf (l := xl X) (D := xD X) (ka := xka X) X N a0 l1 s s' r e).1 rfl vl_X9_plainOf qi_X9_plainOf qe_X9_plainOf hlink hR rfl rfl hls hr hdg (kk r s' h)
set_option maxHeartbeats 4000000 in
set_option maxRecDepth 100000 in
theorem L_X9_rootsOf_64 {X : VX} {sF : vS} {r : Int32} (N : Nat) (k27 : Nat → Int32 → Int32 → Int32 → Int32 → vS → Option (Int32 × vS)) (hk27 : ∀ (a0 : Nat) (l1 : Int32) (l2 : Int32) (l3 : Int32) (l4 : Int32) (s : vS) (ls : Array Slot), lv_has ls 5 [(0, .ref (xb X + a0)), (1, .int l1), (2, .int l2), (3, .int l3), (4, .int l4)] → k27 a0 l1 l2 l3 l4 s = some (r, sF) → V X (cX9_rootsOf, RX9, 5, 3, 70, false) (vRet sF (some (.int r)) (some .int)) sF s (G0 X 27 ls [])) (a0 : Nat) (l1 : Int32) (l2 : Int32) (l4 : Int32) (k0 : Int32) (k1 : Int32) (s : vS) (ls : Array Slot) (hl : lv_has ls 5 [(0, .ref (xb X + a0)), (1, .int l1), (2, .int l2), (4, .int l4)]) (h : J_X9_rootsOf_64 N k27 a0 l1 l2 l4 k0 k1 s = some (r, sF)) : V X (cX9_rootsOf, RX9, 5, 3, 70, false) (vRet sF (some (.int r)) (some .int)) sF s (G0 X 64 ls [.int k1, .int k0]) := by
  unfold J_X9_rootsOf_64 at h
  refine v_iadd dX9_rootsOf_64 ?_
  refine v_nmI h (fun l3_12 h => ?_)
  refine v_istore_n [(3, .int l3_12), (0, .ref (xb X + a0)), (1, .int l1), (2, .int l2), (4, .int l4)] dX9_rootsOf_65 rfl hl (by decide) rfl (fun ls hl => ?_)
  refine v_inc (fun z => [(4, .int z), (3, .int l3_12), (0, .ref (xb X + a0)), (1, .int l1), (2, .int l2)]) dX9_rootsOf_66 h hl (k := 4) rfl (by rfl) (by decide) (fun _ => rfl) (fun l4_13 ls hl h => ?_)
  refine v_goto 27 dX9_rootsOf_69 (by decide) ?_
  exact hk27 a0 l1 l2 l3_12 l4_13 s ls (lv_sub hl [2, 3, 4, 1, 0] rfl) h
set_option maxHeartbeats 4000000 in
set_option maxRecDepth 100000 in
theorem L_X9_rootsOf_27 {X : VX} {sF : vS} {r : Int32} (N : Nat) : ∀ (n : Nat) (a0 : Nat) (l1 : Int32) (l2 : Int32) (l3 : Int32) (l4 : Int32) (s : vS) (ls : Array Slot), lv_has ls 5 [(0, .ref (xb X + a0)), (1, .int l1), (2, .int l2), (3, .int l3), (4, .int l4)] → H_X9_rootsOf_27 N n a0 l1 l2 l3 l4 s = some (r, sF) → V X (cX9_rootsOf, RX9, 5, 3, 70, false) (vRet sF (some (.int r)) (some .int)) sF s (G0 X 27 ls []) := by
  intro n
  induction n with
  | zero => intro a0 l1 l2 l3 l4 s ls hl h; cases h
  | succ n ih =>
   intro a0 l1 l2 l3 l4 s ls hl h
   unfold H_X9_rootsOf_27 at h
   refine v_iload dX9_rootsOf_27 (lv_at hl 4 rfl) ?_
   refine v_aload_n dX9_rootsOf_29 rfl (lv_at hl 0 rfl) ?_
   refine v_getR 9 0 h (by decide) rfl qfX9_28 dX9_rootsOf_30 (fun r7 h => ?_)
   refine v_iload_n dX9_rootsOf_33 rfl (lv_at hl 2 rfl) ?_
   refine v_iald dX9_rootsOf_34 h (fun v8 h => ?_)
   refine v_icmp_ge 72 dX9_rootsOf_35 (by decide) h (fun h => ?_) (fun h => ?_)
   · refine v_iload_n dX9_rootsOf_72 rfl (lv_at hl 3 rfl) ?_
     exact v_iret dX9_rootsOf_73 h
   · refine v_iload_n dX9_rootsOf_38 rfl (lv_at hl 3 rfl) ?_
     refine v_aload_n dX9_rootsOf_39 rfl (lv_at hl 0 rfl) ?_
     refine v_iconst (1 : Int32) dX9_rootsOf_40 (by decide) ?_
     refine v_aload_n dX9_rootsOf_41 rfl (lv_at hl 0 rfl) ?_
     refine v_getR 9 0 h (by decide) rfl qfX9_28 dX9_rootsOf_42 (fun r9 h => ?_)
     refine v_iload_n dX9_rootsOf_45 rfl (lv_at hl 2 rfl) ?_
     refine v_iald dX9_rootsOf_46 h (fun v10 h => ?_)
     refine v_ishl dX9_rootsOf_47 ?_
     refine v_iconst (1 : Int32) dX9_rootsOf_48 (by decide) ?_
     refine v_isub dX9_rootsOf_49 ?_
     refine v_iload dX9_rootsOf_50 (lv_at hl 4 rfl) ?_
     refine k_X9_numberOn h qmX9_157 (by decide) hl.1 (Nat.le_of_ble_eq_true rfl) dX9_rootsOf_52 (fun v11 s h => ?_)
     refine v_iload_n dX9_rootsOf_55 rfl (lv_at hl 1 rfl) ?_
     refine v_icmp_ne 63 dX9_rootsOf_56 (by decide) h (fun h => ?_) (fun h => ?_)
     · refine v_iconst (0 : Int32) dX9_rootsOf_63 (by decide) ?_
       exact L_X9_rootsOf_64 N (H_X9_rootsOf_27 N n) ih a0 l1 l2 l4 l3 (0 : Int32) s ls (lv_sub hl [0, 1, 2, 4] rfl) h
     · refine v_iconst (1 : Int32) dX9_rootsOf_59 (by decide) ?_
       refine v_goto 64 dX9_rootsOf_60 (by decide) ?_
       exact L_X9_rootsOf_64 N (H_X9_rootsOf_27 N n) ih a0 l1 l2 l4 l3 (1 : Int32) s ls (lv_sub hl [0, 1, 2, 4] rfl) h
theorem vl_X9_rootsOf : vCl yX9_rootsOf cX9_rootsOf 5 (some .int) 1 := ⟨qy_X9_rootsOf, qjX9, by decide +kernel, by decide +kernel, by decide +kernel⟩
set_option maxHeartbeats 4000000 in
set_option maxRecDepth 100000 in
theorem c_X9_rootsOf {l : Launch} {D : va_G} {ka : Nat → ClassId} (X0 : VX) (N : Nat) (a0 : Nat) (l1 : Int32) (s sF : vS) (r : Int32) (h : F_X9_rootsOf N a0 l1 s = some (r, sF)) : isO s a0 9 = true ∧ vMet l D ka (xb X0) yX9_rootsOf cX9_rootsOf 5 (some .int) 3 70 [.ref (xb X0 + a0), .int l1] s sF (some (.int r)) := by
  unfold F_X9_rootsOf at h
  unfold rcv at h
  obtain ⟨hO, h⟩ := v_chk h
  refine ⟨hO, vMet.of (ini := false) X0 (plainFor_of_name (by decide +kernel)) (Nat.le_of_ble_eq_true rfl) (fun h => by cases h) (fun X ls hb hl => ?_) rfl⟩
  show V X (cX9_rootsOf, RX9, 5, 3, 70, false) (vRet sF (some (.int r)) (some .int)) sF s (G0 X 0 ls [])
  rw [← hb] at hl
  have hl : lv_has ls 5 [(0, .ref (xb X + a0)), (1, .int l1)] := hl
  refine v_aload_n dX9_rootsOf_0 rfl (lv_at hl 0 rfl) ?_
  refine v_iload_n dX9_rootsOf_1 rfl (lv_at hl 1 rfl) ?_
  refine k_X9_plainOf h qmX9_221 (by decide) hl.1 (Nat.le_of_ble_eq_true rfl) dX9_rootsOf_2 (fun v1 s h => ?_)
  refine v_istore_n [(2, .int v1), (0, .ref (xb X + a0)), (1, .int l1)] dX9_rootsOf_5 rfl hl (by decide) rfl (fun ls hl => ?_)
  refine v_aload_n dX9_rootsOf_6 rfl (lv_at hl 1 rfl) ?_
  refine v_aload_n dX9_rootsOf_7 rfl (lv_at hl 1 rfl) ?_
  refine v_getR 9 0 h (by decide) rfl qfX9_28 dX9_rootsOf_8 (fun r2 h => ?_)
  refine v_iload_n dX9_rootsOf_11 rfl (lv_at hl 0 rfl) ?_
  refine v_iald dX9_rootsOf_12 h (fun v3 h => ?_)
  refine v_aload_n dX9_rootsOf_13 rfl (lv_at hl 1 rfl) ?_
  refine v_getR 9 1 h (by decide) rfl qfX9_31 dX9_rootsOf_14 (fun r4 h => ?_)
  refine v_iload_n dX9_rootsOf_17 rfl (lv_at hl 0 rfl) ?_
  refine v_iald dX9_rootsOf_18 h (fun v5 h => ?_)
  refine k_X9_lookInto h qmX9_203 (by decide) hl.1 (Nat.le_of_ble_eq_true rfl) dX9_rootsOf_19 (fun v6 s h => ?_)
  refine v_iconst (0 : Int32) dX9_rootsOf_22 (by decide) ?_
  refine v_istore_n [(3, .int (0 : Int32)), (2, .int v1), (0, .ref (xb X + a0)), (1, .int l1)] dX9_rootsOf_23 rfl hl (by decide) rfl (fun ls hl => ?_)
  refine v_iconst (0 : Int32) dX9_rootsOf_24 (by decide) ?_
  refine v_istore [(4, .int (0 : Int32)), (3, .int (0 : Int32)), (2, .int v1), (0, .ref (xb X + a0)), (1, .int l1)] dX9_rootsOf_25 hl (by decide) rfl (fun ls hl => ?_)
  exact L_X9_rootsOf_27 N N a0 l1 v1 (0 : Int32) (0 : Int32) s ls (lv_sub hl [3, 4, 2, 1, 0] rfl) h
