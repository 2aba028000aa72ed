set_option maxHeartbeats 4000000 in
set_option maxRecDepth 100000 in
theorem L_X6_empty_7 {X : VX} {sF : vS} {r : Unit} (N : Nat) : ∀ (n : Nat) (a0 : Nat) (l1 : Int32) (s : vS) (ls : Array Slot), lv_has ls 2 [(0, .ref (xb X + a0)), (1, .int l1)] → H_X6_empty_7 N n a0 l1 s = some (r, sF) → V X (cX6_empty, RX6, 2, 0, 0, false) (vRet sF none none) sF s (G0 X 7 ls []) := by
  intro n
  induction n with
  | zero => intro a0 l1 s ls hl h; cases h
  | succ n ih =>
   intro a0 l1 s ls hl h
   unfold H_X6_empty_7 at h
   refine v_iload_n dX6_empty_7 rfl (lv_at hl 1 rfl) ?_
   refine v_bipush (29 : Int32) dX6_empty_8 (by decide) ?_
   refine v_icmp_ge 33 dX6_empty_10 (by decide) h (fun h => ?_) (fun h => ?_)
   · exact v_vret dX6_empty_33 h
   · refine v_aload_n dX6_empty_13 rfl (lv_at hl 0 rfl) ?_
     refine v_getR 6 1 h (by decide) rfl qfX6_15 dX6_empty_14 (fun r1 h => ?_)
     refine v_iload_n dX6_empty_17 rfl (lv_at hl 1 rfl) ?_
     refine v_lconst (0 : Int64) dX6_empty_18 (by decide) ?_
     refine v_last dX6_empty_19 h (fun s h => ?_)
     refine v_aload_n dX6_empty_20 rfl (lv_at hl 0 rfl) ?_
     refine v_getR 6 2 h (by decide) rfl qfX6_19 dX6_empty_21 (fun r2 h => ?_)
     refine v_iload_n dX6_empty_24 rfl (lv_at hl 1 rfl) ?_
     refine v_lconst (1 : Int64) dX6_empty_25 (by decide) ?_
     refine v_last dX6_empty_26 h (fun s h => ?_)
     refine v_inc (fun z => [(1, .int z), (0, .ref (xb X + a0))]) dX6_empty_27 h hl (k := 1) rfl (by rfl) (by decide) (fun _ => rfl) (fun l1_3 ls hl h => ?_)
     refine v_goto 7 dX6_empty_30 (by decide) ?_
     exact ih a0 l1_3 s ls (lv_sub hl [1, 0] rfl) h
theorem vl_X6_empty : vCl yX6_empty cX6_empty 2 none 0 := ⟨qy_X6_empty, qjX6, by decide +kernel, by decide +kernel, by decide +kernel⟩
set_option maxHeartbeats 4000000 in
set_option maxRecDepth 100000 in
theorem c_X6_empty {l : Launch} {D : va_G} {ka : Nat → ClassId} (X0 : VX) (N : Nat) (a0 : Nat) (s sF : vS) (r : Unit) (h : F_X6_empty N a0 s = some (r, sF)) : isO s a0 6 = true ∧ vMet l D ka (xb X0) yX6_empty cX6_empty 2 none 0 0 [.ref (xb X0 + a0)] s sF none := by
  unfold F_X6_empty at h
  unfold rcv at h
  obtain ⟨hO, h⟩ := v_chk h
  refine ⟨hO, vMet.of (ini := false) X0 (plainFor_of_name (by decide +kernel)) (Nat.le_of_ble_eq_true rfl) (fun h => by cases h) (fun X ls hb hl => ?_) rfl⟩
  show V X (cX6_empty, RX6, 2, 0, 0, false) (vRet sF none none) sF s (G0 X 0 ls [])
  rw [← hb] at hl
  have hl : lv_has ls 2 [(0, .ref (xb X + a0))] := hl
  refine v_aload_n dX6_empty_0 rfl (lv_at hl 0 rfl) ?_
  refine v_iconst (0 : Int32) dX6_empty_1 (by decide) ?_
  refine v_putI 6 0 h (by decide) rfl (Or.inl rfl) qfX6_9 dX6_empty_2 (fun s h => ?_)
  refine v_iconst (0 : Int32) dX6_empty_5 (by decide) ?_
  refine v_istore_n [(1, .int (0 : Int32)), (0, .ref (xb X + a0))] dX6_empty_6 rfl hl (by decide) rfl (fun ls hl => ?_)
  exact L_X6_empty_7 N N a0 (0 : Int32) s ls (lv_sub hl [1, 0] rfl) h
theorem k_X6_empty {X : VX} {cc : ByteArray} {own : String} {nL fr lo : Nat} {ini : Bool} {E : VX → Prop} {sF s : vS} {ρ : Type} {res : ρ} {pc : Nat} {ls : Array Slot} {rest : List Value} {N index : Nat} {a0 : Nat} {f : Unit → vS → Option ρ} (h : bnd (F_X6_empty N a0 s) f = some res) (hlink : Cond.methodLink own index yX6_empty ∈ TT) (hR : 0 + 1 ≤ fr ∧ 8 + (2 + 11) + 0 ≤ lo) (hls : ls.size = nL) (hr : (rest.map fun v => v.category).sum ≤ 8) (hdg : decode cc pc = .ok (.invokevirtual index, 3)) (kk : ∀ r s', f r s' = some res → V X (cc, own, nL, fr, lo, ini) E sF s' (G0 X (pc + 3) ls (rest))) : V X (cc, own, nL, fr, lo, ini) E sF s (G0 X pc ls (.ref (xb X + a0) :: rest)) := by
  obtain ⟨r, s', e, h⟩ := bnd_some h
  exact v_callV (b := a0) (ci := 6) (As := []) (rest := rest) (c_X6_empty X N a0 s s' r e).2 (c_X6_empty (l := xl X) (D := xD X) (ka := xka X) X N a0 s s' r e).1 rfl vl_X6_empty qi_X6_empty qe_X6_empty hlink hR rfl rfl hls hr hdg (kk r s' h)
theorem vl_X6_init : vCl yX6_init cX6_init 1 none 0 := ⟨qy_X6_init, qjX6, by decide +kernel, by decide +kernel, by decide +kernel⟩
set_option maxHeartbeats 4000000 in
set_option maxRecDepth 100000 in
theorem c_X6_init {l : Launch} {D : va_G} {ka : Nat → ClassId} (X0 : VX) (N : Nat) (a0 : Nat) (s sF : vS) (r : Unit) (h : F_X6_init N a0 s = some (r, sF)) : isO s a0 6 = true ∧ vMet l D ka (xb X0) yX6_init cX6_init 1 none 1 21 [.ref (xb X0 + a0)] s sF none := by
  unfold F_X6_init at h
  unfold rcv at h
  obtain ⟨hO, h⟩ := v_chk h
  refine ⟨hO, vMet.of (ini := true) X0 (plainFor_of_name (by decide +kernel)) (Nat.le_of_ble_eq_true rfl) (fun _ => rfl) (fun X ls hb hl => ?_) rfl⟩
  show V X (cX6_init, RX6, 1, 1, 21, true) (vRet sF none none) sF s (G0 X 0 ls [])
  rw [← hb] at hl
  have hl : lv_has ls 1 [(0, .ref (xb X + a0))] := hl
  refine v_aload_n dX6_init_0 rfl (lv_at hl 0 rfl) ?_
  refine v_objI qmX6_3 qo_in qo_code hl.1 ⟨by decide, Nat.le_of_ble_eq_true rfl⟩ dX6_init_1 ?_
  refine v_aload_n dX6_init_4 rfl (lv_at hl 0 rfl) ?_
  refine v_iconst (0 : Int32) dX6_init_5 (by decide) ?_
  refine v_putI 6 0 h (by decide) rfl (Or.inl rfl) qfX6_9 dX6_init_6 (fun s h => ?_)
  refine v_aload_n dX6_init_9 rfl (lv_at hl 0 rfl) ?_
  refine v_bipush (29 : Int32) dX6_init_10 (by decide) ?_
  refine v_newa 2 h (by decide) qa_long dX6_init_12 (fun q1 s h => ?_)
  refine v_putR 6 1 h (by decide) rfl (Or.inr ⟨rfl, rfl, rfl⟩) qfX6_15 dX6_init_14 (fun s h => ?_)
  refine v_aload_n dX6_init_17 rfl (lv_at hl 0 rfl) ?_
  refine v_bipush (29 : Int32) dX6_init_18 (by decide) ?_
  refine v_newa 2 h (by decide) qa_long dX6_init_20 (fun q2 s h => ?_)
  refine v_putR 6 2 h (by decide) rfl (Or.inr ⟨rfl, rfl, rfl⟩) qfX6_19 dX6_init_22 (fun s h => ?_)
  refine v_aload_n dX6_init_25 rfl (lv_at hl 0 rfl) ?_
  refine k_X6_empty h qmX6_22 (by decide) hl.1 (Nat.le_of_ble_eq_true rfl) dX6_init_26 (fun v3 s h => ?_)
  exact v_vret dX6_init_29 h
theorem k_X6_init {X : VX} {cc : ByteArray} {own : String} {nL fr lo : Nat} {ini : Bool} {E : VX → Prop} {sF s : vS} {ρ : Type} {res : ρ} {pc : Nat} {ls : Array Slot} {rest : List Value} {N index : Nat} {a0 : Nat} {f : Unit → vS → Option ρ} (h : bnd (F_X6_init N a0 s) f = some res) (hlink : Cond.methodLink own index yX6_init ∈ TT) (hR : 1 + 1 ≤ fr ∧ 8 + (1 + 11) + 21 ≤ lo) (hls : ls.size = nL) (hr : (rest.map fun v => v.category).sum ≤ 8) (hdg : decode cc pc = .ok (.invokespecial index, 3)) (kk : ∀ r s', f r s' = some res → V X (cc, own, nL, fr, lo, ini) E sF s' (G0 X (pc + 3) ls (rest))) : V X (cc, own, nL, fr, lo, ini) E sF s (G0 X pc ls (.ref (xb X + a0) :: rest)) := by
  obtain ⟨r, s', e, h⟩ := bnd_some h
  exact v_callI (b := a0) (As := []) (rest := rest) (c_X6_init X N a0 s s' r e).2 rfl vl_X6_init qi_X6_init hlink hR rfl rfl hls hr hdg (kk r s' h)
theorem vl_X2_init : vCl yX2_init cX2_init 1 none 0 := ⟨qy_X2_init, qjX2, by decide +kernel, by decide +kernel, by decide +kernel⟩
set_option maxHeartbeats 4000000 in
set_option maxRecDepth 100000 in
theorem c_X2_init {l : Launch} {D : va_G} {ka : Nat → ClassId} (X0 : VX) (N : Nat) (a0 : Nat) (s sF : vS) (r : Unit) (h : F_X2_init N a0 s = some (r, sF)) : isO s a0 2 = true ∧ vMet l D ka (xb X0) yX2_init cX2_init 1 none 1 20 [.ref (xb X0 + a0)] s sF none := by
  unfold F_X2_init at h
  unfold rcv at h
  obtain ⟨hO, h⟩ := v_chk h
  refine ⟨hO, vMet.of (ini := true) X0 (plainFor_of_name (by decide +kernel)) (Nat.le_of_ble_eq_true rfl) (fun _ => rfl) (fun X ls hb hl => ?_) rfl⟩
  show V X (cX2_init, RX2, 1, 1, 20, true) (vRet sF none none) sF s (G0 X 0 ls [])
  rw [← hb] at hl
  have hl : lv_has ls 1 [(0, .ref (xb X + a0))] := hl
  refine v_aload_n dX2_init_0 rfl (lv_at hl 0 rfl) ?_
  refine v_objI qmX2_1 qo_in qo_code hl.1 ⟨by decide, Nat.le_of_ble_eq_true rfl⟩ dX2_init_1 ?_
  refine v_aload_n dX2_init_4 rfl (lv_at hl 0 rfl) ?_
  refine v_lconst (0 : Int64) dX2_init_5 (by decide) ?_
  refine v_putJ 2 0 h (by decide) rfl (Or.inl rfl) qfX2_7 dX2_init_6 (fun s h => ?_)
  refine v_aload_n dX2_init_9 rfl (lv_at hl 0 rfl) ?_
  refine v_lconst (1 : Int64) dX2_init_10 (by decide) ?_
  refine v_putJ 2 1 h (by decide) rfl (Or.inl rfl) qfX2_13 dX2_init_11 (fun s h => ?_)
  exact v_vret dX2_init_14 h
theorem k_X2_init {X : VX} {cc : ByteArray} {own : String} {nL fr lo : Nat} {ini : Bool} {E : VX → Prop} {sF s : vS} {ρ : Type} {res : ρ} {pc : Nat} {ls : Array Slot} {rest : List Value} {N index : Nat} {a0 : Nat} {f : Unit → vS → Option ρ} (h : bnd (F_X2_init N a0 s) f = some res) (hlink : Cond.methodLink own index yX2_init ∈ TT) (hR : 1 + 1 ≤ fr ∧ 8 + (1 + 11) + 20 ≤ lo) (hls : ls.size = nL) (hr : (rest.map fun v => v.category).sum ≤ 8) (hdg : decode cc pc = .ok (.invokespecial index, 3)) (kk : ∀ r s', f r s' = some res → V X (cc, own, nL, fr, lo, ini) E sF s' (G0 X (pc + 3) ls (rest))) : V X (cc, own, nL, fr, lo, ini) E sF s (G0 X pc ls (.ref (xb X + a0) :: rest)) := by
  obtain ⟨r, s', e, h⟩ := bnd_some h
  exact v_callI (b := a0) (As := []) (rest := rest) (c_X2_init X N a0 s s' r e).2 rfl vl_X2_init qi_X2_init hlink hR rfl rfl hls hr hdg (kk r s' h)
theorem kn_X2_init_X0 {X : VX} {cc : ByteArray} {own : String} {nL fr lo : Nat} {ini : Bool} {E : VX → Prop} {sF s : vS} {ρ : Type} {res : ρ} {pc : Nat} {ls : Array Slot} {rest : List Value} {N index : Nat} {a0 : Nat} {f : Unit → vS → Option ρ} (h : bnd (F_X2_init N a0 s) f = some res) (hlink : Cond.methodLinkNest own index yX2_init RX8 ∈ nestW) (hR : 1 + 1 ≤ fr ∧ 8 + (1 + 11) + 20 ≤ lo) (hls : ls.size = nL) (hr : (rest.map fun v => v.category).sum ≤ 8) (hdg : decode cc pc = .ok (.invokespecial index, 3)) (kk : ∀ r s', f r s' = some res → V X (cc, own, nL, fr, lo, ini) E sF s' (G0 X (pc + 3) ls (rest))) : V X (cc, own, nL, fr, lo, ini) E sF s (G0 X pc ls (.ref (xb X + a0) :: rest)) := by
  obtain ⟨r, s', e, h⟩ := bnd_some h
  exact v_callIN (b := a0) (As := []) (rest := rest) (c_X2_init X N a0 s s' r e).2 rfl vl_X2_init qi_X2_init hlink hR rfl rfl hls hr hdg (kk r s' h)
theorem kn_X2_init_X4 {X : VX} {cc : ByteArray} {own : String} {nL fr lo : Nat} {ini : Bool} {E : VX → Prop} {sF s : vS} {ρ : Type} {res : ρ} {pc : Nat} {ls : Array Slot} {rest : List Value} {N index : Nat} {a0 : Nat} {f : Unit → vS → Option ρ} (h : bnd (F_X2_init N a0 s) f = some res) (hlink : Cond.methodLinkNest own index yX2_init RX8 ∈ nestW) (hR : 1 + 1 ≤ fr ∧ 8 + (1 + 11) + 20 ≤ lo) (hls : ls.size = nL) (hr : (rest.map fun v => v.category).sum ≤ 8) (hdg : decode cc pc = .ok (.invokespecial index, 3)) (kk : ∀ r s', f r s' = some res → V X (cc, own, nL, fr, lo, ini) E sF s' (G0 X (pc + 3) ls (rest))) : V X (cc, own, nL, fr, lo, ini) E sF s (G0 X pc ls (.ref (xb X + a0) :: rest)) := by
  obtain ⟨r, s', e, h⟩ := bnd_some h
  exact v_callIN (b := a0) (As := []) (rest := rest) (c_X2_init X N a0 s s' r e).2 rfl vl_X2_init qi_X2_init hlink hR rfl rfl hls hr hdg (kk r s' h)
theorem kn_X2_init_X8 {X : VX} {cc : ByteArray} {own : String} {nL fr lo : Nat} {ini : Bool} {E : VX → Prop} {sF s : vS} {ρ : Type} {res : ρ} {pc : Nat} {ls : Array Slot} {rest : List Value} {N index : Nat} {a0 : Nat} {f : Unit → vS → Option ρ} (h : bnd (F_X2_init N a0 s) f = some res) (hlink : Cond.methodLinkNest own index yX2_init RX8 ∈ nestW) (hR : 1 + 1 ≤ fr ∧ 8 + (1 + 11) + 20 ≤ lo) (hls : ls.size = nL) (hr : (rest.map fun v => v.category).sum ≤ 8) (hdg : decode cc pc = .ok (.invokespecial index, 3)) (kk : ∀ r s', f r s' = some res → V X (cc, own, nL, fr, lo, ini) E sF s' (G0 X (pc + 3) ls (rest))) : V X (cc, own, nL, fr, lo, ini) E sF s (G0 X pc ls (.ref (xb X + a0) :: rest)) := by
  obtain ⟨r, s', e, h⟩ := bnd_some h
  exact v_callIN (b := a0) (As := []) (rest := rest) (c_X2_init X N a0 s s' r e).2 rfl vl_X2_init qi_X2_init hlink hR rfl rfl hls hr hdg (kk r s' h)
set_option maxHeartbeats 4000000 in
set_option maxRecDepth 100000 in
theorem L_X2_greatestIn_71 {X : VX} {sF : vS} {r : Int64} (N : Nat) (l4 : Int64) (s : vS) (ls : Array Slot) (hl : lv_has ls 11 [(4, .long l4)]) (h : J_X2_greatestIn_71 N l4 s = some (r, sF)) : V X (cX2_greatestIn, RX2, 11, 0, 0, false) (vRet sF (some (.long r)) (some .long)) sF s (G0 X 71 ls []) := by
  unfold J_X2_greatestIn_71 at h
  refine v_lload dX2_greatestIn_71 (lv_at hl 0 rfl) ?_
  exact v_lret dX2_greatestIn_73 h
set_option maxHeartbeats 4000000 in
set_option maxRecDepth 100000 in
theorem L_X2_greatestIn_36 {X : VX} {sF : vS} {r : Int64} (N : Nat) : ∀ (n : Nat) (l4 : Int64) (l6 : Int64) (l8 : Int32) (s : vS) (ls : Array Slot), lv_has ls 11 [(4, .long l4), (6, .long l6), (8, .int l8)] → H_X2_greatestIn_36 N n l4 l6 l8 s = some (r, sF) → V X (cX2_greatestIn, RX2, 11, 0, 0, false) (vRet sF (some (.long r)) (some .long)) sF s (G0 X 36 ls []) := by
  intro n
  induction n with
  | zero => intro l4 l6 l8 s ls hl h; cases h
  | succ n ih =>
   intro l4 l6 l8 s ls hl h
   unfold H_X2_greatestIn_36 at h
   refine v_iload dX2_greatestIn_36 (lv_at hl 2 rfl) ?_
   refine v_bipush (100 : Int32) dX2_greatestIn_38 (by decide) ?_
   refine v_icmp_ge 71 dX2_greatestIn_40 (by decide) h (fun h => ?_) (fun h => ?_)
   · exact L_X2_greatestIn_71 N l4 s ls (lv_sub hl [0] rfl) h
   · refine v_lload dX2_greatestIn_43 (lv_at hl 1 rfl) ?_
     refine v_lconst (0 : Int64) dX2_greatestIn_45 (by decide) ?_
     refine v_lcmp dX2_greatestIn_46 ?_
     refine v_if_le 71 dX2_greatestIn_47 (by decide) h (fun h => ?_) (fun h => ?_)
     · exact L_X2_greatestIn_71 N l4 s ls (lv_sub hl [0] rfl) h
     · refine v_lload dX2_greatestIn_50 (lv_at hl 0 rfl) ?_
       refine v_lload dX2_greatestIn_52 (lv_at hl 1 rfl) ?_
       refine v_lrem dX2_greatestIn_54 h (fun h => ?_)
       refine v_nmJ h (fun l9_2 h => ?_)
       refine v_lstore [(9, .long l9_2), (4, .long l4), (6, .long l6), (8, .int l8)] dX2_greatestIn_55 hl (by decide) rfl (fun ls hl => ?_)
       refine v_lload dX2_greatestIn_57 (lv_at hl 2 rfl) ?_
       refine v_lstore [(4, .long l6), (9, .long l9_2), (6, .long l6), (8, .int l8)] dX2_greatestIn_59 hl (by decide) rfl (fun ls hl => ?_)
       refine v_lload dX2_greatestIn_61 (lv_at hl 1 rfl) ?_
       refine v_lstore [(6, .long l9_2), (4, .long l6), (9, .long l9_2), (8, .int l8)] dX2_greatestIn_63 hl (by decide) rfl (fun ls hl => ?_)
       refine v_inc (fun z => [(8, .int z), (6, .long l9_2), (4, .long l6), (9, .long l9_2)]) dX2_greatestIn_65 h hl (k := 3) rfl (by rfl) (by decide) (fun _ => rfl) (fun l8_3 ls hl h => ?_)
       refine v_goto 36 dX2_greatestIn_68 (by decide) ?_
       exact ih l6 l9_2 l8_3 s ls (lv_sub hl [2, 1, 0] rfl) h
set_option maxHeartbeats 4000000 in
set_option maxRecDepth 100000 in
theorem L_X2_greatestIn_31 {X : VX} {sF : vS} {r : Int64} (N : Nat) (l4 : Int64) (k0 : Int64) (s : vS) (ls : Array Slot) (hl : lv_has ls 11 [(4, .long l4)]) (h : J_X2_greatestIn_31 N l4 k0 s = some (r, sF)) : V X (cX2_greatestIn, RX2, 11, 0, 0, false) (vRet sF (some (.long r)) (some .long)) sF s (G0 X 31 ls [.long k0]) := by
  unfold J_X2_greatestIn_31 at h
  refine v_lstore [(6, .long k0), (4, .long l4)] dX2_greatestIn_31 hl (by decide) rfl (fun ls hl => ?_)
  refine v_iconst (0 : Int32) dX2_greatestIn_33 (by decide) ?_
  refine v_istore [(8, .int (0 : Int32)), (6, .long k0), (4, .long l4)] dX2_greatestIn_34 hl (by decide) rfl (fun ls hl => ?_)
  exact L_X2_greatestIn_36 N N l4 k0 (0 : Int32) s ls (lv_sub hl [2, 1, 0] rfl) h
theorem vl_X2_greatestIn : vCl yX2_greatestIn cX2_greatestIn 11 (some .long) 2 := ⟨qy_X2_greatestIn, qjX2, by decide +kernel, by decide +kernel, by decide +kernel⟩
set_option maxHeartbeats 4000000 in
set_option maxRecDepth 100000 in
theorem c_X2_greatestIn {l : Launch} {D : va_G} {ka : Nat → ClassId} (X0 : VX) (N : Nat) (l0 : Int64) (l2 : Int64) (s sF : vS) (r : Int64) (h : F_X2_greatestIn N l0 l2 s = some (r, sF)) : vMet l D ka (xb X0) yX2_greatestIn cX2_greatestIn 11 (some .long) 0 0 [.long l0, .long l2] s sF (some (.long r)) := by
  unfold F_X2_greatestIn at h
  refine vMet.of (ini := false) X0 (plainFor_of_name (by decide +kernel)) (Nat.le_of_ble_eq_true rfl) (fun h => by cases h) (fun X ls hb hl => ?_) rfl
  show V X (cX2_greatestIn, RX2, 11, 0, 0, false) (vRet sF (some (.long r)) (some .long)) sF s (G0 X 0 ls [])
  have hl : lv_has ls 11 [(0, .long l0), (2, .long l2)] := hl
  refine v_lload_n dX2_greatestIn_0 rfl (lv_at hl 1 rfl) ?_
  refine v_lconst (1 : Int64) dX2_greatestIn_1 (by decide) ?_
  refine v_lcmp dX2_greatestIn_2 ?_
  refine v_if_ge 8 dX2_greatestIn_3 (by decide) h (fun h => ?_) (fun h => ?_)
  · refine v_lload_n dX2_greatestIn_8 rfl (lv_at hl 1 rfl) ?_
    refine v_lstore [(4, .long l2), (0, .long l0), (2, .long l2)] dX2_greatestIn_9 hl (by decide) rfl (fun ls hl => ?_)
    refine v_lload_n dX2_greatestIn_11 rfl (lv_at hl 1 rfl) ?_
    refine v_lload_n dX2_greatestIn_12 rfl (lv_at hl 2 rfl) ?_
    refine v_lrem dX2_greatestIn_13 h (fun h => ?_)
    refine v_nmJ h (fun l6_1 h => ?_)
    refine v_lstore [(6, .long l6_1), (4, .long l2), (0, .long l0), (2, .long l2)] dX2_greatestIn_14 hl (by decide) rfl (fun ls hl => ?_)
    refine v_lload dX2_greatestIn_16 (lv_at hl 0 rfl) ?_
    refine v_lconst (0 : Int64) dX2_greatestIn_18 (by decide) ?_
    refine v_lcmp dX2_greatestIn_19 ?_
    refine v_if_ge 29 dX2_greatestIn_20 (by decide) h (fun h => ?_) (fun h => ?_)
    · refine v_lload dX2_greatestIn_29 (lv_at hl 0 rfl) ?_
      exact L_X2_greatestIn_31 N l2 l6_1 s ls (lv_sub hl [1] rfl) h
    · refine v_lload dX2_greatestIn_23 (lv_at hl 0 rfl) ?_
      refine v_lneg dX2_greatestIn_25 ?_
      refine v_goto 31 dX2_greatestIn_26 (by decide) ?_
      exact L_X2_greatestIn_31 N l2 (-l6_1) s ls (lv_sub hl [1] rfl) h
  · refine v_lconst (1 : Int64) dX2_greatestIn_6 (by decide) ?_
    exact v_lret dX2_greatestIn_7 h
theorem k_X2_greatestIn {X : VX} {cc : ByteArray} {own : String} {nL fr lo : Nat} {ini : Bool} {E : VX → Prop} {sF s : vS} {ρ : Type} {res : ρ} {pc : Nat} {ls : Array Slot} {rest : List Value} {N index : Nat} {l0 : Int64} {l2 : Int64} {f : Int64 → vS → Option ρ} (h : bnd (F_X2_greatestIn N l0 l2 s) f = some res) (hlink : Cond.methodLink own index yX2_greatestIn ∈ TT) (hR : 0 + 1 ≤ fr ∧ 8 + (11 + 11) + 0 ≤ lo) (hls : ls.size = nL) (hr : (rest.map fun v => v.category).sum ≤ 8) (hdg : decode cc pc = .ok (.invokestatic index, 3)) (kk : ∀ r s', f r s' = some res → V X (cc, own, nL, fr, lo, ini) E sF s' (G0 X (pc + 3) ls (.long r :: rest))) : V X (cc, own, nL, fr, lo, ini) E sF s (G0 X pc ls (.long l2 :: .long l0 :: rest)) := by
  obtain ⟨r, s', e, h⟩ := bnd_some h
  exact v_callS (As := [.long l0, .long l2]) (rest := rest) (c_X2_greatestIn X N l0 l2 s s' r e) vl_X2_greatestIn qs_X2_greatestIn hlink hR rfl rfl hls hr hdg (kk r s' h)
theorem vl_X2_become : vCl yX2_become cX2_become 7 none 2 := ⟨qy_X2_become, qjX2, by decide +kernel, by decide +kernel, by decide +kernel⟩
set_option maxHeartbeats 4000000 in
set_option maxRecDepth 100000 in
theorem c_X2_become {l : Launch} {D : va_G} {ka : Nat → ClassId} (X0 : VX) (N : Nat) (a0 : Nat) (l1 : Int64) (l3 : Int64) (s sF : vS) (r : Unit) (h : F_X2_become N a0 l1 l3 s = some (r, sF)) : isO s a0 2 = true ∧ vMet l D ka (xb X0) yX2_become cX2_become 7 none 1 30 [.ref (xb X0 + a0), .long l1, .long l3] s sF none := by
  unfold F_X2_become at h
  unfold rcv at h
  obtain ⟨hO, h⟩ := v_chk h
  refine ⟨hO, vMet.of (ini := false) X0 (plainFor_of_name (by decide +kernel)) (Nat.le_of_ble_eq_true rfl) (fun h => by cases h) (fun X ls hb hl => ?_) rfl⟩
  show V X (cX2_become, RX2, 7, 1, 30, false) (vRet sF none none) sF s (G0 X 0 ls [])
  rw [← hb] at hl
  have hl : lv_has ls 7 [(0, .ref (xb X + a0)), (1, .long l1), (3, .long l3)] := hl
  refine v_lload_n dX2_become_0 rfl (lv_at hl 2 rfl) ?_
  refine v_lconst (1 : Int64) dX2_become_1 (by decide) ?_
  refine v_lcmp dX2_become_2 ?_
  refine v_if_ge 17 dX2_become_3 (by decide) h (fun h => ?_) (fun h => ?_)
  · refine v_lload_n dX2_become_17 rfl (lv_at hl 1 rfl) ?_
    refine v_lload_n dX2_become_18 rfl (lv_at hl 2 rfl) ?_
    refine k_X2_greatestIn h qmX2_16 (by decide) hl.1 (Nat.le_of_ble_eq_true rfl) dX2_become_19 (fun v1 s h => ?_)
    refine v_lstore [(5, .long v1), (0, .ref (xb X + a0)), (1, .long l1), (3, .long l3)] dX2_become_22 hl (by decide) rfl (fun ls hl => ?_)
    refine v_aload_n dX2_become_24 rfl (lv_at hl 1 rfl) ?_
    refine v_lload_n dX2_become_25 rfl (lv_at hl 2 rfl) ?_
    refine v_lload dX2_become_26 (lv_at hl 0 rfl) ?_
    refine v_ldiv dX2_become_28 h (fun h => ?_)
    refine v_putJ 2 0 h (by decide) rfl (Or.inl rfl) qfX2_7 dX2_become_29 (fun s h => ?_)
    refine v_aload_n dX2_become_32 rfl (lv_at hl 1 rfl) ?_
    refine v_lload_n dX2_become_33 rfl (lv_at hl 3 rfl) ?_
    refine v_lload dX2_become_34 (lv_at hl 0 rfl) ?_
    refine v_ldiv dX2_become_36 h (fun h => ?_)
    refine v_putJ 2 1 h (by decide) rfl (Or.inl rfl) qfX2_13 dX2_become_37 (fun s h => ?_)
    exact v_vret dX2_become_40 h
  · refine v_aload_n dX2_become_6 rfl (lv_at hl 0 rfl) ?_
    refine v_lconst (0 : Int64) dX2_become_7 (by decide) ?_
    refine v_putJ 2 0 h (by decide) rfl (Or.inl rfl) qfX2_7 dX2_become_8 (fun s h => ?_)
    refine v_aload_n dX2_become_11 rfl (lv_at hl 0 rfl) ?_
    refine v_lconst (1 : Int64) dX2_become_12 (by decide) ?_
    refine v_putJ 2 1 h (by decide) rfl (Or.inl rfl) qfX2_13 dX2_become_13 (fun s h => ?_)
    exact v_vret dX2_become_16 h
theorem k_X2_become {X : VX} {cc : ByteArray} {own : String} {nL fr lo : Nat} {ini : Bool} {E : VX → Prop} {sF s : vS} {ρ : Type} {res : ρ} {pc : Nat} {ls : Array Slot} {rest : List Value} {N index : Nat} {a0 : Nat} {l1 : Int64} {l3 : Int64} {f : Unit → vS → Option ρ} (h : bnd (F_X2_become N a0 l1 l3 s) f = some res) (hlink : Cond.methodLink own index yX2_become ∈ TT) (hR : 1 + 1 ≤ fr ∧ 8 + (7 + 11) + 30 ≤ lo) (hls : ls.size = nL) (hr : (rest.map fun v => v.category).sum ≤ 8) (hdg : decode cc pc = .ok (.invokevirtual index, 3)) (kk : ∀ r s', f r s' = some res → V X (cc, own, nL, fr, lo, ini) E sF s' (G0 X (pc + 3) ls (rest))) : V X (cc, own, nL, fr, lo, ini) E sF s (G0 X pc ls (.long l3 :: .long l1 :: .ref (xb X + a0) :: rest)) := by
  obtain ⟨r, s', e, h⟩ := bnd_some h
  exact v_callV (b := a0) (ci := 2) (As := [.long l1, .long l3]) (rest := rest) (c_X2_become X N a0 l1 l3 s s' r e).2 (c_X2_become (l := xl X) (D := xD X) (ka := xka X) X N a0 l1 l3 s s' r e).1 rfl vl_X2_become qi_X2_become qe_X2_become hlink hR rfl rfl hls hr hdg (kk r s' h)
set_option maxHeartbeats 4000000 in
set_option maxRecDepth 100000 in
theorem L_X6_take_30 {X : VX} {sF : vS} {r : Unit} (N : Nat) (s : vS) (ls : Array Slot) (hl : lv_has ls 3 []) (h : J_X6_take_30 N  s = some (r, sF)) : V X (cX6_take, RX6, 3, 0, 0, false) (vRet sF none none) sF s (G0 X 30 ls []) := by
  unfold J_X6_take_30 at h
  exact v_vret dX6_take_30 h
theorem vl_X6_take : vCl yX6_take cX6_take 3 none 2 := ⟨qy_X6_take, qjX6, by decide +kernel, by decide +kernel, by decide +kernel⟩
set_option maxHeartbeats 4000000 in
set_option maxRecDepth 100000 in
theorem c_X6_take {l : Launch} {D : va_G} {ka : Nat → ClassId} (X0 : VX) (N : Nat) (a0 : Nat) (l1 : Int32) (a2 : Nat) (s sF : vS) (r : Unit) (h : F_X6_take N a0 l1 a2 s = some (r, sF)) : isO s a0 6 = true ∧ vMet l D ka (xb X0) yX6_take cX6_take 3 none 0 0 [.ref (xb X0 + a0), .int l1, .ref (xb X0 + a2)] s sF none := by
  unfold F_X6_take at h
  unfold rcv at h
  obtain ⟨hO, h⟩ := v_chk h
  refine ⟨hO, vMet.of (ini := false) X0 (plainFor_of_name (by decide +kernel)) (Nat.le_of_ble_eq_true rfl) (fun h => by cases h) (fun X ls hb hl => ?_) rfl⟩
  show V X (cX6_take, RX6, 3, 0, 0, false) (vRet sF none none) sF s (G0 X 0 ls [])
  rw [← hb] at hl
  have hl : lv_has ls 3 [(0, .ref (xb X + a0)), (1, .int l1), (2, .ref (xb X + a2))] := hl
  refine v_iload_n dX6_take_0 rfl (lv_at hl 1 rfl) ?_
  refine v_if_lt 30 dX6_take_1 (by decide) h (fun h => ?_) (fun h => ?_)
  · exact L_X6_take_30 N  s ls (lv_sub hl [] rfl) h
  · refine v_iload_n dX6_take_4 rfl (lv_at hl 1 rfl) ?_
    refine v_bipush (29 : Int32) dX6_take_5 (by decide) ?_
    refine v_icmp_ge 30 dX6_take_7 (by decide) h (fun h => ?_) (fun h => ?_)
    · exact L_X6_take_30 N  s ls (lv_sub hl [] rfl) h
    · refine v_aload_n dX6_take_10 rfl (lv_at hl 0 rfl) ?_
      refine v_getR 6 1 h (by decide) rfl qfX6_15 dX6_take_11 (fun r1 h => ?_)
      refine v_iload_n dX6_take_14 rfl (lv_at hl 1 rfl) ?_
      refine v_aload_n dX6_take_15 rfl (lv_at hl 2 rfl) ?_
      refine v_getJ 2 0 h (by decide) rfl qfX6_25 dX6_take_16 (fun v2 h => ?_)
      refine v_last dX6_take_19 h (fun s h => ?_)
      refine v_aload_n dX6_take_20 rfl (lv_at hl 0 rfl) ?_
      refine v_getR 6 2 h (by decide) rfl qfX6_19 dX6_take_21 (fun r3 h => ?_)
      refine v_iload_n dX6_take_24 rfl (lv_at hl 1 rfl) ?_
      refine v_aload_n dX6_take_25 rfl (lv_at hl 2 rfl) ?_
      refine v_getJ 2 1 h (by decide) rfl qfX6_30 dX6_take_26 (fun v4 h => ?_)
      refine v_last dX6_take_29 h (fun s h => ?_)
      exact L_X6_take_30 N  s ls (lv_sub hl [] rfl) h
theorem k_X6_take {X : VX} {cc : ByteArray} {own : String} {nL fr lo : Nat} {ini : Bool} {E : VX → Prop} {sF s : vS} {ρ : Type} {res : ρ} {pc : Nat} {ls : Array Slot} {rest : List Value} {N index : Nat} {a0 : Nat} {l1 : Int32} {a2 : Nat} {f : Unit → vS → Option ρ} (h : bnd (F_X6_take N a0 l1 a2 s) f = some res) (hlink : Cond.methodLink own index yX6_take ∈ TT) (hR : 0 + 1 ≤ fr ∧ 8 + (3 + 11) + 0 ≤ lo) (hls : ls.size = nL) (hr : (rest.map fun v => v.category).sum ≤ 8) (hdg : decode cc pc = .ok (.invokevirtual index, 3)) (kk : ∀ r s', f r s' = some res → V X (cc, own, nL, fr, lo, ini) E sF s' (G0 X (pc + 3) ls (rest))) : V X (cc, own, nL, fr, lo, ini) E sF s (G0 X pc ls (.ref (xb X + a2) :: .int l1 :: .ref (xb X + a0) :: rest)) := by
  obtain ⟨r, s', e, h⟩ := bnd_some h
  exact v_callV (b := a0) (ci := 6) (As := [.int l1, .ref (xb X + a2)]) (rest := rest) (c_X6_take X N a0 l1 a2 s s' r e).2 (c_X6_take (l := xl X) (D := xD X) (ka := xka X) X N a0 l1 a2 s s' r e).1 rfl vl_X6_take qi_X6_take qe_X6_take hlink hR rfl rfl hls hr hdg (kk r s' h)
theorem vl_J6_bitCount_0f7a4 : vCl yJ6_bitCount_0f7a4 cJ6_bitCount_0f7a4 1 (some .int) 1 := ⟨qy_J6_bitCount_0f7a4, qjJ6, by decide +kernel, by decide +kernel, by decide +kernel⟩
set_option maxHeartbeats 4000000 in
set_option maxRecDepth 100000 in
theorem c_J6_bitCount_0f7a4 {l : Launch} {D : va_G} {ka : Nat → ClassId} (X0 : VX) (N : Nat) (l0 : Int32) (s sF : vS) (r : Int32) (h : F_J6_bitCount_0f7a4 N l0 s = some (r, sF)) : vMet l D ka (xb X0) yJ6_bitCount_0f7a4 cJ6_bitCount_0f7a4 1 (some .int) 0 0 [.int l0] s sF (some (.int r)) := by
  unfold F_J6_bitCount_0f7a4 at h
  refine vMet.of (ini := false) X0 (plainFor_of_name (by decide +kernel)) (Nat.le_of_ble_eq_true rfl) (fun h => by cases h) (fun X ls hb hl => ?_) rfl
  show V X (cJ6_bitCount_0f7a4, RJ6, 1, 0, 0, false) (vRet sF (some (.int r)) (some .int)) sF s (G0 X 0 ls [])
  have hl : lv_has ls 1 [(0, .int l0)] := hl
  refine v_iload_n dJ6_bitCount_0f7a4_0 rfl (lv_at hl 0 rfl) ?_
  refine v_iload_n dJ6_bitCount_0f7a4_1 rfl (lv_at hl 0 rfl) ?_
  refine v_iconst (1 : Int32) dJ6_bitCount_0f7a4_2 (by decide) ?_
  refine v_iushr dJ6_bitCount_0f7a4_3 ?_
  refine v_ldcw qkJ6_265 dJ6_bitCount_0f7a4_4 ?_
  refine v_iand dJ6_bitCount_0f7a4_7 ?_
  refine v_isub dJ6_bitCount_0f7a4_8 ?_
  refine v_nmI h (fun l0_1 h => ?_)
  refine v_istore_n [(0, .int l0_1)] dJ6_bitCount_0f7a4_9 rfl hl (by decide) rfl (fun ls hl => ?_)
  refine v_iload_n dJ6_bitCount_0f7a4_10 rfl (lv_at hl 0 rfl) ?_
  refine v_ldcw qkJ6_266 dJ6_bitCount_0f7a4_11 ?_
  refine v_iand dJ6_bitCount_0f7a4_14 ?_
  refine v_iload_n dJ6_bitCount_0f7a4_15 rfl (lv_at hl 0 rfl) ?_
  refine v_iconst (2 : Int32) dJ6_bitCount_0f7a4_16 (by decide) ?_
  refine v_iushr dJ6_bitCount_0f7a4_17 ?_
  refine v_ldcw qkJ6_266 dJ6_bitCount_0f7a4_18 ?_
  refine v_iand dJ6_bitCount_0f7a4_21 ?_
  refine v_iadd dJ6_bitCount_0f7a4_22 ?_
  refine v_nmI h (fun l0_2 h => ?_)
  refine v_istore_n [(0, .int l0_2)] dJ6_bitCount_0f7a4_23 rfl hl (by decide) rfl (fun ls hl => ?_)
  refine v_iload_n dJ6_bitCount_0f7a4_24 rfl (lv_at hl 0 rfl) ?_
  refine v_iload_n dJ6_bitCount_0f7a4_25 rfl (lv_at hl 0 rfl) ?_
  refine v_iconst (4 : Int32) dJ6_bitCount_0f7a4_26 (by decide) ?_
  refine v_iushr dJ6_bitCount_0f7a4_27 ?_
  refine v_iadd dJ6_bitCount_0f7a4_28 ?_
  refine v_ldcw qkJ6_267 dJ6_bitCount_0f7a4_29 ?_
  refine v_iand dJ6_bitCount_0f7a4_32 ?_
  refine v_nmI h (fun l0_3 h => ?_)
  refine v_istore_n [(0, .int l0_3)] dJ6_bitCount_0f7a4_33 rfl hl (by decide) rfl (fun ls hl => ?_)
  refine v_iload_n dJ6_bitCount_0f7a4_34 rfl (lv_at hl 0 rfl) ?_
  refine v_iload_n dJ6_bitCount_0f7a4_35 rfl (lv_at hl 0 rfl) ?_
  refine v_bipush (8 : Int32) dJ6_bitCount_0f7a4_36 (by decide) ?_
  refine v_iushr dJ6_bitCount_0f7a4_38 ?_
  refine v_iadd dJ6_bitCount_0f7a4_39 ?_
  refine v_nmI h (fun l0_4 h => ?_)
  refine v_istore_n [(0, .int l0_4)] dJ6_bitCount_0f7a4_40 rfl hl (by decide) rfl (fun ls hl => ?_)
  refine v_iload_n dJ6_bitCount_0f7a4_41 rfl (lv_at hl 0 rfl) ?_
  refine v_iload_n dJ6_bitCount_0f7a4_42 rfl (lv_at hl 0 rfl) ?_
  refine v_bipush (16 : Int32) dJ6_bitCount_0f7a4_43 (by decide) ?_
  refine v_iushr dJ6_bitCount_0f7a4_45 ?_
  refine v_iadd dJ6_bitCount_0f7a4_46 ?_
  refine v_nmI h (fun l0_5 h => ?_)
  refine v_istore_n [(0, .int l0_5)] dJ6_bitCount_0f7a4_47 rfl hl (by decide) rfl (fun ls hl => ?_)
  refine v_iload_n dJ6_bitCount_0f7a4_48 rfl (lv_at hl 0 rfl) ?_
  refine v_bipush (63 : Int32) dJ6_bitCount_0f7a4_49 (by decide) ?_
  refine v_iand dJ6_bitCount_0f7a4_51 ?_
  exact v_iret dJ6_bitCount_0f7a4_52 h
theorem k_J6_bitCount_0f7a4 {X : VX} {cc : ByteArray} {own : String} {nL fr lo : Nat} {ini : Bool} {E : VX → Prop} {sF s : vS} {ρ : Type} {res : ρ} {pc : Nat} {ls : Array Slot} {rest : List Value} {N index : Nat} {l0 : Int32} {f : Int32 → vS → Option ρ} (h : bnd (F_J6_bitCount_0f7a4 N l0 s) f = some res) (hlink : Cond.methodLink own index yJ6_bitCount_0f7a4 ∈ TT) (hR : 0 + 1 ≤ fr ∧ 8 + (1 + 11) + 0 ≤ lo) (hls : ls.size = nL) (hr : (rest.map fun v => v.category).sum ≤ 8) (hdg : decode cc pc = .ok (.invokestatic index, 3)) (kk : ∀ r s', f r s' = some res → V X (cc, own, nL, fr, lo, ini) E sF s' (G0 X (pc + 3) ls (.int r :: rest))) : V X (cc, own, nL, fr, lo, ini) E sF s (G0 X pc ls (.int l0 :: rest)) := by
  obtain ⟨r, s', e, h⟩ := bnd_some h
  exact v_callS (As := [.int l0]) (rest := rest) (c_J6_bitCount_0f7a4 X N l0 s s' r e) vl_J6_bitCount_0f7a4 qs_J6_bitCount_0f7a4 hlink hR rfl rfl hls hr hdg (kk r s' h)
set_option maxHeartbeats 4000000 in
set_option maxRecDepth 100000 in
theorem L_X1_hasSize_18 {X : VX} {sF : vS} {r : Int32} (N : Nat) (k0 : Int32) (s : vS) (ls : Array Slot) (hl : lv_has ls 2 []) (h : J_X1_hasSize_18 N k0 s = some (r, sF)) : V X (cX1_hasSize, RX1, 2, 0, 0, false) (vRet sF (some (.int r)) (some .boolean)) sF s (G0 X 18 ls [.int k0]) := by
  unfold J_X1_hasSize_18 at h
  exact v_zret dX1_hasSize_18 h
set_option maxHeartbeats 4000000 in
set_option maxRecDepth 100000 in
theorem L_X1_hasSize_17 {X : VX} {sF : vS} {r : Int32} (N : Nat) (s : vS) (ls : Array Slot) (hl : lv_has ls 2 []) (h : J_X1_hasSize_17 N  s = some (r, sF)) : V X (cX1_hasSize, RX1, 2, 0, 0, false) (vRet sF (some (.int r)) (some .boolean)) sF s (G0 X 17 ls []) := by
  unfold J_X1_hasSize_17 at h
  refine v_iconst (0 : Int32) dX1_hasSize_17 (by decide) ?_
  exact L_X1_hasSize_18 N (0 : Int32) s ls (lv_sub hl [] rfl) h
theorem vl_X1_hasSize : vCl yX1_hasSize cX1_hasSize 2 (some .boolean) 1 := ⟨qy_X1_hasSize, qjX1, by decide +kernel, by decide +kernel, by decide +kernel⟩
set_option maxHeartbeats 4000000 in
set_option maxRecDepth 100000 in
theorem c_X1_hasSize {l : Launch} {D : va_G} {ka : Nat → ClassId} (X0 : VX) (N : Nat) (a0 : Nat) (l1 : Int32) (s sF : vS) (r : Int32) (h : F_X1_hasSize N a0 l1 s = some (r, sF)) : isO s a0 1 = true ∧ vMet l D ka (xb X0) yX1_hasSize cX1_hasSize 2 (some .boolean) 0 0 [.ref (xb X0 + a0), .int l1] s sF (some (.int r)) := by
  unfold F_X1_hasSize at h
  unfold rcv at h
  obtain ⟨hO, h⟩ := v_chk h
  refine ⟨hO, vMet.of (ini := false) X0 (plainFor_of_name (by decide +kernel)) (Nat.le_of_ble_eq_true rfl) (fun h => by cases h) (fun X ls hb hl => ?_) rfl⟩
  show V X (cX1_hasSize, RX1, 2, 0, 0, false) (vRet sF (some (.int r)) (some .boolean)) sF s (G0 X 0 ls [])
  rw [← hb] at hl
  have hl : lv_has ls 2 [(0, .ref (xb X + a0)), (1, .int l1)] := hl
  refine v_iload_n dX1_hasSize_0 rfl (lv_at hl 1 rfl) ?_
  refine v_aload_n dX1_hasSize_1 rfl (lv_at hl 0 rfl) ?_
  refine v_getI 1 1 h (by decide) (Or.inl rfl) qfX1_38 dX1_hasSize_2 (fun v1 h => ?_)
  refine v_icmp_lt 17 dX1_hasSize_5 (by decide) h (fun h => ?_) (fun h => ?_)
  · exact L_X1_hasSize_17 N  s ls (lv_sub hl [] rfl) h
  · refine v_iload_n dX1_hasSize_8 rfl (lv_at hl 1 rfl) ?_
    refine v_iconst (4 : Int32) dX1_hasSize_9 (by decide) ?_
    refine v_icmp_gt 17 dX1_hasSize_10 (by decide) h (fun h => ?_) (fun h => ?_)
    · exact L_X1_hasSize_17 N  s ls (lv_sub hl [] rfl) h
    · refine v_iconst (1 : Int32) dX1_hasSize_13 (by decide) ?_
      refine v_goto 18 dX1_hasSize_14 (by decide) ?_
      exact L_X1_hasSize_18 N (1 : Int32) s ls (lv_sub hl [] rfl) h
theorem k_X1_hasSize {X : VX} {cc : ByteArray} {own : String} {nL fr lo : Nat} {ini : Bool} {E : VX → Prop} {sF s : vS} {ρ : Type} {res : ρ} {pc : Nat} {ls : Array Slot} {rest : List Value} {N index : Nat} {a0 : Nat} {l1 : Int32} {f : Int32 → vS → Option ρ} (h : bnd (F_X1_hasSize N a0 l1 s) f = some res) (hlink : Cond.methodLink own index yX1_hasSize ∈ TT) (hR : 0 + 1 ≤ fr ∧ 8 + (2 + 11) + 0 ≤ lo) (hls : ls.size = nL) (hr : (rest.map fun v => v.category).sum ≤ 8) (hdg : decode cc pc = .ok (.invokevirtual index, 3)) (kk : ∀ r s', f r s' = some res → V X (cc, own, nL, fr, lo, ini) E sF s' (G0 X (pc + 3) ls (.int r :: rest))) : V X (cc, own, nL, fr, lo, ini) E sF s (G0 X pc ls (.int l1 :: .ref (xb X + a0) :: rest)) := by
  obtain ⟨r, s', e, h⟩ := bnd_some h
  exact v_callV (b := a0) (ci := 1) (As := [.int l1]) (rest := rest) (c_X1_hasSize X N a0 l1 s s' r e).2 (c_X1_hasSize (l := xl X) (D := xD X) (ka := xka X) X N a0 l1 s s' r e).1 rfl vl_X1_hasSize qi_X1_hasSize qe_X1_hasSize hlink hR rfl rfl hls hr hdg (kk r s' h)
set_option maxHeartbeats 4000000 in
set_option maxRecDepth 100000 in
theorem L_X3_has_17 {X : VX} {sF : vS} {r : Int32} (N : Nat) (k0 : Int32) (s : vS) (ls : Array Slot) (hl : lv_has ls 2 []) (h : J_X3_has_17 N k0 s = some (r, sF)) : V X (cX3_has, RX3, 2, 0, 0, false) (vRet sF (some (.int r)) (some .boolean)) sF s (G0 X 17 ls [.int k0]) := by
  unfold J_X3_has_17 at h
  exact v_zret dX3_has_17 h
set_option maxHeartbeats 4000000 in
set_option maxRecDepth 100000 in
theorem L_X3_has_16 {X : VX} {sF : vS} {r : Int32} (N : Nat) (s : vS) (ls : Array Slot) (hl : lv_has ls 2 []) (h : J_X3_has_16 N  s = some (r, sF)) : V X (cX3_has, RX3, 2, 0, 0, false) (vRet sF (some (.int r)) (some .boolean)) sF s (G0 X 16 ls []) := by
  unfold J_X3_has_16 at h
  refine v_iconst (0 : Int32) dX3_has_16 (by decide) ?_
  exact L_X3_has_17 N (0 : Int32) s ls (lv_sub hl [] rfl) h
theorem vl_X3_has : vCl yX3_has cX3_has 2 (some .boolean) 1 := ⟨qy_X3_has, qjX3, by decide +kernel, by decide +kernel, by decide +kernel⟩
set_option maxHeartbeats 4000000 in
set_option maxRecDepth 100000 in
theorem c_X3_has {l : Launch} {D : va_G} {ka : Nat → ClassId} (X0 : VX) (N : Nat) (a0 : Nat) (l1 : Int32) (s sF : vS) (r : Int32) (h : F_X3_has N a0 l1 s = some (r, sF)) : isO s a0 3 = true ∧ vMet l D ka (xb X0) yX3_has cX3_has 2 (some .boolean) 0 0 [.ref (xb X0 + a0), .int l1] s sF (some (.int r)) := by
  unfold F_X3_has at h
  unfold rcv at h
  obtain ⟨hO, h⟩ := v_chk h
  refine ⟨hO, vMet.of (ini := false) X0 (plainFor_of_name (by decide +kernel)) (Nat.le_of_ble_eq_true rfl) (fun h => by cases h) (fun X ls hb hl => ?_) rfl⟩
  show V X (cX3_has, RX3, 2, 0, 0, false) (vRet sF (some (.int r)) (some .boolean)) sF s (G0 X 0 ls [])
  rw [← hb] at hl
  have hl : lv_has ls 2 [(0, .ref (xb X + a0)), (1, .int l1)] := hl
  refine v_iload_n dX3_has_0 rfl (lv_at hl 1 rfl) ?_
  refine v_if_lt 16 dX3_has_1 (by decide) h (fun h => ?_) (fun h => ?_)
  · exact L_X3_has_16 N  s ls (lv_sub hl [] rfl) h
  · refine v_iload_n dX3_has_4 rfl (lv_at hl 1 rfl) ?_
    refine v_aload_n dX3_has_5 rfl (lv_at hl 0 rfl) ?_
    refine v_getI 3 0 h (by decide) (Or.inl rfl) qfX3_9 dX3_has_6 (fun v1 h => ?_)
    refine v_icmp_ge 16 dX3_has_9 (by decide) h (fun h => ?_) (fun h => ?_)
    · exact L_X3_has_16 N  s ls (lv_sub hl [] rfl) h
    · refine v_iconst (1 : Int32) dX3_has_12 (by decide) ?_
      refine v_goto 17 dX3_has_13 (by decide) ?_
      exact L_X3_has_17 N (1 : Int32) s ls (lv_sub hl [] rfl) h
theorem k_X3_has {X : VX} {cc : ByteArray} {own : String} {nL fr lo : Nat} {ini : Bool} {E : VX → Prop} {sF s : vS} {ρ : Type} {res : ρ} {pc : Nat} {ls : Array Slot} {rest : List Value} {N index : Nat} {a0 : Nat} {l1 : Int32} {f : Int32 → vS → Option ρ} (h : bnd (F_X3_has N a0 l1 s) f = some res) (hlink : Cond.methodLink own index yX3_has ∈ TT) (hR : 0 + 1 ≤ fr ∧ 8 + (2 + 11) + 0 ≤ lo) (hls : ls.size = nL) (hr : (rest.map fun v => v.category).sum ≤ 8) (hdg : decode cc pc = .ok (.invokevirtual index, 3)) (kk : ∀ r s', f r s' = some res → V X (cc, own, nL, fr, lo, ini) E sF s' (G0 X (pc + 3) ls (.int r :: rest))) : V X (cc, own, nL, fr, lo, ini) E sF s (G0 X pc ls (.int l1 :: .ref (xb X + a0) :: rest)) := by
  obtain ⟨r, s', e, h⟩ := bnd_some h
  exact v_callV (b := a0) (ci := 3) (As := [.int l1]) (rest := rest) (c_X3_has X N a0 l1 s s' r e).2 (c_X3_has (l := xl X) (D := xD X) (ka := xka X) X N a0 l1 s s' r e).1 rfl vl_X3_has qi_X3_has qe_X3_has hlink hR rfl rfl hls hr hdg (kk r s' h)
set_option maxHeartbeats 4000000 in
set_option maxRecDepth 100000 in
theorem L_X1_bitOf_21 {X : VX} {sF : vS} {r : Int32} (N : Nat) (l2 : Int32) (k0 : Int32) (s : vS) (ls : Array Slot) (hl : lv_has ls 4 [(2, .int l2)]) (h : J_X1_bitOf_21 N l2 k0 s = some (r, sF)) : V X (cX1_bitOf, RX1, 4, 0, 0, false) (vRet sF (some (.int r)) (some .int)) sF s (G0 X 21 ls [.int k0]) := by
  unfold J_X1_bitOf_21 at h
  refine v_istore_n [(3, .int k0), (2, .int l2)] dX1_bitOf_21 rfl hl (by decide) rfl (fun ls hl => ?_)
  refine v_iconst (1 : Int32) dX1_bitOf_22 (by decide) ?_
  refine v_iload_n dX1_bitOf_23 rfl (lv_at hl 0 rfl) ?_
  refine v_iload_n dX1_bitOf_24 rfl (lv_at hl 0 rfl) ?_
  refine v_iconst (1 : Int32) dX1_bitOf_25 (by decide) ?_
  refine v_isub dX1_bitOf_26 ?_
  refine v_imul dX1_bitOf_27 ?_
  refine v_iconst (2 : Int32) dX1_bitOf_28 (by decide) ?_
  refine v_idiv dX1_bitOf_29 h (fun h => ?_)
  refine v_iload_n dX1_bitOf_30 rfl (lv_at hl 1 rfl) ?_
  refine v_iadd dX1_bitOf_31 ?_
  refine v_ishl dX1_bitOf_32 ?_
  exact v_iret dX1_bitOf_33 h
set_option maxHeartbeats 4000000 in
set_option maxRecDepth 100000 in
theorem L_X1_bitOf_10 {X : VX} {sF : vS} {r : Int32} (N : Nat) (l0 : Int32) (l1 : Int32) (k0 : Int32) (s : vS) (ls : Array Slot) (hl : lv_has ls 4 [(0, .int l0), (1, .int l1)]) (h : J_X1_bitOf_10 N l0 l1 k0 s = some (r, sF)) : V X (cX1_bitOf, RX1, 4, 0, 0, false) (vRet sF (some (.int r)) (some .int)) sF s (G0 X 10 ls [.int k0]) := by
  unfold J_X1_bitOf_10 at h
  refine v_istore_n [(2, .int k0), (0, .int l0), (1, .int l1)] dX1_bitOf_10 rfl hl (by decide) rfl (fun ls hl => ?_)
  refine v_iload_n dX1_bitOf_11 rfl (lv_at hl 1 rfl) ?_
  refine v_iload_n dX1_bitOf_12 rfl (lv_at hl 2 rfl) ?_
  refine v_icmp_ge 20 dX1_bitOf_13 (by decide) h (fun h => ?_) (fun h => ?_)
  · refine v_iload_n dX1_bitOf_20 rfl (lv_at hl 1 rfl) ?_
    exact L_X1_bitOf_21 N k0 l0 s ls (lv_sub hl [0] rfl) h
  · refine v_iload_n dX1_bitOf_16 rfl (lv_at hl 2 rfl) ?_
    refine v_goto 21 dX1_bitOf_17 (by decide) ?_
    exact L_X1_bitOf_21 N k0 l1 s ls (lv_sub hl [0] rfl) h
theorem vl_X1_bitOf : vCl yX1_bitOf cX1_bitOf 4 (some .int) 2 := ⟨qy_X1_bitOf, qjX1, by decide +kernel, by decide +kernel, by decide +kernel⟩
set_option maxHeartbeats 4000000 in
set_option maxRecDepth 100000 in
theorem c_X1_bitOf {l : Launch} {D : va_G} {ka : Nat → ClassId} (X0 : VX) (N : Nat) (l0 : Int32) (l1 : Int32) (s sF : vS) (r : Int32) (h : F_X1_bitOf N l0 l1 s = some (r, sF)) : vMet l D ka (xb X0) yX1_bitOf cX1_bitOf 4 (some .int) 0 0 [.int l0, .int l1] s sF (some (.int r)) := by
  unfold F_X1_bitOf at h
  refine vMet.of (ini := false) X0 (plainFor_of_name (by decide +kernel)) (Nat.le_of_ble_eq_true rfl) (fun h => by cases h) (fun X ls hb hl => ?_) rfl
  show V X (cX1_bitOf, RX1, 4, 0, 0, false) (vRet sF (some (.int r)) (some .int)) sF s (G0 X 0 ls [])
  have hl : lv_has ls 4 [(0, .int l0), (1, .int l1)] := hl
  refine v_iload_n dX1_bitOf_0 rfl (lv_at hl 0 rfl) ?_
  refine v_iload_n dX1_bitOf_1 rfl (lv_at hl 1 rfl) ?_
  refine v_icmp_ge 9 dX1_bitOf_2 (by decide) h (fun h => ?_) (fun h => ?_)
  · refine v_iload_n dX1_bitOf_9 rfl (lv_at hl 1 rfl) ?_
    exact L_X1_bitOf_10 N l0 l1 l1 s ls (lv_sub hl [0, 1] rfl) h
  · refine v_iload_n dX1_bitOf_5 rfl (lv_at hl 0 rfl) ?_
    refine v_goto 10 dX1_bitOf_6 (by decide) ?_
    exact L_X1_bitOf_10 N l0 l1 l0 s ls (lv_sub hl [0, 1] rfl) h
theorem k_X1_bitOf {X : VX} {cc : ByteArray} {own : String} {nL fr lo : Nat} {ini : Bool} {E : VX → Prop} {sF s : vS} {ρ : Type} {res : ρ} {pc : Nat} {ls : Array Slot} {rest : List Value} {N index : Nat} {l0 : Int32} {l1 : Int32} {f : Int32 → vS → Option ρ} (h : bnd (F_X1_bitOf N l0 l1 s) f = some res) (hlink : Cond.methodLink own index yX1_bitOf ∈ TT) (hR : 0 + 1 ≤ fr ∧ 8 + (4 + 11) + 0 ≤ lo) (hls : ls.size = nL) (hr : (rest.map fun v => v.category).sum ≤ 8) (hdg : decode cc pc = .ok (.invokestatic index, 3)) (kk : ∀ r s', f r s' = some res → V X (cc, own, nL, fr, lo, ini) E sF s' (G0 X (pc + 3) ls (.int r :: rest))) : V X (cc, own, nL, fr, lo, ini) E sF s (G0 X pc ls (.int l1 :: .int l0 :: rest)) := by
  obtain ⟨r, s', e, h⟩ := bnd_some h
  exact v_callS (As := [.int l0, .int l1]) (rest := rest) (c_X1_bitOf X N l0 l1 s s' r e) vl_X1_bitOf qs_X1_bitOf hlink hR rfl rfl hls hr hdg (kk r s' h)
set_option maxHeartbeats 4000000 in
set_option maxRecDepth 100000 in
theorem L_X3_codeOn_129 {X : VX} {sF : vS} {r : Int32} (N : Nat) (k76 : Nat → Int32 → Int32 → Int32 → vS → Option (Int32 × vS)) (k85 : Nat → Int32 → Int32 → Int32 → Int32 → vS → Option (Int32 × vS)) (hk76 : ∀ (a0 : Nat) (l3 : Int32) (l4 : Int32) (l5 : Int32) (s : vS) (ls : Array Slot), lv_has ls 7 [(0, .ref (xb X + a0)), (3, .int l3), (4, .int l4), (5, .int l5)] → k76 a0 l3 l4 l5 s = some (r, sF) → V X (cX3_codeOn, RX3, 7, 1, 23, false) (vRet sF (some (.int r)) (some .int)) sF s (G0 X 76 ls [])) (hk85 : ∀ (a0 : Nat) (l3 : Int32) (l4 : Int32) (l5 : Int32) (l6 : Int32) (s : vS) (ls : Array Slot), lv_has ls 7 [(0, .ref (xb X + a0)), (3, .int l3), (4, .int l4), (5, .int l5), (6, .int l6)] → k85 a0 l3 l4 l5 l6 s = some (r, sF) → V X (cX3_codeOn, RX3, 7, 1, 23, false) (vRet sF (some (.int r)) (some .int)) sF s (G0 X 85 ls [])) (a0 : Nat) (l3 : Int32) (l4 : Int32) (l5 : Int32) (l6 : Int32) (s : vS) (ls : Array Slot) (hl : lv_has ls 7 [(0, .ref (xb X + a0)), (3, .int l3), (4, .int l4), (5, .int l5), (6, .int l6)]) (h : J_X3_codeOn_129 N k76 k85 a0 l3 l4 l5 l6 s = some (r, sF)) : V X (cX3_codeOn, RX3, 7, 1, 23, false) (vRet sF (some (.int r)) (some .int)) sF s (G0 X 129 ls []) := by
  unfold J_X3_codeOn_129 at h
  refine v_inc (fun z => [(6, .int z), (0, .ref (xb X + a0)), (3, .int l3), (4, .int l4), (5, .int l5)]) dX3_codeOn_129 h hl (k := 4) rfl (by rfl) (by decide) (fun _ => rfl) (fun l6_17 ls hl h => ?_)
  refine v_goto 85 dX3_codeOn_132 (by decide) ?_
  exact hk85 a0 l3 l4 l5 l6_17 s ls (lv_sub hl [1, 2, 3, 4, 0] rfl) h
set_option maxHeartbeats 4000000 in
set_option maxRecDepth 100000 in
theorem L_X3_codeOn_85 {X : VX} {sF : vS} {r : Int32} (N : Nat) (k76 : Nat → Int32 → Int32 → Int32 → vS → Option (Int32 × vS)) (hk76 : ∀ (a0 : Nat) (l3 : Int32) (l4 : Int32) (l5 : Int32) (s : vS) (ls : Array Slot), lv_has ls 7 [(0, .ref (xb X + a0)), (3, .int l3), (4, .int l4), (5, .int l5)] → k76 a0 l3 l4 l5 s = some (r, sF) → V X (cX3_codeOn, RX3, 7, 1, 23, false) (vRet sF (some (.int r)) (some .int)) sF s (G0 X 76 ls [])) : ∀ (n : Nat) (a0 : Nat) (l3 : Int32) (l4 : Int32) (l5 : Int32) (l6 : Int32) (s : vS) (ls : Array Slot), lv_has ls 7 [(0, .ref (xb X + a0)), (3, .int l3), (4, .int l4), (5, .int l5), (6, .int l6)] → H_X3_codeOn_85 N k76 n a0 l3 l4 l5 l6 s = some (r, sF) → V X (cX3_codeOn, RX3, 7, 1, 23, false) (vRet sF (some (.int r)) (some .int)) sF s (G0 X 85 ls []) := by
  intro n
  induction n with
  | zero => intro a0 l3 l4 l5 l6 s ls hl h; cases h
  | succ n ih =>
   intro a0 l3 l4 l5 l6 s ls hl h
   unfold H_X3_codeOn_85 at h
   refine v_iload dX3_codeOn_85 (lv_at hl 4 rfl) ?_
   refine v_iload dX3_codeOn_87 (lv_at hl 3 rfl) ?_
   refine v_icmp_ge 135 dX3_codeOn_89 (by decide) h (fun h => ?_) (fun h => ?_)
   · refine v_inc (fun z => [(5, .int z), (0, .ref (xb X + a0)), (3, .int l3), (4, .int l4), (6, .int l6)]) dX3_codeOn_135 h hl (k := 3) rfl (by rfl) (by decide) (fun _ => rfl) (fun l5_8 ls hl h => ?_)
     refine v_goto 76 dX3_codeOn_138 (by decide) ?_
     exact hk76 a0 l3 l4 l5_8 s ls (lv_sub hl [1, 2, 3, 0] rfl) h
   · refine v_aload_n dX3_codeOn_92 rfl (lv_at hl 0 rfl) ?_
     refine v_getR 3 1 h (by decide) rfl qfX3_15 dX3_codeOn_93 (fun r9 h => ?_)
     refine v_aload_n dX3_codeOn_96 rfl (lv_at hl 0 rfl) ?_
     refine v_getR 3 2 h (by decide) rfl qfX3_19 dX3_codeOn_97 (fun r10 h => ?_)
     refine v_iload dX3_codeOn_100 (lv_at hl 3 rfl) ?_
     refine v_iald dX3_codeOn_102 h (fun v11 h => ?_)
     refine v_iald dX3_codeOn_103 h (fun v12 h => ?_)
     refine v_aload_n dX3_codeOn_104 rfl (lv_at hl 0 rfl) ?_
     refine v_getR 3 2 h (by decide) rfl qfX3_19 dX3_codeOn_105 (fun r13 h => ?_)
     refine v_iload dX3_codeOn_108 (lv_at hl 4 rfl) ?_
     refine v_iald dX3_codeOn_110 h (fun v14 h => ?_)
     refine v_ishr dX3_codeOn_111 ?_
     refine v_iconst (1 : Int32) dX3_codeOn_112 (by decide) ?_
     refine v_iand dX3_codeOn_113 ?_
     refine v_if_eq 129 dX3_codeOn_114 (by decide) h (fun h => ?_) (fun h => ?_)
     · exact L_X3_codeOn_129 N k76 (H_X3_codeOn_85 N k76 n) hk76 ih a0 l3 l4 l5 l6 s ls (lv_sub hl [0, 1, 2, 3, 4] rfl) h
     · refine v_iload dX3_codeOn_117 (lv_at hl 2 rfl) ?_
       refine v_iload dX3_codeOn_119 (lv_at hl 4 rfl) ?_
       refine v_iload dX3_codeOn_121 (lv_at hl 3 rfl) ?_
       refine k_X1_bitOf h qmX3_35 (by decide) hl.1 (Nat.le_of_ble_eq_true rfl) dX3_codeOn_123 (fun v15 s h => ?_)
       refine v_ior dX3_codeOn_126 ?_
       refine v_nmI h (fun l4_16 h => ?_)
       refine v_istore [(4, .int l4_16), (0, .ref (xb X + a0)), (3, .int l3), (5, .int l5), (6, .int l6)] dX3_codeOn_127 hl (by decide) rfl (fun ls hl => ?_)
       exact L_X3_codeOn_129 N k76 (H_X3_codeOn_85 N k76 n) hk76 ih a0 l3 l4_16 l5 l6 s ls (lv_sub hl [1, 2, 0, 3, 4] rfl) h
set_option maxHeartbeats 4000000 in
set_option maxRecDepth 100000 in
theorem L_X3_codeOn_76 {X : VX} {sF : vS} {r : Int32} (N : Nat) : ∀ (n : Nat) (a0 : Nat) (l3 : Int32) (l4 : Int32) (l5 : Int32) (s : vS) (ls : Array Slot), lv_has ls 7 [(0, .ref (xb X + a0)), (3, .int l3), (4, .int l4), (5, .int l5)] → H_X3_codeOn_76 N n a0 l3 l4 l5 s = some (r, sF) → V X (cX3_codeOn, RX3, 7, 1, 23, false) (vRet sF (some (.int r)) (some .int)) sF s (G0 X 76 ls []) := by
  intro n
  induction n with
  | zero => intro a0 l3 l4 l5 s ls hl h; cases h
  | succ n ih =>
   intro a0 l3 l4 l5 s ls hl h
   unfold H_X3_codeOn_76 at h
   refine v_iload dX3_codeOn_76 (lv_at hl 3 rfl) ?_
   refine v_iload_n dX3_codeOn_78 rfl (lv_at hl 1 rfl) ?_
   refine v_icmp_ge 141 dX3_codeOn_79 (by decide) h (fun h => ?_) (fun h => ?_)
   · refine v_iload dX3_codeOn_141 (lv_at hl 2 rfl) ?_
     exact v_iret dX3_codeOn_143 h
   · refine v_iconst (0 : Int32) dX3_codeOn_82 (by decide) ?_
     refine v_istore [(6, .int (0 : Int32)), (0, .ref (xb X + a0)), (3, .int l3), (4, .int l4), (5, .int l5)] dX3_codeOn_83 hl (by decide) rfl (fun ls hl => ?_)
     exact L_X3_codeOn_85 N (H_X3_codeOn_76 N n) ih N a0 l3 l4 l5 (0 : Int32) s ls (lv_sub hl [1, 2, 3, 4, 0] rfl) h
set_option maxHeartbeats 4000000 in
set_option maxRecDepth 100000 in
theorem L_X3_codeOn_64 {X : VX} {sF : vS} {r : Int32} (N : Nat) (k23 : Nat → Int32 → Int32 → Int32 → Int32 → vS → Option (Int32 × vS)) (hk23 : ∀ (a0 : Nat) (l1 : Int32) (l2 : Int32) (l3 : Int32) (l4 : Int32) (s : vS) (ls : Array Slot), lv_has ls 7 [(0, .ref (xb X + a0)), (1, .int l1), (2, .int l2), (3, .int l3), (4, .int l4)] → k23 a0 l1 l2 l3 l4 s = some (r, sF) → V X (cX3_codeOn, RX3, 7, 1, 23, false) (vRet sF (some (.int r)) (some .int)) sF s (G0 X 23 ls [])) (a0 : Nat) (l1 : Int32) (l2 : Int32) (l3 : Int32) (l4 : Int32) (s : vS) (ls : Array Slot) (hl : lv_has ls 7 [(0, .ref (xb X + a0)), (1, .int l1), (2, .int l2), (3, .int l3), (4, .int l4)]) (h : J_X3_codeOn_64 N k23 a0 l1 l2 l3 l4 s = some (r, sF)) : V X (cX3_codeOn, RX3, 7, 1, 23, false) (vRet sF (some (.int r)) (some .int)) sF s (G0 X 64 ls []) := by
  unfold J_X3_codeOn_64 at h
  refine v_inc (fun z => [(4, .int z), (0, .ref (xb X + a0)), (1, .int l1), (2, .int l2), (3, .int l3)]) dX3_codeOn_64 h hl (k := 4) rfl (by rfl) (by decide) (fun _ => rfl) (fun l4_7 ls hl h => ?_)
  refine v_goto 23 dX3_codeOn_67 (by decide) ?_
  exact hk23 a0 l1 l2 l3 l4_7 s ls (lv_sub hl [1, 2, 3, 4, 0] rfl) h
set_option maxHeartbeats 4000000 in
set_option maxRecDepth 100000 in
theorem L_X3_codeOn_23 {X : VX} {sF : vS} {r : Int32} (N : Nat) : ∀ (n : Nat) (a0 : Nat) (l1 : Int32) (l2 : Int32) (l3 : Int32) (l4 : Int32) (s : vS) (ls : Array Slot), lv_has ls 7 [(0, .ref (xb X + a0)), (1, .int l1), (2, .int l2), (3, .int l3), (4, .int l4)] → H_X3_codeOn_23 N n a0 l1 l2 l3 l4 s = some (r, sF) → V X (cX3_codeOn, RX3, 7, 1, 23, false) (vRet sF (some (.int r)) (some .int)) sF s (G0 X 23 ls []) := by
  intro n
  induction n with
  | zero => intro a0 l1 l2 l3 l4 s ls hl h; cases h
  | succ n ih =>
   intro a0 l1 l2 l3 l4 s ls hl h
   unfold H_X3_codeOn_23 at h
   refine v_iload dX3_codeOn_23 (lv_at hl 4 rfl) ?_
   refine v_aload_n dX3_codeOn_25 rfl (lv_at hl 0 rfl) ?_
   refine v_getI 3 0 h (by decide) (Or.inl rfl) qfX3_9 dX3_codeOn_26 (fun v4 h => ?_)
   refine v_icmp_ge 70 dX3_codeOn_29 (by decide) h (fun h => ?_) (fun h => ?_)
   · refine v_iconst (0 : Int32) dX3_codeOn_70 (by decide) ?_
     refine v_istore [(4, .int (0 : Int32)), (0, .ref (xb X + a0)), (1, .int l1), (2, .int l2), (3, .int l3)] dX3_codeOn_71 hl (by decide) rfl (fun ls hl => ?_)
     refine v_iconst (1 : Int32) dX3_codeOn_73 (by decide) ?_
     refine v_istore [(5, .int (1 : Int32)), (4, .int (0 : Int32)), (0, .ref (xb X + a0)), (1, .int l1), (2, .int l2), (3, .int l3)] dX3_codeOn_74 hl (by decide) rfl (fun ls hl => ?_)
     exact L_X3_codeOn_76 N N a0 l3 (0 : Int32) (1 : Int32) s ls (lv_sub hl [2, 5, 1, 0] rfl) h
   · refine v_iload dX3_codeOn_32 (lv_at hl 4 rfl) ?_
     refine v_iload_n dX3_codeOn_34 rfl (lv_at hl 2 rfl) ?_
     refine v_icmp_eq 64 dX3_codeOn_35 (by decide) h (fun h => ?_) (fun h => ?_)
     · exact L_X3_codeOn_64 N (H_X3_codeOn_23 N n) ih a0 l1 l2 l3 l4 s ls (lv_sub hl [0, 1, 2, 3, 4] rfl) h
     · refine v_iload_n dX3_codeOn_38 rfl (lv_at hl 1 rfl) ?_
       refine v_iload dX3_codeOn_39 (lv_at hl 4 rfl) ?_
       refine v_ishr dX3_codeOn_41 ?_
       refine v_iconst (1 : Int32) dX3_codeOn_42 (by decide) ?_
       refine v_iand dX3_codeOn_43 ?_
       refine v_if_eq 64 dX3_codeOn_44 (by decide) h (fun h => ?_) (fun h => ?_)
       · exact L_X3_codeOn_64 N (H_X3_codeOn_23 N n) ih a0 l1 l2 l3 l4 s ls (lv_sub hl [0, 1, 2, 3, 4] rfl) h
       · refine v_iload_n dX3_codeOn_47 rfl (lv_at hl 3 rfl) ?_
         refine v_bipush (8 : Int32) dX3_codeOn_48 (by decide) ?_
         refine v_icmp_ge 64 dX3_codeOn_50 (by decide) h (fun h => ?_) (fun h => ?_)
         · exact L_X3_codeOn_64 N (H_X3_codeOn_23 N n) ih a0 l1 l2 l3 l4 s ls (lv_sub hl [0, 1, 2, 3, 4] rfl) h
         · refine v_aload_n dX3_codeOn_53 rfl (lv_at hl 0 rfl) ?_
           refine v_getR 3 2 h (by decide) rfl qfX3_19 dX3_codeOn_54 (fun r5 h => ?_)
           refine v_iload_n dX3_codeOn_57 rfl (lv_at hl 3 rfl) ?_
           refine v_iload dX3_codeOn_58 (lv_at hl 4 rfl) ?_
           refine v_iast dX3_codeOn_60 h (fun s h => ?_)
           refine v_inc (fun z => [(3, .int z), (0, .ref (xb X + a0)), (1, .int l1), (2, .int l2), (4, .int l4)]) dX3_codeOn_61 h hl (k := 3) rfl (by rfl) (by decide) (fun _ => rfl) (fun l3_6 ls hl h => ?_)
           exact L_X3_codeOn_64 N (H_X3_codeOn_23 N n) ih a0 l1 l2 l3_6 l4 s ls (lv_sub hl [1, 2, 3, 0, 4] rfl) h
set_option maxHeartbeats 4000000 in
set_option maxRecDepth 100000 in
theorem L_X3_codeOn_20 {X : VX} {sF : vS} {r : Int32} (N : Nat) (a0 : Nat) (l1 : Int32) (l2 : Int32) (l3 : Int32) (s : vS) (ls : Array Slot) (hl : lv_has ls 7 [(0, .ref (xb X + a0)), (1, .int l1), (2, .int l2), (3, .int l3)]) (h : J_X3_codeOn_20 N a0 l1 l2 l3 s = some (r, sF)) : V X (cX3_codeOn, RX3, 7, 1, 23, false) (vRet sF (some (.int r)) (some .int)) sF s (G0 X 20 ls []) := by
  unfold J_X3_codeOn_20 at h
  refine v_iconst (0 : Int32) dX3_codeOn_20 (by decide) ?_
  refine v_istore [(4, .int (0 : Int32)), (0, .ref (xb X + a0)), (1, .int l1), (2, .int l2), (3, .int l3)] dX3_codeOn_21 hl (by decide) rfl (fun ls hl => ?_)
  exact L_X3_codeOn_23 N N a0 l1 l2 l3 (0 : Int32) s ls (lv_sub hl [1, 2, 3, 4, 0] rfl) h
theorem vl_X3_codeOn : vCl yX3_codeOn cX3_codeOn 7 (some .int) 2 := ⟨qy_X3_codeOn, qjX3, by decide +kernel, by decide +kernel, by decide +kernel⟩
set_option maxHeartbeats 4000000 in
set_option maxRecDepth 100000 in
theorem c_X3_codeOn {l : Launch} {D : va_G} {ka : Nat → ClassId} (X0 : VX) (N : Nat) (a0 : Nat) (l1 : Int32) (l2 : Int32) (s sF : vS) (r : Int32) (h : F_X3_codeOn N a0 l1 l2 s = some (r, sF)) : isO s a0 3 = true ∧ vMet l D ka (xb X0) yX3_codeOn cX3_codeOn 7 (some .int) 1 23 [.ref (xb X0 + a0), .int l1, .int l2] s sF (some (.int r)) := by
  unfold F_X3_codeOn at h
  unfold rcv at h
  obtain ⟨hO, h⟩ := v_chk h
  refine ⟨hO, vMet.of (ini := false) X0 (plainFor_of_name (by decide +kernel)) (Nat.le_of_ble_eq_true rfl) (fun h => by cases h) (fun X ls hb hl => ?_) rfl⟩
  show V X (cX3_codeOn, RX3, 7, 1, 23, false) (vRet sF (some (.int r)) (some .int)) sF s (G0 X 0 ls [])
  rw [← hb] at hl
  have hl : lv_has ls 7 [(0, .ref (xb X + a0)), (1, .int l1), (2, .int l2)] := hl
  refine v_iconst (0 : Int32) dX3_codeOn_0 (by decide) ?_
  refine v_istore_n [(3, .int (0 : Int32)), (0, .ref (xb X + a0)), (1, .int l1), (2, .int l2)] dX3_codeOn_1 rfl hl (by decide) rfl (fun ls hl => ?_)
  refine v_aload_n dX3_codeOn_2 rfl (lv_at hl 1 rfl) ?_
  refine v_iload_n dX3_codeOn_3 rfl (lv_at hl 3 rfl) ?_
  refine k_X3_has h qmX3_44 (by decide) hl.1 (Nat.le_of_ble_eq_true rfl) dX3_codeOn_4 (fun v1 s h => ?_)
  refine v_if_eq 20 dX3_codeOn_7 (by decide) h (fun h => ?_) (fun h => ?_)
  · exact L_X3_codeOn_20 N a0 l1 l2 (0 : Int32) s ls (lv_sub hl [1, 2, 3, 0] rfl) h
  · refine v_aload_n dX3_codeOn_10 rfl (lv_at hl 1 rfl) ?_
    refine v_getR 3 2 h (by decide) rfl qfX3_19 dX3_codeOn_11 (fun r2 h => ?_)
    refine v_iload_n dX3_codeOn_14 rfl (lv_at hl 0 rfl) ?_
    refine v_iload_n dX3_codeOn_15 rfl (lv_at hl 3 rfl) ?_
    refine v_iast dX3_codeOn_16 h (fun s h => ?_)
    refine v_inc (fun z => [(3, .int z), (0, .ref (xb X + a0)), (1, .int l1), (2, .int l2)]) dX3_codeOn_17 h hl (k := 0) rfl (by rfl) (by decide) (fun _ => rfl) (fun l3_3 ls hl h => ?_)
    exact L_X3_codeOn_20 N a0 l1 l2 l3_3 s ls (lv_sub hl [1, 2, 3, 0] rfl) h
theorem k_X3_codeOn {X : VX} {cc : ByteArray} {own : String} {nL fr lo : Nat} {ini : Bool} {E : VX → Prop} {sF s : vS} {ρ : Type} {res : ρ} {pc : Nat} {ls : Array Slot} {rest : List Value} {N index : Nat} {a0 : Nat} {l1 : Int32} {l2 : Int32} {f : Int32 → vS → Option ρ} (h : bnd (F_X3_codeOn N a0 l1 l2 s) f = some res) (hlink : Cond.methodLink own index yX3_codeOn ∈ TT) (hR : 1 + 1 ≤ fr ∧ 8 + (7 + 11) + 23 ≤ lo) (hls : ls.size = nL) (hr : (rest.map fun v => v.category).sum ≤ 8) (hdg : decode cc pc = .ok (.invokevirtual index, 3)) (kk : ∀ r s', f r s' = some res → V X (cc, own, nL, fr, lo, ini) E sF s' (G0 X (pc + 3) ls (.int r :: rest))) : V X (cc, own, nL, fr, lo, ini) E sF s (G0 X pc ls (.int l2 :: .int l1 :: .ref (xb X + a0) :: rest)) := by
  obtain ⟨r, s', e, h⟩ := bnd_some h
  exact v_callV (b := a0) (ci := 3) (As := [.int l1, .int l2]) (rest := rest) (c_X3_codeOn X N a0 l1 l2 s s' r e).2 (c_X3_codeOn (l := xl X) (D := xD X) (ka := xka X) X N a0 l1 l2 s s' r e).1 rfl vl_X3_codeOn qi_X3_codeOn qe_X3_codeOn hlink hR rfl rfl hls hr hdg (kk r s' h)
set_option maxHeartbeats 4000000 in
set_option maxRecDepth 100000 in
theorem L_X1_numberOn_40 {X : VX} {sF : vS} {r : Int32} (N : Nat) (a0 : Nat) (a1 : Nat) (l2 : Int32) (l3 : Int32) (l4 : Int32) (s : vS) (ls : Array Slot) (hl : lv_has ls 5 [(0, .ref (xb X + a0)), (1, .ref (xb X + a1)), (2, .int l2), (3, .int l3), (4, .int l4)]) (h : J_X1_numberOn_40 N a0 a1 l2 l3 l4 s = some (r, sF)) : V X (cX1_numberOn, RX1, 5, 2, 49, false) (vRet sF (some (.int r)) (some .int)) sF s (G0 X 40 ls []) := by
  unfold J_X1_numberOn_40 at h
  refine v_aload_n dX1_numberOn_40 rfl (lv_at hl 0 rfl) ?_
  refine v_getR 1 7 h (by decide) rfl qfX1_17 dX1_numberOn_41 (fun r5 h => ?_)
  refine v_iload dX1_numberOn_44 (lv_at hl 4 rfl) ?_
  refine v_aald 6 dX1_numberOn_46 h (fun r6 h => ?_)
  refine v_aload_n dX1_numberOn_47 rfl (lv_at hl 1 rfl) ?_
  refine v_iload_n dX1_numberOn_48 rfl (lv_at hl 2 rfl) ?_
  refine v_iload_n dX1_numberOn_49 rfl (lv_at hl 3 rfl) ?_
  refine k_X3_codeOn h qmX1_113 (by decide) hl.1 (Nat.le_of_ble_eq_true rfl) dX1_numberOn_50 (fun v7 s h => ?_)
  refine v_iald dX1_numberOn_53 h (fun v8 h => ?_)
  exact v_iret dX1_numberOn_54 h
set_option maxHeartbeats 4000000 in
set_option maxRecDepth 100000 in
theorem L_X1_numberOn_38 {X : VX} {sF : vS} {r : Int32} (N : Nat) (s : vS) (ls : Array Slot) (hl : lv_has ls 5 []) (h : J_X1_numberOn_38 N  s = some (r, sF)) : V X (cX1_numberOn, RX1, 5, 2, 49, false) (vRet sF (some (.int r)) (some .int)) sF s (G0 X 38 ls []) := by
  unfold J_X1_numberOn_38 at h
  refine v_iconst (-1 : Int32) dX1_numberOn_38 (by decide) ?_
  exact v_iret dX1_numberOn_39 h
theorem vl_X1_numberOn : vCl yX1_numberOn cX1_numberOn 5 (some .int) 3 := ⟨qy_X1_numberOn, qjX1, by decide +kernel, by decide +kernel, by decide +kernel⟩
set_option maxHeartbeats 4000000 in
set_option maxRecDepth 100000 in
theorem c_X1_numberOn {l : Launch} {D : va_G} {ka : Nat → ClassId} (X0 : VX) (N : Nat) (a0 : Nat) (a1 : Nat) (l2 : Int32) (l3 : Int32) (s sF : vS) (r : Int32) (h : F_X1_numberOn N a0 a1 l2 l3 s = some (r, sF)) : isO s a0 1 = true ∧ vMet l D ka (xb X0) yX1_numberOn cX1_numberOn 5 (some .int) 2 49 [.ref (xb X0 + a0), .ref (xb X0 + a1), .int l2, .int l3] s sF (some (.int r)) := by
  unfold F_X1_numberOn at h
  unfold rcv at h
  obtain ⟨hO, h⟩ := v_chk h
  refine ⟨hO, vMet.of (ini := false) X0 (plainFor_of_name (by decide +kernel)) (Nat.le_of_ble_eq_true rfl) (fun h => by cases h) (fun X ls hb hl => ?_) rfl⟩
  show V X (cX1_numberOn, RX1, 5, 2, 49, false) (vRet sF (some (.int r)) (some .int)) sF s (G0 X 0 ls [])
  rw [← hb] at hl
  have hl : lv_has ls 5 [(0, .ref (xb X + a0)), (1, .ref (xb X + a1)), (2, .int l2), (3, .int l3)] := hl
  refine v_iload_n dX1_numberOn_0 rfl (lv_at hl 2 rfl) ?_
  refine k_J6_bitCount_0f7a4 h qmX1_105 (by decide) hl.1 (Nat.le_of_ble_eq_true rfl) dX1_numberOn_1 (fun v1 s h => ?_)
  refine v_istore [(4, .int v1), (0, .ref (xb X + a0)), (1, .ref (xb X + a1)), (2, .int l2), (3, .int l3)] dX1_numberOn_4 hl (by decide) rfl (fun ls hl => ?_)
  refine v_aload_n dX1_numberOn_6 rfl (lv_at hl 1 rfl) ?_
  refine v_iload dX1_numberOn_7 (lv_at hl 0 rfl) ?_
  refine k_X1_hasSize h qmX1_74 (by decide) hl.1 (Nat.le_of_ble_eq_true rfl) dX1_numberOn_9 (fun v2 s h => ?_)
  refine v_if_eq 38 dX1_numberOn_12 (by decide) h (fun h => ?_) (fun h => ?_)
  · exact L_X1_numberOn_38 N  s ls (lv_sub hl [] rfl) h
  · refine v_aload_n dX1_numberOn_15 rfl (lv_at hl 1 rfl) ?_
    refine v_getI 1 0 h (by decide) (Or.inr rfl) qfX1_31 dX1_numberOn_16 (fun v3 h => ?_)
    refine v_if_eq 40 dX1_numberOn_19 (by decide) h (fun h => ?_) (fun h => ?_)
    · exact L_X1_numberOn_40 N a0 a1 l2 l3 v1 s ls (lv_sub hl [1, 2, 3, 4, 0] rfl) h
    · refine v_aload_n dX1_numberOn_22 rfl (lv_at hl 2 rfl) ?_
      refine v_iload_n dX1_numberOn_23 rfl (lv_at hl 4 rfl) ?_
      refine k_X3_has h qmX1_110 (by decide) hl.1 (Nat.le_of_ble_eq_true rfl) dX1_numberOn_24 (fun v4 s h => ?_)
      refine v_if_eq 38 dX1_numberOn_27 (by decide) h (fun h => ?_) (fun h => ?_)
      · exact L_X1_numberOn_38 N  s ls (lv_sub hl [] rfl) h
      · refine v_iload_n dX1_numberOn_30 rfl (lv_at hl 3 rfl) ?_
        refine v_iload_n dX1_numberOn_31 rfl (lv_at hl 4 rfl) ?_
        refine v_ishr dX1_numberOn_32 ?_
        refine v_iconst (1 : Int32) dX1_numberOn_33 (by decide) ?_
        refine v_iand dX1_numberOn_34 ?_
        refine v_if_ne 40 dX1_numberOn_35 (by decide) h (fun h => ?_) (fun h => ?_)
        · exact L_X1_numberOn_40 N a0 a1 l2 l3 v1 s ls (lv_sub hl [1, 2, 3, 4, 0] rfl) h
        · exact L_X1_numberOn_38 N  s ls (lv_sub hl [] rfl) h
theorem k_X1_numberOn {X : VX} {cc : ByteArray} {own : String} {nL fr lo : Nat} {ini : Bool} {E : VX → Prop} {sF s : vS} {ρ : Type} {res : ρ} {pc : Nat} {ls : Array Slot} {rest : List Value} {N index : Nat} {a0 : Nat} {a1 : Nat} {l2 : Int32} {l3 : Int32} {f : Int32 → vS → Option ρ} (h : bnd (F_X1_numberOn N a0 a1 l2 l3 s) f = some res) (hlink : Cond.methodLink own index yX1_numberOn ∈ TT) (hR : 2 + 1 ≤ fr ∧ 8 + (5 + 11) + 49 ≤ lo) (hls : ls.size = nL) (hr : (rest.map fun v => v.category).sum ≤ 8) (hdg : decode cc pc = .ok (.invokevirtual index, 3)) (kk : ∀ r s', f r s' = some res → V X (cc, own, nL, fr, lo, ini) E sF s' (G0 X (pc + 3) ls (.int r :: rest))) : V X (cc, own, nL, fr, lo, ini) E sF s (G0 X pc ls (.int l3 :: .int l2 :: .ref (xb X + a1) :: .ref (xb X + a0) :: rest)) := by
  obtain ⟨r, s', e, h⟩ := bnd_some h
  exact v_callV (b := a0) (ci := 1) (As := [.ref (xb X + a1), .int l2, .int l3]) (rest := rest) (c_X1_numberOn X N a0 a1 l2 l3 s s' r e).2 (c_X1_numberOn (l := xl X) (D := xD X) (ka := xka X) X N a0 a1 l2 l3 s s' r e).1 rfl vl_X1_numberOn qi_X1_numberOn qe_X1_numberOn hlink hR rfl rfl hls hr hdg (kk r s' h)
set_option maxHeartbeats 4000000 in
set_option maxRecDepth 100000 in
theorem L_X0_init_174 {X : VX} {sF : vS} {r : Unit} (N : Nat) (k97 : Nat → Nat → Nat → Int32 → vS → Option (Unit × vS)) (k140 : Nat → Nat → Nat → Int32 → Nat → Int32 → Int32 → vS → Option (Unit × vS)) (hk97 : ∀ (a0 : Nat) (a1 : Nat) (a2 : Nat) (l3 : Int32) (s : vS) (ls : Array Slot), lv_has ls 7 [(0, .ref (xb X + a0)), (1, .ref (xb X + a1)), (2, .ref (xb X + a2)), (3, .int l3)] → k97 a0 a1 a2 l3 s = some (r, sF) → V X (cX0_init, RX0, 7, 3, 73, true) (vRet sF none none) sF s (G0 X 97 ls [])) (hk140 : ∀ (a0 : Nat) (a1 : Nat) (a2 : Nat) (l3 : Int32) (a4 : Nat) (l5 : Int32) (l6 : Int32) (s : vS) (ls : Array Slot), lv_has ls 7 [(0, .ref (xb X + a0)), (1, .ref (xb X + a1)), (2, .ref (xb X + a2)), (3, .int l3), (4, .ref (xb X + a4)), (5, .int l5), (6, .int l6)] → k140 a0 a1 a2 l3 a4 l5 l6 s = some (r, sF) → V X (cX0_init, RX0, 7, 3, 73, true) (vRet sF none none) sF s (G0 X 140 ls [])) (a0 : Nat) (a1 : Nat) (a2 : Nat) (l3 : Int32) (a4 : Nat) (l5 : Int32) (l6 : Int32) (s : vS) (ls : Array Slot) (hl : lv_has ls 7 [(0, .ref (xb X + a0)), (1, .ref (xb X + a1)), (2, .ref (xb X + a2)), (3, .int l3), (4, .ref (xb X + a4)), (5, .int l5), (6, .int l6)]) (h : J_X0_init_174 N k97 k140 a0 a1 a2 l3 a4 l5 l6 s = some (r, sF)) : V X (cX0_init, RX0, 7, 3, 73, true) (vRet sF none none) sF s (G0 X 174 ls []) := by
  unfold J_X0_init_174 at h
  refine v_inc (fun z => [(6, .int z), (0, .ref (xb X + a0)), (1, .ref (xb X + a1)), (2, .ref (xb X + a2)), (3, .int l3), (4, .ref (xb X + a4)), (5, .int l5)]) dX0_init_174 h hl (k := 6) rfl (by rfl) (by decide) (fun _ => rfl) (fun l6_27 ls hl h => ?_)
  refine v_goto 140 dX0_init_177 (by decide) ?_
  exact hk140 a0 a1 a2 l3 a4 l5 l6_27 s ls (lv_sub hl [1, 2, 3, 4, 5, 6, 0] rfl) h
set_option maxHeartbeats 4000000 in
set_option maxRecDepth 100000 in
theorem L_X0_init_140 {X : VX} {sF : vS} {r : Unit} (N : Nat) (k97 : Nat → Nat → Nat → Int32 → vS → Option (Unit × vS)) (hk97 : ∀ (a0 : Nat) (a1 : Nat) (a2 : Nat) (l3 : Int32) (s : vS) (ls : Array Slot), lv_has ls 7 [(0, .ref (xb X + a0)), (1, .ref (xb X + a1)), (2, .ref (xb X + a2)), (3, .int l3)] → k97 a0 a1 a2 l3 s = some (r, sF) → V X (cX0_init, RX0, 7, 3, 73, true) (vRet sF none none) sF s (G0 X 97 ls [])) : ∀ (n : Nat) (a0 : Nat) (a1 : Nat) (a2 : Nat) (l3 : Int32) (a4 : Nat) (l5 : Int32) (l6 : Int32) (s : vS) (ls : Array Slot), lv_has ls 7 [(0, .ref (xb X + a0)), (1, .ref (xb X + a1)), (2, .ref (xb X + a2)), (3, .int l3), (4, .ref (xb X + a4)), (5, .int l5), (6, .int l6)] → H_X0_init_140 N k97 n a0 a1 a2 l3 a4 l5 l6 s = some (r, sF) → V X (cX0_init, RX0, 7, 3, 73, true) (vRet sF none none) sF s (G0 X 140 ls []) := by
  intro n
  induction n with
  | zero => intro a0 a1 a2 l3 a4 l5 l6 s ls hl h; cases h
  | succ n ih =>
   intro a0 a1 a2 l3 a4 l5 l6 s ls hl h
   unfold H_X0_init_140 at h
   refine v_iload dX0_init_140 (lv_at hl 6 rfl) ?_
   refine v_aload dX0_init_142 (lv_at hl 4 rfl) ?_
   refine v_getI 3 0 h (by decide) (Or.inl rfl) qfX0_59 dX0_init_144 (fun v22 h => ?_)
   refine v_icmp_ge 180 dX0_init_147 (by decide) h (fun h => ?_) (fun h => ?_)
   · refine v_inc (fun z => [(3, .int z), (0, .ref (xb X + a0)), (1, .ref (xb X + a1)), (2, .ref (xb X + a2)), (4, .ref (xb X + a4)), (5, .int l5), (6, .int l6)]) dX0_init_180 h hl (k := 3) rfl (by rfl) (by decide) (fun _ => rfl) (fun l3_23 ls hl h => ?_)
     refine v_goto 97 dX0_init_183 (by decide) ?_
     exact hk97 a0 a1 a2 l3_23 s ls (lv_sub hl [1, 2, 3, 0] rfl) h
   · refine v_aload_n dX0_init_150 rfl (lv_at hl 2 rfl) ?_
     refine v_aload dX0_init_151 (lv_at hl 4 rfl) ?_
     refine v_iload dX0_init_153 (lv_at hl 5 rfl) ?_
     refine v_iload dX0_init_155 (lv_at hl 6 rfl) ?_
     refine k_X1_numberOn h qmX0_65 (by decide) hl.1 (Nat.le_of_ble_eq_true rfl) dX0_init_157 (fun v24 s h => ?_)
     refine v_iload_n dX0_init_160 rfl (lv_at hl 3 rfl) ?_
     refine v_icmp_ne 174 dX0_init_161 (by decide) h (fun h => ?_) (fun h => ?_)
     · exact L_X0_init_174 N k97 (H_X0_init_140 N k97 n) hk97 ih a0 a1 a2 l3 a4 l5 l6 s ls (lv_sub hl [0, 1, 2, 3, 4, 5, 6] rfl) h
     · refine v_aload_n dX0_init_164 rfl (lv_at hl 0 rfl) ?_
       refine v_getR 0 3 h (by decide) rfl qfX0_15 dX0_init_165 (fun r25 h => ?_)
       refine v_iload_n dX0_init_168 rfl (lv_at hl 3 rfl) ?_
       refine v_dup2 dX0_init_169 rfl rfl ?_
       refine v_iald dX0_init_170 h (fun v26 h => ?_)
       refine v_iconst (1 : Int32) dX0_init_171 (by decide) ?_
       refine v_iadd dX0_init_172 ?_
       refine v_iast dX0_init_173 h (fun s h => ?_)
       exact L_X0_init_174 N k97 (H_X0_init_140 N k97 n) hk97 ih a0 a1 a2 l3 a4 l5 l6 s ls (lv_sub hl [0, 1, 2, 3, 4, 5, 6] rfl) h
set_option maxHeartbeats 4000000 in
set_option maxRecDepth 100000 in
theorem L_X0_init_97 {X : VX} {sF : vS} {r : Unit} (N : Nat) : ∀ (n : Nat) (a0 : Nat) (a1 : Nat) (a2 : Nat) (l3 : Int32) (s : vS) (ls : Array Slot), lv_has ls 7 [(0, .ref (xb X + a0)), (1, .ref (xb X + a1)), (2, .ref (xb X + a2)), (3, .int l3)] → H_X0_init_97 N n a0 a1 a2 l3 s = some (r, sF) → V X (cX0_init, RX0, 7, 3, 73, true) (vRet sF none none) sF s (G0 X 97 ls []) := by
  intro n
  induction n with
  | zero => intro a0 a1 a2 l3 s ls hl h; cases h
  | succ n ih =>
   intro a0 a1 a2 l3 s ls hl h
   unfold H_X0_init_97 at h
   refine v_iload_n dX0_init_97 rfl (lv_at hl 3 rfl) ?_
   refine v_bipush (29 : Int32) dX0_init_98 (by decide) ?_
   refine v_icmp_ge 186 dX0_init_100 (by decide) h (fun h => ?_) (fun h => ?_)
   · exact v_vret dX0_init_186 h
   · refine v_aload_n dX0_init_103 rfl (lv_at hl 2 rfl) ?_
     refine v_getR 1 5 h (by decide) rfl qfX0_53 dX0_init_104 (fun r16 h => ?_)
     refine v_iload_n dX0_init_107 rfl (lv_at hl 3 rfl) ?_
     refine v_aald 4 dX0_init_108 h (fun r17 h => ?_)
     refine v_astore [(4, .ref (xb X + r17)), (0, .ref (xb X + a0)), (1, .ref (xb X + a1)), (2, .ref (xb X + a2)), (3, .int l3)] dX0_init_109 hl (by decide) rfl (fun ls hl => ?_)
     refine v_iconst (1 : Int32) dX0_init_111 (by decide) ?_
     refine v_aload dX0_init_112 (lv_at hl 0 rfl) ?_
     refine v_getI 3 0 h (by decide) (Or.inl rfl) qfX0_59 dX0_init_114 (fun v18 h => ?_)
     refine v_ishl dX0_init_117 ?_
     refine v_iconst (1 : Int32) dX0_init_118 (by decide) ?_
     refine v_isub dX0_init_119 ?_
     refine v_nmI h (fun l5_19 h => ?_)
     refine v_istore [(5, .int l5_19), (4, .ref (xb X + r17)), (0, .ref (xb X + a0)), (1, .ref (xb X + a1)), (2, .ref (xb X + a2)), (3, .int l3)] dX0_init_120 hl (by decide) rfl (fun ls hl => ?_)
     refine v_aload_n dX0_init_122 rfl (lv_at hl 2 rfl) ?_
     refine v_getR 0 2 h (by decide) rfl qfX0_9 dX0_init_123 (fun r20 h => ?_)
     refine v_iload_n dX0_init_126 rfl (lv_at hl 5 rfl) ?_
     refine v_aload_n dX0_init_127 rfl (lv_at hl 3 rfl) ?_
     refine v_aload dX0_init_128 (lv_at hl 1 rfl) ?_
     refine v_iload dX0_init_130 (lv_at hl 0 rfl) ?_
     refine v_iconst (-1 : Int32) dX0_init_132 (by decide) ?_
     refine k_X1_numberOn h qmX0_65 (by decide) hl.1 (Nat.le_of_ble_eq_true rfl) dX0_init_133 (fun v21 s h => ?_)
     refine v_iast dX0_init_136 h (fun s h => ?_)
     refine v_iconst (0 : Int32) dX0_init_137 (by decide) ?_
     refine v_istore [(6, .int (0 : Int32)), (5, .int l5_19), (4, .ref (xb X + r17)), (0, .ref (xb X + a0)), (1, .ref (xb X + a1)), (2, .ref (xb X + a2)), (3, .int l3)] dX0_init_138 hl (by decide) rfl (fun ls hl => ?_)
     exact L_X0_init_140 N (H_X0_init_97 N n) ih N a0 a1 a2 l3 r17 l5_19 (0 : Int32) s ls (lv_sub hl [3, 4, 5, 6, 2, 1, 0] rfl) h
theorem vl_X0_init : vCl yX0_init cX0_init 7 none 2 := ⟨qy_X0_init, qjX0, by decide +kernel, by decide +kernel, by decide +kernel⟩
set_option maxHeartbeats 4000000 in
set_option maxRecDepth 100000 in
theorem c_X0_init {l : Launch} {D : va_G} {ka : Nat → ClassId} (X0 : VX) (N : Nat) (a0 : Nat) (a1 : Nat) (a2 : Nat) (s sF : vS) (r : Unit) (h : F_X0_init N a0 a1 a2 s = some (r, sF)) : isO s a0 0 = true ∧ vMet l D ka (xb X0) yX0_init cX0_init 7 none 3 73 [.ref (xb X0 + a0), .ref (xb X0 + a1), .ref (xb X0 + a2)] s sF none := by
  unfold F_X0_init at h
  unfold rcv at h
  obtain ⟨hO, h⟩ := v_chk h
  refine ⟨hO, vMet.of (ini := true) X0 (plainFor_of_name (by decide +kernel)) (Nat.le_of_ble_eq_true rfl) (fun _ => rfl) (fun X ls hb hl => ?_) rfl⟩
  show V X (cX0_init, RX0, 7, 3, 73, true) (vRet sF none none) sF s (G0 X 0 ls [])
  rw [← hb] at hl
  have hl : lv_has ls 7 [(0, .ref (xb X + a0)), (1, .ref (xb X + a1)), (2, .ref (xb X + a2))] := hl
  refine v_aload_n dX0_init_0 rfl (lv_at hl 0 rfl) ?_
  refine v_objI qmX0_3 qo_in qo_code hl.1 ⟨by decide, Nat.le_of_ble_eq_true rfl⟩ dX0_init_1 ?_
  refine v_aload_n dX0_init_4 rfl (lv_at hl 0 rfl) ?_
  refine v_bipush (29 : Int32) dX0_init_5 (by decide) ?_
  refine v_newa 1 h (by decide) qa_int dX0_init_7 (fun q1 s h => ?_)
  refine v_putR 0 2 h (by decide) rfl (Or.inr ⟨rfl, rfl, rfl⟩) qfX0_9 dX0_init_9 (fun s h => ?_)
  refine v_aload_n dX0_init_12 rfl (lv_at hl 0 rfl) ?_
  refine v_bipush (29 : Int32) dX0_init_13 (by decide) ?_
  refine v_newa 1 h (by decide) qa_int dX0_init_15 (fun q2 s h => ?_)
  refine v_putR 0 3 h (by decide) rfl (Or.inr ⟨rfl, rfl, rfl⟩) qfX0_15 dX0_init_17 (fun s h => ?_)
  refine v_aload_n dX0_init_20 rfl (lv_at hl 0 rfl) ?_
  refine v_new 6 h (by decide) qcX0_18 qnX6 qjX6 dX0_init_21 (fun q3 s h => ?_)
  refine v_dup dX0_init_24 rfl ?_
  refine k_X6_init h qmX0_20 (by decide) hl.1 (Nat.le_of_ble_eq_true rfl) dX0_init_25 (fun v4 s h => ?_)
  refine v_putR 0 4 h (by decide) rfl (Or.inr ⟨rfl, rfl, rfl⟩) qfX0_21 dX0_init_28 (fun s h => ?_)
  refine v_aload_n dX0_init_31 rfl (lv_at hl 0 rfl) ?_
  refine v_new 2 h (by decide) qcX0_25 qnX2 qjX2 dX0_init_32 (fun q5 s h => ?_)
  refine v_dup dX0_init_35 rfl ?_
  refine kn_X2_init_X0 h nstX0_27 (by decide) hl.1 (Nat.le_of_ble_eq_true rfl) dX0_init_36 (fun v6 s h => ?_)
  refine v_putR 0 5 h (by decide) rfl (Or.inr ⟨rfl, rfl, rfl⟩) qfX0_28 dX0_init_39 (fun s h => ?_)
  refine v_aload_n dX0_init_42 rfl (lv_at hl 0 rfl) ?_
  refine v_new 2 h (by decide) qcX0_25 qnX2 qjX2 dX0_init_43 (fun q7 s h => ?_)
  refine v_dup dX0_init_46 rfl ?_
  refine kn_X2_init_X0 h nstX0_27 (by decide) hl.1 (Nat.le_of_ble_eq_true rfl) dX0_init_47 (fun v8 s h => ?_)
  refine v_putR 0 6 h (by decide) rfl (Or.inr ⟨rfl, rfl, rfl⟩) qfX0_32 dX0_init_50 (fun s h => ?_)
  refine v_aload_n dX0_init_53 rfl (lv_at hl 0 rfl) ?_
  refine v_new 6 h (by decide) qcX0_18 qnX6 qjX6 dX0_init_54 (fun q9 s h => ?_)
  refine v_dup dX0_init_57 rfl ?_
  refine k_X6_init h qmX0_20 (by decide) hl.1 (Nat.le_of_ble_eq_true rfl) dX0_init_58 (fun v10 s h => ?_)
  refine v_putR 0 7 h (by decide) rfl (Or.inr ⟨rfl, rfl, rfl⟩) qfX0_35 dX0_init_61 (fun s h => ?_)
  refine v_aload_n dX0_init_64 rfl (lv_at hl 0 rfl) ?_
  refine v_aload_n dX0_init_65 rfl (lv_at hl 1 rfl) ?_
  refine v_putR 0 0 h (by decide) rfl (Or.inr ⟨rfl, rfl, rfl⟩) qfX0_38 dX0_init_66 (fun s h => ?_)
  refine v_aload_n dX0_init_69 rfl (lv_at hl 0 rfl) ?_
  refine v_aload_n dX0_init_70 rfl (lv_at hl 2 rfl) ?_
  refine v_putR 0 1 h (by decide) rfl (Or.inr ⟨rfl, rfl, rfl⟩) qfX0_42 dX0_init_71 (fun s h => ?_)
  refine v_aload_n dX0_init_74 rfl (lv_at hl 0 rfl) ?_
  refine v_getR 0 6 h (by decide) rfl qfX0_32 dX0_init_75 (fun r11 h => ?_)
  refine v_lconst (1 : Int64) dX0_init_78 (by decide) ?_
  refine v_lconst (1 : Int64) dX0_init_79 (by decide) ?_
  refine k_X2_become h qmX0_45 (by decide) hl.1 (Nat.le_of_ble_eq_true rfl) dX0_init_80 (fun v12 s h => ?_)
  refine v_aload_n dX0_init_83 rfl (lv_at hl 0 rfl) ?_
  refine v_getR 0 7 h (by decide) rfl qfX0_35 dX0_init_84 (fun r13 h => ?_)
  refine v_iconst (0 : Int32) dX0_init_87 (by decide) ?_
  refine v_aload_n dX0_init_88 rfl (lv_at hl 0 rfl) ?_
  refine v_getR 0 6 h (by decide) rfl qfX0_32 dX0_init_89 (fun r14 h => ?_)
  refine k_X6_take h qmX0_49 (by decide) hl.1 (Nat.le_of_ble_eq_true rfl) dX0_init_92 (fun v15 s h => ?_)
  refine v_iconst (0 : Int32) dX0_init_95 (by decide) ?_
  refine v_istore_n [(3, .int (0 : Int32)), (0, .ref (xb X + a0)), (1, .ref (xb X + a1)), (2, .ref (xb X + a2))] dX0_init_96 rfl hl (by decide) rfl (fun ls hl => ?_)
  exact L_X0_init_97 N N a0 a1 a2 (0 : Int32) s ls (lv_sub hl [1, 2, 3, 0] rfl) h
theorem k_X0_init {X : VX} {cc : ByteArray} {own : String} {nL fr lo : Nat} {ini : Bool} {E : VX → Prop} {sF s : vS} {ρ : Type} {res : ρ} {pc : Nat} {ls : Array Slot} {rest : List Value} {N index : Nat} {a0 : Nat} {a1 : Nat} {a2 : Nat} {f : Unit → vS → Option ρ} (h : bnd (F_X0_init N a0 a1 a2 s) f = some res) (hlink : Cond.methodLink own index yX0_init ∈ TT) (hR : 3 + 1 ≤ fr ∧ 8 + (7 + 11) + 73 ≤ lo) (hls : ls.size = nL) (hr : (rest.map fun v => v.category).sum ≤ 8) (hdg : decode cc pc = .ok (.invokespecial index, 3)) (kk : ∀ r s', f r s' = some res → V X (cc, own, nL, fr, lo, ini) E sF s' (G0 X (pc + 3) ls (rest))) : V X (cc, own, nL, fr, lo, ini) E sF s (G0 X pc ls (.ref (xb X + a2) :: .ref (xb X + a1) :: .ref (xb X + a0) :: rest)) := by
  obtain ⟨r, s', e, h⟩ := bnd_some h
  exact v_callI (b := a0) (As := [.ref (xb X + a1), .ref (xb X + a2)]) (rest := rest) (c_X0_init X N a0 a1 a2 s s' r e).2 rfl vl_X0_init qi_X0_init hlink hR rfl rfl hls hr hdg (kk r s' h)
set_option maxHeartbeats 4000000 in
set_option maxRecDepth 100000 in
theorem L_X0_familyOf_16 {X : VX} {sF : vS} {r : Nat} (N : Nat) (k0 : Nat) (s : vS) (ls : Array Slot) (hl : lv_has ls 2 []) (h : J_X0_familyOf_16 N k0 s = some (r, sF)) : V X (cX0_familyOf, RX0, 2, 0, 0, false) (vRet sF (some (.ref (xb X + r))) (some (.object "DensitiesOfNets$Family"))) sF s (G0 X 16 ls [.ref (xb X + k0)]) := by
  unfold J_X0_familyOf_16 at h
  exact v_aret rfl dX0_familyOf_16 h
theorem vl_X0_familyOf : vCl yX0_familyOf cX0_familyOf 2 (some (.object "DensitiesOfNets$Family")) 1 := ⟨qy_X0_familyOf, qjX0, by decide +kernel, by decide +kernel, by decide +kernel⟩
set_option maxHeartbeats 4000000 in
set_option maxRecDepth 100000 in
theorem c_X0_familyOf {l : Launch} {D : va_G} {ka : Nat → ClassId} (X0 : VX) (N : Nat) (a0 : Nat) (l1 : Int32) (s sF : vS) (r : Nat) (h : F_X0_familyOf N a0 l1 s = some (r, sF)) : isO s a0 0 = true ∧ vMet l D ka (xb X0) yX0_familyOf cX0_familyOf 2 (some (.object "DensitiesOfNets$Family")) 0 0 [.ref (xb X0 + a0), .int l1] s sF (some (.ref (xb X0 + r))) := by
  unfold F_X0_familyOf at h
  unfold rcv at h
  obtain ⟨hO, h⟩ := v_chk h
  refine ⟨hO, vMet.of (ini := false) X0 (plainFor_of_name (by decide +kernel)) (Nat.le_of_ble_eq_true rfl) (fun h => by cases h) (fun X ls hb hl => ?_) rfl⟩
  show V X (cX0_familyOf, RX0, 2, 0, 0, false) (vRet sF (some (.ref (xb X0 + r))) (some (.object "DensitiesOfNets$Family"))) sF s (G0 X 0 ls [])
  rw [← hb] at hl ⊢
  have hl : lv_has ls 2 [(0, .ref (xb X + a0)), (1, .int l1)] := hl
  refine v_iload_n dX0_familyOf_0 rfl (lv_at hl 1 rfl) ?_
  refine v_iconst (2 : Int32) dX0_familyOf_1 (by decide) ?_
  refine v_icmp_ne 12 dX0_familyOf_2 (by decide) h (fun h => ?_) (fun h => ?_)
  · refine v_aload_n dX0_familyOf_12 rfl (lv_at hl 0 rfl) ?_
    refine v_getR 0 0 h (by decide) rfl qfX0_38 dX0_familyOf_13 (fun r1 h => ?_)
    exact L_X0_familyOf_16 N r1 s ls (lv_sub hl [] rfl) h
  · refine v_aload_n dX0_familyOf_5 rfl (lv_at hl 0 rfl) ?_
    refine v_getR 0 1 h (by decide) rfl qfX0_42 dX0_familyOf_6 (fun r2 h => ?_)
    refine v_goto 16 dX0_familyOf_9 (by decide) ?_
    exact L_X0_familyOf_16 N r2 s ls (lv_sub hl [] rfl) h
theorem k_X0_familyOf {X : VX} {cc : ByteArray} {own : String} {nL fr lo : Nat} {ini : Bool} {E : VX → Prop} {sF s : vS} {ρ : Type} {res : ρ} {pc : Nat} {ls : Array Slot} {rest : List Value} {N index : Nat} {a0 : Nat} {l1 : Int32} {f : Nat → vS → Option ρ} (h : bnd (F_X0_familyOf N a0 l1 s) f = some res) (hlink : Cond.methodLink own index yX0_familyOf ∈ TT) (hR : 0 + 1 ≤ fr ∧ 8 + (2 + 11) + 0 ≤ lo) (hls : ls.size = nL) (hr : (rest.map fun v => v.category).sum ≤ 8) (hdg : decode cc pc = .ok (.invokevirtual index, 3)) (kk : ∀ r s', f r s' = some res → V X (cc, own, nL, fr, lo, ini) E sF s' (G0 X (pc + 3) ls (.ref (xb X + r) :: rest))) : V X (cc, own, nL, fr, lo, ini) E sF s (G0 X pc ls (.int l1 :: .ref (xb X + a0) :: rest)) := by
  obtain ⟨r, s', e, h⟩ := bnd_some h
  exact v_callV (b := a0) (ci := 0) (As := [.int l1]) (rest := rest) (c_X0_familyOf X N a0 l1 s s' r e).2 (c_X0_familyOf (l := xl X) (D := xD X) (ka := xka X) X N a0 l1 s s' r e).1 rfl vl_X0_familyOf qi_X0_familyOf qe_X0_familyOf hlink hR rfl rfl hls hr hdg (kk r s' h)
set_option maxHeartbeats 4000000 in
set_option maxRecDepth 100000 in
theorem L_J9_max_7cf53_10 {X : VX} {sF : vS} {r : Int32} (N : Nat) (k0 : Int32) (s : vS) (ls : Array Slot) (hl : lv_has ls 2 []) (h : J_J9_max_7cf53_10 N k0 s = some (r, sF)) : V X (cJ9_max_7cf53, RJ9, 2, 0, 0, false) (vRet sF (some (.int r)) (some .int)) sF s (G0 X 10 ls [.int k0]) := by
  unfold J_J9_max_7cf53_10 at h
  exact v_iret dJ9_max_7cf53_10 h
theorem vl_J9_max_7cf53 : vCl yJ9_max_7cf53 cJ9_max_7cf53 2 (some .int) 2 := ⟨qy_J9_max_7cf53, qjJ9, by decide +kernel, by decide +kernel, by decide +kernel⟩
set_option maxHeartbeats 4000000 in
set_option maxRecDepth 100000 in
theorem c_J9_max_7cf53 {l : Launch} {D : va_G} {ka : Nat → ClassId} (X0 : VX) (N : Nat) (l0 : Int32) (l1 : Int32) (s sF : vS) (r : Int32) (h : F_J9_max_7cf53 N l0 l1 s = some (r, sF)) : vMet l D ka (xb X0) yJ9_max_7cf53 cJ9_max_7cf53 2 (some .int) 0 0 [.int l0, .int l1] s sF (some (.int r)) := by
  unfold F_J9_max_7cf53 at h
  refine vMet.of (ini := false) X0 (flPlain rfl (by decide +kernel)) (Nat.le_of_ble_eq_true rfl) (fun h => by cases h) (fun X ls hb hl => ?_) rfl
  show V X (cJ9_max_7cf53, RJ9, 2, 0, 0, false) (vRet sF (some (.int r)) (some .int)) sF s (G0 X 0 ls [])
  have hl : lv_has ls 2 [(0, .int l0), (1, .int l1)] := hl
  refine v_iload_n dJ9_max_7cf53_0 rfl (lv_at hl 0 rfl) ?_
  refine v_iload_n dJ9_max_7cf53_1 rfl (lv_at hl 1 rfl) ?_
  refine v_icmp_lt 9 dJ9_max_7cf53_2 (by decide) h (fun h => ?_) (fun h => ?_)
  · refine v_iload_n dJ9_max_7cf53_9 rfl (lv_at hl 1 rfl) ?_
    exact L_J9_max_7cf53_10 N l1 s ls (lv_sub hl [] rfl) h
  · refine v_iload_n dJ9_max_7cf53_5 rfl (lv_at hl 0 rfl) ?_
    refine v_goto 10 dJ9_max_7cf53_6 (by decide) ?_
    exact L_J9_max_7cf53_10 N l0 s ls (lv_sub hl [] rfl) h
theorem k_J9_max_7cf53 {X : VX} {cc : ByteArray} {own : String} {nL fr lo : Nat} {ini : Bool} {E : VX → Prop} {sF s : vS} {ρ : Type} {res : ρ} {pc : Nat} {ls : Array Slot} {rest : List Value} {N index : Nat} {l0 : Int32} {l1 : Int32} {f : Int32 → vS → Option ρ} (h : bnd (F_J9_max_7cf53 N l0 l1 s) f = some res) (hlink : Cond.methodLink own index yJ9_max_7cf53 ∈ TT) (hR : 0 + 1 ≤ fr ∧ 8 + (2 + 11) + 0 ≤ lo) (hls : ls.size = nL) (hr : (rest.map fun v => v.category).sum ≤ 8) (hdg : decode cc pc = .ok (.invokestatic index, 3)) (kk : ∀ r s', f r s' = some res → V X (cc, own, nL, fr, lo, ini) E sF s' (G0 X (pc + 3) ls (.int r :: rest))) : V X (cc, own, nL, fr, lo, ini) E sF s (G0 X pc ls (.int l1 :: .int l0 :: rest)) := by
  obtain ⟨r, s', e, h⟩ := bnd_some h
  exact v_callS (As := [.int l0, .int l1]) (rest := rest) (c_J9_max_7cf53 X N l0 l1 s s' r e) vl_J9_max_7cf53 qs_J9_max_7cf53 hlink hR rfl rfl hls hr hdg (kk r s' h)
set_option maxHeartbeats 4000000 in
set_option maxRecDepth 100000 in
theorem L_X0_greatestSize_47 {X : VX} {sF : vS} {r : Int32} (N : Nat) (k12 : Nat → Nat → Int32 → Int32 → vS → Option (Int32 × vS)) (hk12 : ∀ (a1 : Nat) (a3 : Nat) (l4 : Int32) (l5 : Int32) (s : vS) (ls : Array Slot), lv_has ls 6 [(1, .ref (xb X + a1)), (3, .ref (xb X + a3)), (4, .int l4), (5, .int l5)] → k12 a1 a3 l4 l5 s = some (r, sF) → V X (cX0_greatestSize, RX0, 6, 1, 21, false) (vRet sF (some (.int r)) (some .int)) sF s (G0 X 12 ls [])) (a1 : Nat) (a3 : Nat) (l4 : Int32) (l5 : Int32) (s : vS) (ls : Array Slot) (hl : lv_has ls 6 [(1, .ref (xb X + a1)), (3, .ref (xb X + a3)), (4, .int l4), (5, .int l5)]) (h : J_X0_greatestSize_47 N k12 a1 a3 l4 l5 s = some (r, sF)) : V X (cX0_greatestSize, RX0, 6, 1, 21, false) (vRet sF (some (.int r)) (some .int)) sF s (G0 X 47 ls []) := by
  unfold J_X0_greatestSize_47 at h
  refine v_inc (fun z => [(5, .int z), (1, .ref (xb X + a1)), (3, .ref (xb X + a3)), (4, .int l4)]) dX0_greatestSize_47 h hl (k := 3) rfl (by rfl) (by decide) (fun _ => rfl) (fun l5_8 ls hl h => ?_)
  refine v_goto 12 dX0_greatestSize_50 (by decide) ?_
  exact hk12 a1 a3 l4 l5_8 s ls (lv_sub hl [1, 2, 3, 0] rfl) h
set_option maxHeartbeats 4000000 in
set_option maxRecDepth 100000 in
theorem L_X0_greatestSize_12 {X : VX} {sF : vS} {r : Int32} (N : Nat) : ∀ (n : Nat) (a1 : Nat) (a3 : Nat) (l4 : Int32) (l5 : Int32) (s : vS) (ls : Array Slot), lv_has ls 6 [(1, .ref (xb X + a1)), (3, .ref (xb X + a3)), (4, .int l4), (5, .int l5)] → H_X0_greatestSize_12 N n a1 a3 l4 l5 s = some (r, sF) → V X (cX0_greatestSize, RX0, 6, 1, 21, false) (vRet sF (some (.int r)) (some .int)) sF s (G0 X 12 ls []) := by
  intro n
  induction n with
  | zero => intro a1 a3 l4 l5 s ls hl h; cases h
  | succ n ih =>
   intro a1 a3 l4 l5 s ls hl h
   unfold H_X0_greatestSize_12 at h
   refine v_iload dX0_greatestSize_12 (lv_at hl 3 rfl) ?_
   refine v_aload_n dX0_greatestSize_14 rfl (lv_at hl 1 rfl) ?_
   refine v_getI 1 2 h (by decide) (Or.inl rfl) qfX0_73 dX0_greatestSize_15 (fun v2 h => ?_)
   refine v_icmp_ge 53 dX0_greatestSize_18 (by decide) h (fun h => ?_) (fun h => ?_)
   · refine v_iload dX0_greatestSize_53 (lv_at hl 2 rfl) ?_
     exact v_iret dX0_greatestSize_55 h
   · refine v_aload_n dX0_greatestSize_21 rfl (lv_at hl 0 rfl) ?_
     refine v_getR 6 1 h (by decide) rfl qfX0_74 dX0_greatestSize_22 (fun r3 h => ?_)
     refine v_iload dX0_greatestSize_25 (lv_at hl 3 rfl) ?_
     refine v_lald dX0_greatestSize_27 h (fun v4 h => ?_)
     refine v_lconst (0 : Int64) dX0_greatestSize_28 (by decide) ?_
     refine v_lcmp dX0_greatestSize_29 ?_
     refine v_if_eq 47 dX0_greatestSize_30 (by decide) h (fun h => ?_) (fun h => ?_)
     · exact L_X0_greatestSize_47 N (H_X0_greatestSize_12 N n) ih a1 a3 l4 l5 s ls (lv_sub hl [0, 1, 2, 3] rfl) h
     · refine v_iload dX0_greatestSize_33 (lv_at hl 2 rfl) ?_
       refine v_aload_n dX0_greatestSize_35 rfl (lv_at hl 1 rfl) ?_
       refine v_getR 1 3 h (by decide) rfl qfX0_78 dX0_greatestSize_36 (fun r5 h => ?_)
       refine v_iload dX0_greatestSize_39 (lv_at hl 3 rfl) ?_
       refine v_iald dX0_greatestSize_41 h (fun v6 h => ?_)
       refine k_J9_max_7cf53 h qmX0_81 (by decide) hl.1 (Nat.le_of_ble_eq_true rfl) dX0_greatestSize_42 (fun v7 s h => ?_)
       refine v_istore [(4, .int v7), (1, .ref (xb X + a1)), (3, .ref (xb X + a3)), (5, .int l5)] dX0_greatestSize_45 hl (by decide) rfl (fun ls hl => ?_)
       exact L_X0_greatestSize_47 N (H_X0_greatestSize_12 N n) ih a1 a3 v7 l5 s ls (lv_sub hl [1, 2, 0, 3] rfl) h
theorem vl_X0_greatestSize : vCl yX0_greatestSize cX0_greatestSize 6 (some .int) 2 := ⟨qy_X0_greatestSize, qjX0, by decide +kernel, by decide +kernel, by decide +kernel⟩
set_option maxHeartbeats 4000000 in
set_option maxRecDepth 100000 in
theorem c_X0_greatestSize {l : Launch} {D : va_G} {ka : Nat → ClassId} (X0 : VX) (N : Nat) (a0 : Nat) (a1 : Nat) (l2 : Int32) (s sF : vS) (r : Int32) (h : F_X0_greatestSize N a0 a1 l2 s = some (r, sF)) : isO s a0 0 = true ∧ vMet l D ka (xb X0) yX0_greatestSize cX0_greatestSize 6 (some .int) 1 21 [.ref (xb X0 + a0), .ref (xb X0 + a1), .int l2] s sF (some (.int r)) := by
  unfold F_X0_greatestSize at h
  unfold rcv at h
  obtain ⟨hO, h⟩ := v_chk h
  refine ⟨hO, vMet.of (ini := false) X0 (plainFor_of_name (by decide +kernel)) (Nat.le_of_ble_eq_true rfl) (fun h => by cases h) (fun X ls hb hl => ?_) rfl⟩
  show V X (cX0_greatestSize, RX0, 6, 1, 21, false) (vRet sF (some (.int r)) (some .int)) sF s (G0 X 0 ls [])
  rw [← hb] at hl
  have hl : lv_has ls 6 [(0, .ref (xb X + a0)), (1, .ref (xb X + a1)), (2, .int l2)] := hl
  refine v_aload_n dX0_greatestSize_0 rfl (lv_at hl 0 rfl) ?_
  refine v_iload_n dX0_greatestSize_1 rfl (lv_at hl 2 rfl) ?_
  refine k_X0_familyOf h qmX0_69 (by decide) hl.1 (Nat.le_of_ble_eq_true rfl) dX0_greatestSize_2 (fun r1 s h => ?_)
  refine v_astore_n [(3, .ref (xb X + r1)), (0, .ref (xb X + a0)), (1, .ref (xb X + a1)), (2, .int l2)] dX0_greatestSize_5 rfl hl (by decide) rfl (fun ls hl => ?_)
  refine v_iconst (-1 : Int32) dX0_greatestSize_6 (by decide) ?_
  refine v_istore [(4, .int (-1 : Int32)), (3, .ref (xb X + r1)), (0, .ref (xb X + a0)), (1, .ref (xb X + a1)), (2, .int l2)] dX0_greatestSize_7 hl (by decide) rfl (fun ls hl => ?_)
  refine v_iconst (0 : Int32) dX0_greatestSize_9 (by decide) ?_
  refine v_istore [(5, .int (0 : Int32)), (4, .int (-1 : Int32)), (3, .ref (xb X + r1)), (0, .ref (xb X + a0)), (1, .ref (xb X + a1)), (2, .int l2)] dX0_greatestSize_10 hl (by decide) rfl (fun ls hl => ?_)
  exact L_X0_greatestSize_12 N N a1 r1 (-1 : Int32) (0 : Int32) s ls (lv_sub hl [4, 2, 1, 0] rfl) h
theorem k_X0_greatestSize {X : VX} {cc : ByteArray} {own : String} {nL fr lo : Nat} {ini : Bool} {E : VX → Prop} {sF s : vS} {ρ : Type} {res : ρ} {pc : Nat} {ls : Array Slot} {rest : List Value} {N index : Nat} {a0 : Nat} {a1 : Nat} {l2 : Int32} {f : Int32 → vS → Option ρ} (h : bnd (F_X0_greatestSize N a0 a1 l2 s) f = some res) (hlink : Cond.methodLink own index yX0_greatestSize ∈ TT) (hR : 1 + 1 ≤ fr ∧ 8 + (6 + 11) + 21 ≤ lo) (hls : ls.size = nL) (hr : (rest.map fun v => v.category).sum ≤ 8) (hdg : decode cc pc = .ok (.invokevirtual index, 3)) (kk : ∀ r s', f r s' = some res → V X (cc, own, nL, fr, lo, ini) E sF s' (G0 X (pc + 3) ls (.int r :: rest))) : V X (cc, own, nL, fr, lo, ini) E sF s (G0 X pc ls (.int l2 :: .ref (xb X + a1) :: .ref (xb X + a0) :: rest)) := by
  obtain ⟨r, s', e, h⟩ := bnd_some h
  exact v_callV (b := a0) (ci := 0) (As := [.ref (xb X + a1), .int l2]) (rest := rest) (c_X0_greatestSize X N a0 a1 l2 s s' r e).2 (c_X0_greatestSize (l := xl X) (D := xD X) (ka := xka X) X N a0 a1 l2 s s' r e).1 rfl vl_X0_greatestSize qi_X0_greatestSize qe_X0_greatestSize hlink hR rfl rfl hls hr hdg (kk r s' h)
set_option maxHeartbeats 4000000 in
set_option maxRecDepth 100000 in
theorem L_X0_isTooLarge_35 {X : VX} {sF : vS} {r : Int32} (N : Nat) (k0 : Int32) (s : vS) (ls : Array Slot) (hl : lv_has ls 4 []) (h : J_X0_isTooLarge_35 N k0 s = some (r, sF)) : V X (cX0_isTooLarge, RX0, 4, 0, 0, false) (vRet sF (some (.int r)) (some .boolean)) sF s (G0 X 35 ls [.int k0]) := by
  unfold J_X0_isTooLarge_35 at h
  exact v_zret dX0_isTooLarge_35 h
set_option maxHeartbeats 4000000 in
set_option maxRecDepth 100000 in
theorem L_X0_isTooLarge_34 {X : VX} {sF : vS} {r : Int32} (N : Nat) (s : vS) (ls : Array Slot) (hl : lv_has ls 4 []) (h : J_X0_isTooLarge_34 N  s = some (r, sF)) : V X (cX0_isTooLarge, RX0, 4, 0, 0, false) (vRet sF (some (.int r)) (some .boolean)) sF s (G0 X 34 ls []) := by
  unfold J_X0_isTooLarge_34 at h
  refine v_iconst (0 : Int32) dX0_isTooLarge_34 (by decide) ?_
  exact L_X0_isTooLarge_35 N (0 : Int32) s ls (lv_sub hl [] rfl) h
set_option maxHeartbeats 4000000 in
set_option maxRecDepth 100000 in
theorem L_X0_isTooLarge_13 {X : VX} {sF : vS} {r : Int32} (N : Nat) (l0 : Int32) (l1 : Int32) (k0 : Int32) (k1 : Int32) (s : vS) (ls : Array Slot) (hl : lv_has ls 4 [(0, .int l0), (1, .int l1)]) (h : J_X0_isTooLarge_13 N l0 l1 k0 k1 s = some (r, sF)) : V X (cX0_isTooLarge, RX0, 4, 0, 0, false) (vRet sF (some (.int r)) (some .boolean)) sF s (G0 X 13 ls [.int k1, .int k0]) := by
  unfold J_X0_isTooLarge_13 at h
  refine v_isub dX0_isTooLarge_13 ?_
  refine v_nmI h (fun l3_1 h => ?_)
  refine v_istore_n [(3, .int l3_1), (0, .int l0), (1, .int l1)] dX0_isTooLarge_14 rfl hl (by decide) rfl (fun ls hl => ?_)
  refine v_iload_n dX0_isTooLarge_15 rfl (lv_at hl 1 rfl) ?_
  refine v_iconst (-1 : Int32) dX0_isTooLarge_16 (by decide) ?_
  refine v_icmp_eq 34 dX0_isTooLarge_17 (by decide) h (fun h => ?_) (fun h => ?_)
  · exact L_X0_isTooLarge_34 N  s ls (lv_sub hl [] rfl) h
  · refine v_iload_n dX0_isTooLarge_20 rfl (lv_at hl 2 rfl) ?_
    refine v_iconst (-1 : Int32) dX0_isTooLarge_21 (by decide) ?_
    refine v_icmp_eq 34 dX0_isTooLarge_22 (by decide) h (fun h => ?_) (fun h => ?_)
    · exact L_X0_isTooLarge_34 N  s ls (lv_sub hl [] rfl) h
    · refine v_iload_n dX0_isTooLarge_25 rfl (lv_at hl 0 rfl) ?_
      refine v_iconst (4 : Int32) dX0_isTooLarge_26 (by decide) ?_
      refine v_icmp_le 34 dX0_isTooLarge_27 (by decide) h (fun h => ?_) (fun h => ?_)
      · exact L_X0_isTooLarge_34 N  s ls (lv_sub hl [] rfl) h
      · refine v_iconst (1 : Int32) dX0_isTooLarge_30 (by decide) ?_
        refine v_goto 35 dX0_isTooLarge_31 (by decide) ?_
        exact L_X0_isTooLarge_35 N (1 : Int32) s ls (lv_sub hl [] rfl) h
theorem vl_X0_isTooLarge : vCl yX0_isTooLarge cX0_isTooLarge 4 (some .boolean) 3 := ⟨qy_X0_isTooLarge, qjX0, by decide +kernel, by decide +kernel, by decide +kernel⟩
set_option maxHeartbeats 4000000 in
set_option maxRecDepth 100000 in
theorem c_X0_isTooLarge {l : Launch} {D : va_G} {ka : Nat → ClassId} (X0 : VX) (N : Nat) (l0 : Int32) (l1 : Int32) (l2 : Int32) (s sF : vS) (r : Int32) (h : F_X0_isTooLarge N l0 l1 l2 s = some (r, sF)) : vMet l D ka (xb X0) yX0_isTooLarge cX0_isTooLarge 4 (some .boolean) 0 0 [.int l0, .int l1, .int l2] s sF (some (.int r)) := by
  unfold F_X0_isTooLarge at h
  refine vMet.of (ini := false) X0 (plainFor_of_name (by decide +kernel)) (Nat.le_of_ble_eq_true rfl) (fun h => by cases h) (fun X ls hb hl => ?_) rfl
  show V X (cX0_isTooLarge, RX0, 4, 0, 0, false) (vRet sF (some (.int r)) (some .boolean)) sF s (G0 X 0 ls [])
  have hl : lv_has ls 4 [(0, .int l0), (1, .int l1), (2, .int l2)] := hl
  refine v_iload_n dX0_isTooLarge_0 rfl (lv_at hl 0 rfl) ?_
  refine v_iload_n dX0_isTooLarge_1 rfl (lv_at hl 1 rfl) ?_
  refine v_iadd dX0_isTooLarge_2 ?_
  refine v_iload_n dX0_isTooLarge_3 rfl (lv_at hl 2 rfl) ?_
  refine v_iconst (2 : Int32) dX0_isTooLarge_4 (by decide) ?_
  refine v_icmp_ne 12 dX0_isTooLarge_5 (by decide) h (fun h => ?_) (fun h => ?_)
  · refine v_iconst (0 : Int32) dX0_isTooLarge_12 (by decide) ?_
    exact L_X0_isTooLarge_13 N l0 l1 (l0 + l1) (0 : Int32) s ls (lv_sub hl [0, 1] rfl) h
  · refine v_iconst (1 : Int32) dX0_isTooLarge_8 (by decide) ?_
    refine v_goto 13 dX0_isTooLarge_9 (by decide) ?_
    exact L_X0_isTooLarge_13 N l0 l1 (l0 + l1) (1 : Int32) s ls (lv_sub hl [0, 1] rfl) h
theorem k_X0_isTooLarge {X : VX} {cc : ByteArray} {own : String} {nL fr lo : Nat} {ini : Bool} {E : VX → Prop} {sF s : vS} {ρ : Type} {res : ρ} {pc : Nat} {ls : Array Slot} {rest : List Value} {N index : Nat} {l0 : Int32} {l1 : Int32} {l2 : Int32} {f : Int32 → vS → Option ρ} (h : bnd (F_X0_isTooLarge N l0 l1 l2 s) f = some res) (hlink : Cond.methodLink own index yX0_isTooLarge ∈ TT) (hR : 0 + 1 ≤ fr ∧ 8 + (4 + 11) + 0 ≤ lo) (hls : ls.size = nL) (hr : (rest.map fun v => v.category).sum ≤ 8) (hdg : decode cc pc = .ok (.invokestatic index, 3)) (kk : ∀ r s', f r s' = some res → V X (cc, own, nL, fr, lo, ini) E sF s' (G0 X (pc + 3) ls (.int r :: rest))) : V X (cc, own, nL, fr, lo, ini) E sF s (G0 X pc ls (.int l2 :: .int l1 :: .int l0 :: rest)) := by
  obtain ⟨r, s', e, h⟩ := bnd_some h
  exact v_callS (As := [.int l0, .int l1, .int l2]) (rest := rest) (c_X0_isTooLarge X N l0 l1 l2 s s' r e) vl_X0_isTooLarge qs_X0_isTooLarge hlink hR rfl rfl hls hr hdg (kk r s' h)
set_option maxHeartbeats 4000000 in
set_option maxRecDepth 100000 in
theorem L_X2_isBeyond_63 {X : VX} {sF : vS} {r : Int32} (N : Nat) (k0 : Int32) (s : vS) (ls : Array Slot) (hl : lv_has ls 4 []) (h : J_X2_isBeyond_63 N k0 s = some (r, sF)) : V X (cX2_isBeyond, RX2, 4, 0, 0, false) (vRet sF (some (.int r)) (some .boolean)) sF s (G0 X 63 ls [.int k0]) := by
  unfold J_X2_isBeyond_63 at h
  exact v_zret dX2_isBeyond_63 h
set_option maxHeartbeats 4000000 in
set_option maxRecDepth 100000 in
theorem L_X2_isBeyond_48 {X : VX} {sF : vS} {r : Int32} (N : Nat) (l0 : Int64) (l2 : Int64) (s : vS) (ls : Array Slot) (hl : lv_has ls 4 [(0, .long l0), (2, .long l2)]) (h : J_X2_isBeyond_48 N l0 l2 s = some (r, sF)) : V X (cX2_isBeyond, RX2, 4, 0, 0, false) (vRet sF (some (.int r)) (some .boolean)) sF s (G0 X 48 ls []) := by
  unfold J_X2_isBeyond_48 at h
  refine v_lload_n dX2_isBeyond_48 rfl (lv_at hl 0 rfl) ?_
  refine v_lload_n dX2_isBeyond_49 rfl (lv_at hl 1 rfl) ?_
  refine v_lmul dX2_isBeyond_50 ?_
  refine v_lload_n dX2_isBeyond_51 rfl (lv_at hl 1 rfl) ?_
  refine v_ldiv dX2_isBeyond_52 h (fun h => ?_)
  refine v_lload_n dX2_isBeyond_53 rfl (lv_at hl 0 rfl) ?_
  refine v_lcmp dX2_isBeyond_54 ?_
  refine v_if_eq 62 dX2_isBeyond_55 (by decide) h (fun h => ?_) (fun h => ?_)
  · refine v_iconst (0 : Int32) dX2_isBeyond_62 (by decide) ?_
    exact L_X2_isBeyond_63 N (0 : Int32) s ls (lv_sub hl [] rfl) h
  · refine v_iconst (1 : Int32) dX2_isBeyond_58 (by decide) ?_
    refine v_goto 63 dX2_isBeyond_59 (by decide) ?_
    exact L_X2_isBeyond_63 N (1 : Int32) s ls (lv_sub hl [] rfl) h
set_option maxHeartbeats 4000000 in
set_option maxRecDepth 100000 in
theorem L_X2_isBeyond_46 {X : VX} {sF : vS} {r : Int32} (N : Nat) (s : vS) (ls : Array Slot) (hl : lv_has ls 4 []) (h : J_X2_isBeyond_46 N  s = some (r, sF)) : V X (cX2_isBeyond, RX2, 4, 0, 0, false) (vRet sF (some (.int r)) (some .boolean)) sF s (G0 X 46 ls []) := by
  unfold J_X2_isBeyond_46 at h
  refine v_iconst (1 : Int32) dX2_isBeyond_46 (by decide) ?_
  exact v_zret dX2_isBeyond_47 h
set_option maxHeartbeats 4000000 in
set_option maxRecDepth 100000 in
theorem L_X2_isBeyond_30 {X : VX} {sF : vS} {r : Int32} (N : Nat) (l0 : Int64) (l2 : Int64) (s : vS) (ls : Array Slot) (hl : lv_has ls 4 [(0, .long l0), (2, .long l2)]) (h : J_X2_isBeyond_30 N l0 l2 s = some (r, sF)) : V X (cX2_isBeyond, RX2, 4, 0, 0, false) (vRet sF (some (.int r)) (some .boolean)) sF s (G0 X 30 ls []) := by
  unfold J_X2_isBeyond_30 at h
  refine v_lload_n dX2_isBeyond_30 rfl (lv_at hl 1 rfl) ?_
  refine v_ldc2 qkX2_24 dX2_isBeyond_31 ?_
  refine v_lcmp dX2_isBeyond_34 ?_
  refine v_if_ne 48 dX2_isBeyond_35 (by decide) h (fun h => ?_) (fun h => ?_)
  · exact L_X2_isBeyond_48 N l0 l2 s ls (lv_sub hl [0, 1] rfl) h
  · refine v_lload_n dX2_isBeyond_38 rfl (lv_at hl 0 rfl) ?_
    refine v_ldc2 qkX2_28 dX2_isBeyond_39 ?_
    refine v_lcmp dX2_isBeyond_42 ?_
    refine v_if_ne 48 dX2_isBeyond_43 (by decide) h (fun h => ?_) (fun h => ?_)
    · exact L_X2_isBeyond_48 N l0 l2 s ls (lv_sub hl [0, 1] rfl) h
    · exact L_X2_isBeyond_46 N  s ls (lv_sub hl [] rfl) h
set_option maxHeartbeats 4000000 in
set_option maxRecDepth 100000 in
theorem L_X2_isBeyond_12 {X : VX} {sF : vS} {r : Int32} (N : Nat) (s : vS) (ls : Array Slot) (hl : lv_has ls 4 []) (h : J_X2_isBeyond_12 N  s = some (r, sF)) : V X (cX2_isBeyond, RX2, 4, 0, 0, false) (vRet sF (some (.int r)) (some .boolean)) sF s (G0 X 12 ls []) := by
  unfold J_X2_isBeyond_12 at h
  refine v_iconst (0 : Int32) dX2_isBeyond_12 (by decide) ?_
  exact v_zret dX2_isBeyond_13 h
theorem vl_X2_isBeyond : vCl yX2_isBeyond cX2_isBeyond 4 (some .boolean) 2 := ⟨qy_X2_isBeyond, qjX2, by decide +kernel, by decide +kernel, by decide +kernel⟩
set_option maxHeartbeats 4000000 in
set_option maxRecDepth 100000 in
theorem c_X2_isBeyond {l : Launch} {D : va_G} {ka : Nat → ClassId} (X0 : VX) (N : Nat) (l0 : Int64) (l2 : Int64) (s sF : vS) (r : Int32) (h : F_X2_isBeyond N l0 l2 s = some (r, sF)) : vMet l D ka (xb X0) yX2_isBeyond cX2_isBeyond 4 (some .boolean) 0 0 [.long l0, .long l2] s sF (some (.int r)) := by
  unfold F_X2_isBeyond at h
  refine vMet.of (ini := false) X0 (plainFor_of_name (by decide +kernel)) (Nat.le_of_ble_eq_true rfl) (fun h => by cases h) (fun X ls hb hl => ?_) rfl
  show V X (cX2_isBeyond, RX2, 4, 0, 0, false) (vRet sF (some (.int r)) (some .boolean)) sF s (G0 X 0 ls [])
  have hl : lv_has ls 4 [(0, .long l0), (2, .long l2)] := hl
  refine v_lload_n dX2_isBeyond_0 rfl (lv_at hl 0 rfl) ?_
  refine v_lconst (0 : Int64) dX2_isBeyond_1 (by decide) ?_
  refine v_lcmp dX2_isBeyond_2 ?_
  refine v_if_eq 12 dX2_isBeyond_3 (by decide) h (fun h => ?_) (fun h => ?_)
  · exact L_X2_isBeyond_12 N  s ls (lv_sub hl [] rfl) h
  · refine v_lload_n dX2_isBeyond_6 rfl (lv_at hl 1 rfl) ?_
    refine v_lconst (0 : Int64) dX2_isBeyond_7 (by decide) ?_
    refine v_lcmp dX2_isBeyond_8 ?_
    refine v_if_ne 14 dX2_isBeyond_9 (by decide) h (fun h => ?_) (fun h => ?_)
    · refine v_lload_n dX2_isBeyond_14 rfl (lv_at hl 0 rfl) ?_
      refine v_ldc2 qkX2_24 dX2_isBeyond_15 ?_
      refine v_lcmp dX2_isBeyond_18 ?_
      refine v_if_ne 30 dX2_isBeyond_19 (by decide) h (fun h => ?_) (fun h => ?_)
      · exact L_X2_isBeyond_30 N l0 l2 s ls (lv_sub hl [0, 1] rfl) h
      · refine v_lload_n dX2_isBeyond_22 rfl (lv_at hl 1 rfl) ?_
        refine v_ldc2 qkX2_28 dX2_isBeyond_23 ?_
        refine v_lcmp dX2_isBeyond_26 ?_
        refine v_if_eq 46 dX2_isBeyond_27 (by decide) h (fun h => ?_) (fun h => ?_)
        · exact L_X2_isBeyond_46 N  s ls (lv_sub hl [] rfl) h
        · exact L_X2_isBeyond_30 N l0 l2 s ls (lv_sub hl [0, 1] rfl) h
    · exact L_X2_isBeyond_12 N  s ls (lv_sub hl [] rfl) h
theorem k_X2_isBeyond {X : VX} {cc : ByteArray} {own : String} {nL fr lo : Nat} {ini : Bool} {E : VX → Prop} {sF s : vS} {ρ : Type} {res : ρ} {pc : Nat} {ls : Array Slot} {rest : List Value} {N index : Nat} {l0 : Int64} {l2 : Int64} {f : Int32 → vS → Option ρ} (h : bnd (F_X2_isBeyond N l0 l2 s) f = some res) (hlink : Cond.methodLink own index yX2_isBeyond ∈ TT) (hR : 0 + 1 ≤ fr ∧ 8 + (4 + 11) + 0 ≤ lo) (hls : ls.size = nL) (hr : (rest.map fun v => v.category).sum ≤ 8) (hdg : decode cc pc = .ok (.invokestatic index, 3)) (kk : ∀ r s', f r s' = some res → V X (cc, own, nL, fr, lo, ini) E sF s' (G0 X (pc + 3) ls (.int r :: rest))) : V X (cc, own, nL, fr, lo, ini) E sF s (G0 X pc ls (.long l2 :: .long l0 :: rest)) := by
  obtain ⟨r, s', e, h⟩ := bnd_some h
  exact v_callS (As := [.long l0, .long l2]) (rest := rest) (c_X2_isBeyond X N l0 l2 s s' r e) vl_X2_isBeyond qs_X2_isBeyond hlink hR rfl rfl hls hr hdg (kk r s' h)
set_option maxHeartbeats 4000000 in
set_option maxRecDepth 100000 in
theorem L_X2_times_70 {X : VX} {sF : vS} {r : Int32} (N : Nat) (s : vS) (ls : Array Slot) (hl : lv_has ls 19 []) (h : J_X2_times_70 N  s = some (r, sF)) : V X (cX2_times, RX2, 19, 1, 30, false) (vRet sF (some (.int r)) (some .boolean)) sF s (G0 X 70 ls []) := by
  unfold J_X2_times_70 at h
  refine v_iconst (0 : Int32) dX2_times_70 (by decide) ?_
  exact v_zret dX2_times_71 h
theorem vl_X2_times : vCl yX2_times cX2_times 19 (some .boolean) 2 := ⟨qy_X2_times, qjX2, by decide +kernel, by decide +kernel, by decide +kernel⟩
set_option maxHeartbeats 4000000 in
set_option maxRecDepth 100000 in
theorem c_X2_times {l : Launch} {D : va_G} {ka : Nat → ClassId} (X0 : VX) (N : Nat) (a0 : Nat) (l1 : Int64) (l3 : Int64) (s sF : vS) (r : Int32) (h : F_X2_times N a0 l1 l3 s = some (r, sF)) : isO s a0 2 = true ∧ vMet l D ka (xb X0) yX2_times cX2_times 19 (some .boolean) 1 30 [.ref (xb X0 + a0), .long l1, .long l3] s sF (some (.int r)) := by
  unfold F_X2_times at h
  unfold rcv at h
  obtain ⟨hO, h⟩ := v_chk h
  refine ⟨hO, vMet.of (ini := false) X0 (plainFor_of_name (by decide +kernel)) (Nat.le_of_ble_eq_true rfl) (fun h => by cases h) (fun X ls hb hl => ?_) rfl⟩
  show V X (cX2_times, RX2, 19, 1, 30, false) (vRet sF (some (.int r)) (some .boolean)) sF s (G0 X 0 ls [])
  rw [← hb] at hl
  have hl : lv_has ls 19 [(0, .ref (xb X + a0)), (1, .long l1), (3, .long l3)] := hl
  refine v_aload_n dX2_times_0 rfl (lv_at hl 0 rfl) ?_
  refine v_getJ 2 0 h (by decide) rfl qfX2_7 dX2_times_1 (fun v1 h => ?_)
  refine v_lload_n dX2_times_4 rfl (lv_at hl 2 rfl) ?_
  refine k_X2_greatestIn h qmX2_16 (by decide) hl.1 (Nat.le_of_ble_eq_true rfl) dX2_times_5 (fun v2 s h => ?_)
  refine v_lstore [(5, .long v2), (0, .ref (xb X + a0)), (1, .long l1), (3, .long l3)] dX2_times_8 hl (by decide) rfl (fun ls hl => ?_)
  refine v_lload_n dX2_times_10 rfl (lv_at hl 2 rfl) ?_
  refine v_aload_n dX2_times_11 rfl (lv_at hl 1 rfl) ?_
  refine v_getJ 2 1 h (by decide) rfl qfX2_13 dX2_times_12 (fun v3 h => ?_)
  refine k_X2_greatestIn h qmX2_16 (by decide) hl.1 (Nat.le_of_ble_eq_true rfl) dX2_times_15 (fun v4 s h => ?_)
  refine v_lstore [(7, .long v4), (5, .long v2), (0, .ref (xb X + a0)), (1, .long l1), (3, .long l3)] dX2_times_18 hl (by decide) rfl (fun ls hl => ?_)
  refine v_aload_n dX2_times_20 rfl (lv_at hl 2 rfl) ?_
  refine v_getJ 2 0 h (by decide) rfl qfX2_7 dX2_times_21 (fun v5 h => ?_)
  refine v_lload dX2_times_24 (lv_at hl 1 rfl) ?_
  refine v_ldiv dX2_times_26 h (fun h => ?_)
  refine v_nmJ h (fun l9_6 h => ?_)
  refine v_lstore [(9, .long l9_6), (7, .long v4), (5, .long v2), (0, .ref (xb X + a0)), (1, .long l1), (3, .long l3)] dX2_times_27 hl (by decide) rfl (fun ls hl => ?_)
  refine v_lload_n dX2_times_29 rfl (lv_at hl 4 rfl) ?_
  refine v_lload dX2_times_30 (lv_at hl 1 rfl) ?_
  refine v_ldiv dX2_times_32 h (fun h => ?_)
  refine v_nmJ h (fun l11_7 h => ?_)
  refine v_lstore [(11, .long l11_7), (9, .long l9_6), (7, .long v4), (5, .long v2), (0, .ref (xb X + a0)), (1, .long l1), (3, .long l3)] dX2_times_33 hl (by decide) rfl (fun ls hl => ?_)
  refine v_aload_n dX2_times_35 rfl (lv_at hl 4 rfl) ?_
  refine v_getJ 2 1 h (by decide) rfl qfX2_13 dX2_times_36 (fun v8 h => ?_)
  refine v_lload dX2_times_39 (lv_at hl 2 rfl) ?_
  refine v_ldiv dX2_times_41 h (fun h => ?_)
  refine v_nmJ h (fun l13_9 h => ?_)
  refine v_lstore [(13, .long l13_9), (11, .long l11_7), (9, .long l9_6), (7, .long v4), (5, .long v2), (0, .ref (xb X + a0)), (1, .long l1), (3, .long l3)] dX2_times_42 hl (by decide) rfl (fun ls hl => ?_)
  refine v_lload_n dX2_times_44 rfl (lv_at hl 7 rfl) ?_
  refine v_lload dX2_times_45 (lv_at hl 4 rfl) ?_
  refine v_ldiv dX2_times_47 h (fun h => ?_)
  refine v_nmJ h (fun l15_10 h => ?_)
  refine v_lstore [(15, .long l15_10), (13, .long l13_9), (11, .long l11_7), (9, .long l9_6), (7, .long v4), (5, .long v2), (0, .ref (xb X + a0)), (1, .long l1), (3, .long l3)] dX2_times_48 hl (by decide) rfl (fun ls hl => ?_)
  refine v_lload dX2_times_50 (lv_at hl 3 rfl) ?_
  refine v_lload dX2_times_52 (lv_at hl 2 rfl) ?_
  refine k_X2_isBeyond h qmX2_20 (by decide) hl.1 (Nat.le_of_ble_eq_true rfl) dX2_times_54 (fun v11 s h => ?_)
  refine v_if_ne 70 dX2_times_57 (by decide) h (fun h => ?_) (fun h => ?_)
  · exact L_X2_times_70 N  s ls (lv_sub hl [] rfl) h
  · refine v_lload dX2_times_60 (lv_at hl 1 rfl) ?_
    refine v_lload dX2_times_62 (lv_at hl 0 rfl) ?_
    refine k_X2_isBeyond h qmX2_20 (by decide) hl.1 (Nat.le_of_ble_eq_true rfl) dX2_times_64 (fun v12 s h => ?_)
    refine v_if_eq 72 dX2_times_67 (by decide) h (fun h => ?_) (fun h => ?_)
    · refine v_lload dX2_times_72 (lv_at hl 3 rfl) ?_
      refine v_lload dX2_times_74 (lv_at hl 2 rfl) ?_
      refine v_lmul dX2_times_76 ?_
      refine v_lload dX2_times_77 (lv_at hl 1 rfl) ?_
      refine v_lload dX2_times_79 (lv_at hl 0 rfl) ?_
      refine v_lmul dX2_times_81 ?_
      refine k_X2_greatestIn h qmX2_16 (by decide) hl.1 (Nat.le_of_ble_eq_true rfl) dX2_times_82 (fun v13 s h => ?_)
      refine v_lstore [(17, .long v13), (15, .long l15_10), (13, .long l13_9), (11, .long l11_7), (9, .long l9_6), (7, .long v4), (5, .long v2), (0, .ref (xb X + a0)), (1, .long l1), (3, .long l3)] dX2_times_85 hl (by decide) rfl (fun ls hl => ?_)
      refine v_aload_n dX2_times_87 rfl (lv_at hl 7 rfl) ?_
      refine v_lload dX2_times_88 (lv_at hl 4 rfl) ?_
      refine v_lload dX2_times_90 (lv_at hl 3 rfl) ?_
      refine v_lmul dX2_times_92 ?_
      refine v_lload dX2_times_93 (lv_at hl 0 rfl) ?_
      refine v_ldiv dX2_times_95 h (fun h => ?_)
      refine v_putJ 2 0 h (by decide) rfl (Or.inl rfl) qfX2_7 dX2_times_96 (fun s h => ?_)
      refine v_aload_n dX2_times_99 rfl (lv_at hl 7 rfl) ?_
      refine v_lload dX2_times_100 (lv_at hl 2 rfl) ?_
      refine v_lload dX2_times_102 (lv_at hl 1 rfl) ?_
      refine v_lmul dX2_times_104 ?_
      refine v_lload dX2_times_105 (lv_at hl 0 rfl) ?_
      refine v_ldiv dX2_times_107 h (fun h => ?_)
      refine v_putJ 2 1 h (by decide) rfl (Or.inl rfl) qfX2_13 dX2_times_108 (fun s h => ?_)
      refine v_iconst (1 : Int32) dX2_times_111 (by decide) ?_
      exact v_zret dX2_times_112 h
    · exact L_X2_times_70 N  s ls (lv_sub hl [] rfl) h
theorem k_X2_times {X : VX} {cc : ByteArray} {own : String} {nL fr lo : Nat} {ini : Bool} {E : VX → Prop} {sF s : vS} {ρ : Type} {res : ρ} {pc : Nat} {ls : Array Slot} {rest : List Value} {N index : Nat} {a0 : Nat} {l1 : Int64} {l3 : Int64} {f : Int32 → vS → Option ρ} (h : bnd (F_X2_times N a0 l1 l3 s) f = some res) (hlink : Cond.methodLink own index yX2_times ∈ TT) (hR : 1 + 1 ≤ fr ∧ 8 + (19 + 11) + 30 ≤ lo) (hls : ls.size = nL) (hr : (rest.map fun v => v.category).sum ≤ 8) (hdg : decode cc pc = .ok (.invokevirtual index, 3)) (kk : ∀ r s', f r s' = some res → V X (cc, own, nL, fr, lo, ini) E sF s' (G0 X (pc + 3) ls (.int r :: rest))) : V X (cc, own, nL, fr, lo, ini) E sF s (G0 X pc ls (.long l3 :: .long l1 :: .ref (xb X + a0) :: rest)) := by
  obtain ⟨r, s', e, h⟩ := bnd_some h
  exact v_callV (b := a0) (ci := 2) (As := [.long l1, .long l3]) (rest := rest) (c_X2_times X N a0 l1 l3 s s' r e).2 (c_X2_times (l := xl X) (D := xD X) (ka := xka X) X N a0 l1 l3 s s' r e).1 rfl vl_X2_times qi_X2_times qe_X2_times hlink hR rfl rfl hls hr hdg (kk r s' h)
theorem vl_X1_sizeOfBoth : vCl yX1_sizeOfBoth cX1_sizeOfBoth 3 (some .int) 2 := ⟨qy_X1_sizeOfBoth, qjX1, by decide +kernel, by decide +kernel, by decide +kernel⟩
set_option maxHeartbeats 4000000 in
set_option maxRecDepth 100000 in
theorem c_X1_sizeOfBoth {l : Launch} {D : va_G} {ka : Nat → ClassId} (X0 : VX) (N : Nat) (a0 : Nat) (l1 : Int32) (l2 : Int32) (s sF : vS) (r : Int32) (h : F_X1_sizeOfBoth N a0 l1 l2 s = some (r, sF)) : isO s a0 1 = true ∧ vMet l D ka (xb X0) yX1_sizeOfBoth cX1_sizeOfBoth 3 (some .int) 0 0 [.ref (xb X0 + a0), .int l1, .int l2] s sF (some (.int r)) := by
  unfold F_X1_sizeOfBoth at h
  unfold rcv at h
  obtain ⟨hO, h⟩ := v_chk h
  refine ⟨hO, vMet.of (ini := false) X0 (plainFor_of_name (by decide +kernel)) (Nat.le_of_ble_eq_true rfl) (fun h => by cases h) (fun X ls hb hl => ?_) rfl⟩
  show V X (cX1_sizeOfBoth, RX1, 3, 0, 0, false) (vRet sF (some (.int r)) (some .int)) sF s (G0 X 0 ls [])
  rw [← hb] at hl
  have hl : lv_has ls 3 [(0, .ref (xb X + a0)), (1, .int l1), (2, .int l2)] := hl
  refine v_aload_n dX1_sizeOfBoth_0 rfl (lv_at hl 0 rfl) ?_
  refine v_getR 1 3 h (by decide) rfl qfX1_41 dX1_sizeOfBoth_1 (fun r1 h => ?_)
  refine v_iload_n dX1_sizeOfBoth_4 rfl (lv_at hl 1 rfl) ?_
  refine v_iald dX1_sizeOfBoth_5 h (fun v2 h => ?_)
  refine v_aload_n dX1_sizeOfBoth_6 rfl (lv_at hl 0 rfl) ?_
  refine v_getR 1 3 h (by decide) rfl qfX1_41 dX1_sizeOfBoth_7 (fun r3 h => ?_)
  refine v_iload_n dX1_sizeOfBoth_10 rfl (lv_at hl 2 rfl) ?_
  refine v_iald dX1_sizeOfBoth_11 h (fun v4 h => ?_)
  refine v_iadd dX1_sizeOfBoth_12 ?_
  refine v_aload_n dX1_sizeOfBoth_13 rfl (lv_at hl 0 rfl) ?_
  refine v_getI 1 1 h (by decide) (Or.inl rfl) qfX1_38 dX1_sizeOfBoth_14 (fun v5 h => ?_)
  refine v_isub dX1_sizeOfBoth_17 ?_
  exact v_iret dX1_sizeOfBoth_18 h
theorem k_X1_sizeOfBoth {X : VX} {cc : ByteArray} {own : String} {nL fr lo : Nat} {ini : Bool} {E : VX → Prop} {sF s : vS} {ρ : Type} {res : ρ} {pc : Nat} {ls : Array Slot} {rest : List Value} {N index : Nat} {a0 : Nat} {l1 : Int32} {l2 : Int32} {f : Int32 → vS → Option ρ} (h : bnd (F_X1_sizeOfBoth N a0 l1 l2 s) f = some res) (hlink : Cond.methodLink own index yX1_sizeOfBoth ∈ TT) (hR : 0 + 1 ≤ fr ∧ 8 + (3 + 11) + 0 ≤ lo) (hls : ls.size = nL) (hr : (rest.map fun v => v.category).sum ≤ 8) (hdg : decode cc pc = .ok (.invokevirtual index, 3)) (kk : ∀ r s', f r s' = some res → V X (cc, own, nL, fr, lo, ini) E sF s' (G0 X (pc + 3) ls (.int r :: rest))) : V X (cc, own, nL, fr, lo, ini) E sF s (G0 X pc ls (.int l2 :: .int l1 :: .ref (xb X + a0) :: rest)) := by
  obtain ⟨r, s', e, h⟩ := bnd_some h
  exact v_callV (b := a0) (ci := 1) (As := [.int l1, .int l2]) (rest := rest) (c_X1_sizeOfBoth X N a0 l1 l2 s s' r e).2 (c_X1_sizeOfBoth (l := xl X) (D := xD X) (ka := xka X) X N a0 l1 l2 s s' r e).1 rfl vl_X1_sizeOfBoth qi_X1_sizeOfBoth qe_X1_sizeOfBoth hlink hR rfl rfl hls hr hdg (kk r s' h)
set_option maxHeartbeats 4000000 in
set_option maxRecDepth 100000 in
theorem L_X1_jointsIn_83 {X : VX} {sF : vS} {r : Int32} (N : Nat) (k24 : Nat → Int32 → Int32 → Nat → Int32 → Int32 → Int32 → vS → Option (Int32 × vS)) (hk24 : ∀ (a0 : Nat) (l1 : Int32) (l2 : Int32) (a4 : Nat) (l5 : Int32) (l6 : Int32) (l7 : Int32) (s : vS) (ls : Array Slot), lv_has ls 9 [(0, .ref (xb X + a0)), (1, .int l1), (2, .int l2), (4, .ref (xb X + a4)), (5, .int l5), (6, .int l6), (7, .int l7)] → k24 a0 l1 l2 a4 l5 l6 l7 s = some (r, sF) → V X (cX1_jointsIn, RX1, 9, 0, 0, false) (vRet sF (some (.int r)) (some .int)) sF s (G0 X 24 ls [])) (a0 : Nat) (l1 : Int32) (l2 : Int32) (a4 : Nat) (l5 : Int32) (l6 : Int32) (l7 : Int32) (s : vS) (ls : Array Slot) (hl : lv_has ls 9 [(0, .ref (xb X + a0)), (1, .int l1), (2, .int l2), (4, .ref (xb X + a4)), (5, .int l5), (6, .int l6), (7, .int l7)]) (h : J_X1_jointsIn_83 N k24 a0 l1 l2 a4 l5 l6 l7 s = some (r, sF)) : V X (cX1_jointsIn, RX1, 9, 0, 0, false) (vRet sF (some (.int r)) (some .int)) sF s (G0 X 83 ls []) := by
  unfold J_X1_jointsIn_83 at h
  refine v_inc (fun z => [(7, .int z), (0, .ref (xb X + a0)), (1, .int l1), (2, .int l2), (4, .ref (xb X + a4)), (5, .int l5), (6, .int l6)]) dX1_jointsIn_83 h hl (k := 6) rfl (by rfl) (by decide) (fun _ => rfl) (fun l7_10 ls hl h => ?_)
  refine v_goto 24 dX1_jointsIn_86 (by decide) ?_
  exact hk24 a0 l1 l2 a4 l5 l6 l7_10 s ls (lv_sub hl [1, 2, 3, 4, 5, 6, 0] rfl) h
