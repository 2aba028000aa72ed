theorem k_X9_ones {X : VX} {cc : ByteArray} {own : String} {nL fr lo : Nat} {ini : Bool} {E : VX → Prop} {sF s : vS} {ρ : Type} {res : ρ} {pc : Nat} {ls : Array Slot} {rest : List Value} {N index : Nat} {l0 : Int32} {f : Int32 → vS → Option ρ} (h : bnd (F_X9_ones N l0 s) f = some res) (hlink : Cond.methodLink own index yX9_ones ∈ TT) (hR : 0 + 1 ≤ fr ∧ 8 + (3 + 11) + 0 ≤ lo) (hls : ls.size = nL) (hr : (rest.map fun v => v.category).sum ≤ 8) (hdg : decode cc pc = .ok (.invokestatic index, 3)) (kk : ∀ r s', f r s' = some res → V X (cc, own, nL, fr, lo, ini) E sF s' (G0 X (pc + 3) ls (.int r :: rest))) : V X (cc, own, nL, fr, lo, ini) E sF s (G0 X pc ls (.int l0 :: rest)) := by
  obtain ⟨r, s', e, h⟩ := bnd_some h
  exact v_callS (As := [.int l0]) (rest := rest) (c_X9_ones X N l0 s s' r e) vl_X9_ones qs_X9_ones hlink hR rfl rfl hls hr hdg (kk r s' h)
set_option maxHeartbeats 4000000 in
set_option maxRecDepth 100000 in
theorem L_X9_lookInto_63 {X : VX} {sF : vS} {r : Unit} (N : Nat) (k7 : Nat → Int32 → Int32 → Int32 → vS → Option (Unit × vS)) (k22 : Nat → Int32 → Int32 → Int32 → Int32 → vS → Option (Unit × vS)) (hk7 : ∀ (a0 : Nat) (l1 : Int32) (l2 : Int32) (l3 : Int32) (s : vS) (ls : Array Slot), lv_has ls 5 [(0, .ref (xb X + a0)), (1, .int l1), (2, .int l2), (3, .int l3)] → k7 a0 l1 l2 l3 s = some (r, sF) → V X (cX9_lookInto, RX9, 5, 1, 21, false) (vRet sF none none) sF s (G0 X 7 ls [])) (hk22 : ∀ (a0 : Nat) (l1 : Int32) (l2 : Int32) (l3 : Int32) (l4 : Int32) (s : vS) (ls : Array Slot), lv_has ls 5 [(0, .ref (xb X + a0)), (1, .int l1), (2, .int l2), (3, .int l3), (4, .int l4)] → k22 a0 l1 l2 l3 l4 s = some (r, sF) → V X (cX9_lookInto, RX9, 5, 1, 21, false) (vRet sF none none) sF s (G0 X 22 ls [])) (a0 : Nat) (l1 : Int32) (l2 : Int32) (l3 : Int32) (l4 : Int32) (k0 : Nat) (k1 : Int32) (k2 : Int32) (k3 : Int32) (s : vS) (ls : Array Slot) (hl : lv_has ls 5 [(0, .ref (xb X + a0)), (1, .int l1), (2, .int l2), (3, .int l3), (4, .int l4)]) (h : J_X9_lookInto_63 N k7 k22 a0 l1 l2 l3 l4 k0 k1 k2 k3 s = some (r, sF)) : V X (cX9_lookInto, RX9, 5, 1, 21, false) (vRet sF none none) sF s (G0 X 63 ls [.int k3, .int k2, .int k1, .ref (xb X + k0)]) := by
  unfold J_X9_lookInto_63 at h
  refine v_ior dX9_lookInto_63 ?_
  refine v_iast dX9_lookInto_64 h (fun s h => ?_)
  refine v_inc (fun z => [(4, .int z), (0, .ref (xb X + a0)), (1, .int l1), (2, .int l2), (3, .int l3)]) dX9_lookInto_65 h hl (k := 4) rfl (by rfl) (by decide) (fun _ => rfl) (fun l4_6 ls hl h => ?_)
  refine v_goto 22 dX9_lookInto_68 (by decide) ?_
  exact hk22 a0 l1 l2 l3 l4_6 s ls (lv_sub hl [1, 2, 3, 4, 0] rfl) h
set_option maxHeartbeats 4000000 in
set_option maxRecDepth 100000 in
theorem L_X9_lookInto_62 {X : VX} {sF : vS} {r : Unit} (N : Nat) (k7 : Nat → Int32 → Int32 → Int32 → vS → Option (Unit × vS)) (k22 : Nat → Int32 → Int32 → Int32 → Int32 → vS → Option (Unit × vS)) (hk7 : ∀ (a0 : Nat) (l1 : Int32) (l2 : Int32) (l3 : Int32) (s : vS) (ls : Array Slot), lv_has ls 5 [(0, .ref (xb X + a0)), (1, .int l1), (2, .int l2), (3, .int l3)] → k7 a0 l1 l2 l3 s = some (r, sF) → V X (cX9_lookInto, RX9, 5, 1, 21, false) (vRet sF none none) sF s (G0 X 7 ls [])) (hk22 : ∀ (a0 : Nat) (l1 : Int32) (l2 : Int32) (l3 : Int32) (l4 : Int32) (s : vS) (ls : Array Slot), lv_has ls 5 [(0, .ref (xb X + a0)), (1, .int l1), (2, .int l2), (3, .int l3), (4, .int l4)] → k22 a0 l1 l2 l3 l4 s = some (r, sF) → V X (cX9_lookInto, RX9, 5, 1, 21, false) (vRet sF none none) sF s (G0 X 22 ls [])) (a0 : Nat) (l1 : Int32) (l2 : Int32) (l3 : Int32) (l4 : Int32) (k0 : Nat) (k1 : Int32) (k2 : Int32) (s : vS) (ls : Array Slot) (hl : lv_has ls 5 [(0, .ref (xb X + a0)), (1, .int l1), (2, .int l2), (3, .int l3), (4, .int l4)]) (h : J_X9_lookInto_62 N k7 k22 a0 l1 l2 l3 l4 k0 k1 k2 s = some (r, sF)) : V X (cX9_lookInto, RX9, 5, 1, 21, false) (vRet sF none none) sF s (G0 X 62 ls [.int k2, .int k1, .ref (xb X + k0)]) := by
  unfold J_X9_lookInto_62 at h
  refine v_iconst (0 : Int32) dX9_lookInto_62 (by decide) ?_
  exact L_X9_lookInto_63 N k7 k22 hk7 hk22 a0 l1 l2 l3 l4 k0 k1 k2 (0 : Int32) s ls (lv_sub hl [0, 1, 2, 3, 4] rfl) h
set_option maxHeartbeats 4000000 in
set_option maxRecDepth 100000 in
theorem L_X9_lookInto_22 {X : VX} {sF : vS} {r : Unit} (N : Nat) (k7 : Nat → Int32 → Int32 → Int32 → vS → Option (Unit × vS)) (hk7 : ∀ (a0 : Nat) (l1 : Int32) (l2 : Int32) (l3 : Int32) (s : vS) (ls : Array Slot), lv_has ls 5 [(0, .ref (xb X + a0)), (1, .int l1), (2, .int l2), (3, .int l3)] → k7 a0 l1 l2 l3 s = some (r, sF) → V X (cX9_lookInto, RX9, 5, 1, 21, false) (vRet sF none none) sF s (G0 X 7 ls [])) : ∀ (n : Nat) (a0 : Nat) (l1 : Int32) (l2 : Int32) (l3 : Int32) (l4 : Int32) (s : vS) (ls : Array Slot), lv_has ls 5 [(0, .ref (xb X + a0)), (1, .int l1), (2, .int l2), (3, .int l3), (4, .int l4)] → H_X9_lookInto_22 N k7 n a0 l1 l2 l3 l4 s = some (r, sF) → V X (cX9_lookInto, RX9, 5, 1, 21, false) (vRet sF none none) sF s (G0 X 22 ls []) := by
  intro n
  induction n with
  | zero => intro a0 l1 l2 l3 l4 s ls hl h; cases h
  | succ n ih =>
   intro a0 l1 l2 l3 l4 s ls hl h
   unfold H_X9_lookInto_22 at h
   refine v_iload dX9_lookInto_22 (lv_at hl 4 rfl) ?_
   refine v_iload_n dX9_lookInto_24 rfl (lv_at hl 1 rfl) ?_
   refine v_icmp_ge 71 dX9_lookInto_25 (by decide) h (fun h => ?_) (fun h => ?_)
   · refine v_inc (fun z => [(3, .int z), (0, .ref (xb X + a0)), (1, .int l1), (2, .int l2), (4, .int l4)]) dX9_lookInto_71 h hl (k := 3) rfl (by rfl) (by decide) (fun _ => rfl) (fun l3_2 ls hl h => ?_)
     refine v_goto 7 dX9_lookInto_74 (by decide) ?_
     exact hk7 a0 l1 l2 l3_2 s ls (lv_sub hl [1, 2, 3, 0] rfl) h
   · refine v_aload_n dX9_lookInto_28 rfl (lv_at hl 0 rfl) ?_
     refine v_getR 9 8 h (by decide) rfl qfX9_49 dX9_lookInto_29 (fun r3 h => ?_)
     refine v_iload_n dX9_lookInto_32 rfl (lv_at hl 3 rfl) ?_
     refine v_dup2 dX9_lookInto_33 rfl rfl ?_
     refine v_iald dX9_lookInto_34 h (fun v4 h => ?_)
     refine v_iload_n dX9_lookInto_35 rfl (lv_at hl 3 rfl) ?_
     refine v_iload dX9_lookInto_36 (lv_at hl 4 rfl) ?_
     refine v_icmp_eq 62 dX9_lookInto_38 (by decide) h (fun h => ?_) (fun h => ?_)
     · exact L_X9_lookInto_62 N k7 (H_X9_lookInto_22 N k7 n) hk7 ih a0 l1 l2 l3 l4 r3 l3 v4 s ls (lv_sub hl [0, 1, 2, 3, 4] rfl) h
     · refine v_iload_n dX9_lookInto_41 rfl (lv_at hl 2 rfl) ?_
       refine v_iload_n dX9_lookInto_42 rfl (lv_at hl 3 rfl) ?_
       refine v_iload dX9_lookInto_43 (lv_at hl 4 rfl) ?_
       refine k_X9_bit h qmX9_9 (by decide) hl.1 (Nat.le_of_ble_eq_true rfl) dX9_lookInto_45 (fun v5 s h => ?_)
       refine v_ishr dX9_lookInto_48 ?_
       refine v_iconst (1 : Int32) dX9_lookInto_49 (by decide) ?_
       refine v_iand dX9_lookInto_50 ?_
       refine v_iconst (1 : Int32) dX9_lookInto_51 (by decide) ?_
       refine v_icmp_ne 62 dX9_lookInto_52 (by decide) h (fun h => ?_) (fun h => ?_)
       · exact L_X9_lookInto_62 N k7 (H_X9_lookInto_22 N k7 n) hk7 ih a0 l1 l2 l3 l4 r3 l3 v4 s ls (lv_sub hl [0, 1, 2, 3, 4] rfl) h
       · refine v_iconst (1 : Int32) dX9_lookInto_55 (by decide) ?_
         refine v_iload dX9_lookInto_56 (lv_at hl 4 rfl) ?_
         refine v_ishl dX9_lookInto_58 ?_
         refine v_goto 63 dX9_lookInto_59 (by decide) ?_
         exact L_X9_lookInto_63 N k7 (H_X9_lookInto_22 N k7 n) hk7 ih a0 l1 l2 l3 l4 r3 l3 v4 ((1 : Int32) <<< (l4 &&& 31)) s ls (lv_sub hl [0, 1, 2, 3, 4] rfl) h
set_option maxHeartbeats 4000000 in
set_option maxRecDepth 100000 in
theorem L_X9_lookInto_7 {X : VX} {sF : vS} {r : Unit} (N : Nat) : ∀ (n : Nat) (a0 : Nat) (l1 : Int32) (l2 : Int32) (l3 : Int32) (s : vS) (ls : Array Slot), lv_has ls 5 [(0, .ref (xb X + a0)), (1, .int l1), (2, .int l2), (3, .int l3)] → H_X9_lookInto_7 N n a0 l1 l2 l3 s = some (r, sF) → V X (cX9_lookInto, RX9, 5, 1, 21, false) (vRet sF none none) sF s (G0 X 7 ls []) := by
  intro n
  induction n with
  | zero => intro a0 l1 l2 l3 s ls hl h; cases h
  | succ n ih =>
   intro a0 l1 l2 l3 s ls hl h
   unfold H_X9_lookInto_7 at h
   refine v_iload_n dX9_lookInto_7 rfl (lv_at hl 3 rfl) ?_
   refine v_iload_n dX9_lookInto_8 rfl (lv_at hl 1 rfl) ?_
   refine v_icmp_ge 77 dX9_lookInto_9 (by decide) h (fun h => ?_) (fun h => ?_)
   · exact v_vret dX9_lookInto_77 h
   · refine v_aload_n dX9_lookInto_12 rfl (lv_at hl 0 rfl) ?_
     refine v_getR 9 8 h (by decide) rfl qfX9_49 dX9_lookInto_13 (fun r1 h => ?_)
     refine v_iload_n dX9_lookInto_16 rfl (lv_at hl 3 rfl) ?_
     refine v_iconst (0 : Int32) dX9_lookInto_17 (by decide) ?_
     refine v_iast dX9_lookInto_18 h (fun s h => ?_)
     refine v_iconst (0 : Int32) dX9_lookInto_19 (by decide) ?_
     refine v_istore [(4, .int (0 : Int32)), (0, .ref (xb X + a0)), (1, .int l1), (2, .int l2), (3, .int l3)] dX9_lookInto_20 hl (by decide) rfl (fun ls hl => ?_)
     exact L_X9_lookInto_22 N (H_X9_lookInto_7 N n) ih N a0 l1 l2 l3 (0 : Int32) s ls (lv_sub hl [1, 2, 3, 4, 0] rfl) h
theorem vl_X9_lookInto : vCl yX9_lookInto cX9_lookInto 5 none 2 := ⟨qy_X9_lookInto, qjX9, by decide +kernel, by decide +kernel, by decide +kernel⟩
set_option maxHeartbeats 4000000 in
set_option maxRecDepth 100000 in
theorem c_X9_lookInto {l : Launch} {D : va_G} {ka : Nat → ClassId} (X0 : VX) (N : Nat) (a0 : Nat) (l1 : Int32) (l2 : Int32) (s sF : vS) (r : Unit) (h : F_X9_lookInto N a0 l1 l2 s = some (r, sF)) : isO s a0 9 = true ∧ vMet l D ka (xb X0) yX9_lookInto cX9_lookInto 5 none 1 21 [.ref (xb X0 + a0), .int l1, .int l2] s sF none := by
  unfold F_X9_lookInto at h
  unfold rcv at h
  obtain ⟨hO, h⟩ := v_chk h
  refine ⟨hO, vMet.of (ini := false) X0 (plainFor_of_name (by decide +kernel)) (Nat.le_of_ble_eq_true rfl) (fun h => by cases h) (fun X ls hb hl => ?_) rfl⟩
  show V X (cX9_lookInto, RX9, 5, 1, 21, false) (vRet sF none none) sF s (G0 X 0 ls [])
  rw [← hb] at hl
  have hl : lv_has ls 5 [(0, .ref (xb X + a0)), (1, .int l1), (2, .int l2)] := hl
  refine v_aload_n dX9_lookInto_0 rfl (lv_at hl 0 rfl) ?_
  refine v_iload_n dX9_lookInto_1 rfl (lv_at hl 1 rfl) ?_
  refine v_putI 9 7 h (by decide) rfl (Or.inl rfl) qfX9_133 dX9_lookInto_2 (fun s h => ?_)
  refine v_iconst (0 : Int32) dX9_lookInto_5 (by decide) ?_
  refine v_istore_n [(3, .int (0 : Int32)), (0, .ref (xb X + a0)), (1, .int l1), (2, .int l2)] dX9_lookInto_6 rfl hl (by decide) rfl (fun ls hl => ?_)
  exact L_X9_lookInto_7 N N a0 l1 l2 (0 : Int32) s ls (lv_sub hl [1, 2, 3, 0] rfl) h
theorem k_X9_lookInto {X : VX} {cc : ByteArray} {own : String} {nL fr lo : Nat} {ini : Bool} {E : VX → Prop} {sF s : vS} {ρ : Type} {res : ρ} {pc : Nat} {ls : Array Slot} {rest : List Value} {N index : Nat} {a0 : Nat} {l1 : Int32} {l2 : Int32} {f : Unit → vS → Option ρ} (h : bnd (F_X9_lookInto N a0 l1 l2 s) f = some res) (hlink : Cond.methodLink own index yX9_lookInto ∈ TT) (hR : 1 + 1 ≤ fr ∧ 8 + (5 + 11) + 21 ≤ lo) (hls : ls.size = nL) (hr : (rest.map fun v => v.category).sum ≤ 8) (hdg : decode cc pc = .ok (.invokevirtual index, 3)) (kk : ∀ r s', f r s' = some res → V X (cc, own, nL, fr, lo, ini) E sF s' (G0 X (pc + 3) ls (rest))) : V X (cc, own, nL, fr, lo, ini) E sF s (G0 X pc ls (.int l2 :: .int l1 :: .ref (xb X + a0) :: rest)) := by
  obtain ⟨r, s', e, h⟩ := bnd_some h
  exact v_callV (b := a0) (ci := 9) (As := [.int l1, .int l2]) (rest := rest) (c_X9_lookInto X N a0 l1 l2 s s' r e).2 (c_X9_lookInto (l := xl X) (D := xD X) (ka := xka X) X N a0 l1 l2 s s' r e).1 rfl vl_X9_lookInto qi_X9_lookInto qe_X9_lookInto hlink hR rfl rfl hls hr hdg (kk r s' h)
set_option maxHeartbeats 4000000 in
set_option maxRecDepth 100000 in
theorem L_X9_lookInHand_10 {X : VX} {sF : vS} {r : Unit} (N : Nat) : ∀ (n : Nat) (a0 : Nat) (l1 : Int32) (s : vS) (ls : Array Slot), lv_has ls 2 [(0, .ref (xb X + a0)), (1, .int l1)] → H_X9_lookInHand_10 N n a0 l1 s = some (r, sF) → V X (cX9_lookInHand, RX9, 2, 0, 0, false) (vRet sF none none) sF s (G0 X 10 ls []) := by
  intro n
  induction n with
  | zero => intro a0 l1 s ls hl h; cases h
  | succ n ih =>
   intro a0 l1 s ls hl h
   unfold H_X9_lookInHand_10 at h
   refine v_iload_n dX9_lookInHand_10 rfl (lv_at hl 1 rfl) ?_
   refine v_aload_n dX9_lookInHand_11 rfl (lv_at hl 0 rfl) ?_
   refine v_getI 9 5 h (by decide) (Or.inl rfl) qfX9_137 dX9_lookInHand_12 (fun v2 h => ?_)
   refine v_icmp_ge 36 dX9_lookInHand_15 (by decide) h (fun h => ?_) (fun h => ?_)
   · exact v_vret dX9_lookInHand_36 h
   · refine v_aload_n dX9_lookInHand_18 rfl (lv_at hl 0 rfl) ?_
     refine v_getR 9 8 h (by decide) rfl qfX9_49 dX9_lookInHand_19 (fun r3 h => ?_)
     refine v_iload_n dX9_lookInHand_22 rfl (lv_at hl 1 rfl) ?_
     refine v_aload_n dX9_lookInHand_23 rfl (lv_at hl 0 rfl) ?_
     refine v_getR 9 6 h (by decide) rfl qfX9_46 dX9_lookInHand_24 (fun r4 h => ?_)
     refine v_iload_n dX9_lookInHand_27 rfl (lv_at hl 1 rfl) ?_
     refine v_iald dX9_lookInHand_28 h (fun v5 h => ?_)
     refine v_iast dX9_lookInHand_29 h (fun s h => ?_)
     refine v_inc (fun z => [(1, .int z), (0, .ref (xb X + a0))]) dX9_lookInHand_30 h hl (k := 1) rfl (by rfl) (by decide) (fun _ => rfl) (fun l1_6 ls hl h => ?_)
     refine v_goto 10 dX9_lookInHand_33 (by decide) ?_
     exact ih a0 l1_6 s ls (lv_sub hl [1, 0] rfl) h
theorem vl_X9_lookInHand : vCl yX9_lookInHand cX9_lookInHand 2 none 0 := ⟨qy_X9_lookInHand, qjX9, by decide +kernel, by decide +kernel, by decide +kernel⟩
set_option maxHeartbeats 4000000 in
set_option maxRecDepth 100000 in
theorem c_X9_lookInHand {l : Launch} {D : va_G} {ka : Nat → ClassId} (X0 : VX) (N : Nat) (a0 : Nat) (s sF : vS) (r : Unit) (h : F_X9_lookInHand N a0 s = some (r, sF)) : isO s a0 9 = true ∧ vMet l D ka (xb X0) yX9_lookInHand cX9_lookInHand 2 none 0 0 [.ref (xb X0 + a0)] s sF none := by
  unfold F_X9_lookInHand at h
  unfold rcv at h
  obtain ⟨hO, h⟩ := v_chk h
  refine ⟨hO, vMet.of (ini := false) X0 (plainFor_of_name (by decide +kernel)) (Nat.le_of_ble_eq_true rfl) (fun h => by cases h) (fun X ls hb hl => ?_) rfl⟩
  show V X (cX9_lookInHand, RX9, 2, 0, 0, false) (vRet sF none none) sF s (G0 X 0 ls [])
  rw [← hb] at hl
  have hl : lv_has ls 2 [(0, .ref (xb X + a0))] := hl
  refine v_aload_n dX9_lookInHand_0 rfl (lv_at hl 0 rfl) ?_
  refine v_aload_n dX9_lookInHand_1 rfl (lv_at hl 0 rfl) ?_
  refine v_getI 9 5 h (by decide) (Or.inl rfl) qfX9_137 dX9_lookInHand_2 (fun v1 h => ?_)
  refine v_putI 9 7 h (by decide) rfl (Or.inl rfl) qfX9_133 dX9_lookInHand_5 (fun s h => ?_)
  refine v_iconst (0 : Int32) dX9_lookInHand_8 (by decide) ?_
  refine v_istore_n [(1, .int (0 : Int32)), (0, .ref (xb X + a0))] dX9_lookInHand_9 rfl hl (by decide) rfl (fun ls hl => ?_)
  exact L_X9_lookInHand_10 N N a0 (0 : Int32) s ls (lv_sub hl [1, 0] rfl) h
theorem k_X9_lookInHand {X : VX} {cc : ByteArray} {own : String} {nL fr lo : Nat} {ini : Bool} {E : VX → Prop} {sF s : vS} {ρ : Type} {res : ρ} {pc : Nat} {ls : Array Slot} {rest : List Value} {N index : Nat} {a0 : Nat} {f : Unit → vS → Option ρ} (h : bnd (F_X9_lookInHand N a0 s) f = some res) (hlink : Cond.methodLink own index yX9_lookInHand ∈ TT) (hR : 0 + 1 ≤ fr ∧ 8 + (2 + 11) + 0 ≤ lo) (hls : ls.size = nL) (hr : (rest.map fun v => v.category).sum ≤ 8) (hdg : decode cc pc = .ok (.invokevirtual index, 3)) (kk : ∀ r s', f r s' = some res → V X (cc, own, nL, fr, lo, ini) E sF s' (G0 X (pc + 3) ls (rest))) : V X (cc, own, nL, fr, lo, ini) E sF s (G0 X pc ls (.ref (xb X + a0) :: rest)) := by
  obtain ⟨r, s', e, h⟩ := bnd_some h
  exact v_callV (b := a0) (ci := 9) (As := []) (rest := rest) (c_X9_lookInHand X N a0 s s' r e).2 (c_X9_lookInHand (l := xl X) (D := xD X) (ka := xka X) X N a0 s s' r e).1 rfl vl_X9_lookInHand qi_X9_lookInHand qe_X9_lookInHand hlink hR rfl rfl hls hr hdg (kk r s' h)
set_option maxHeartbeats 4000000 in
set_option maxRecDepth 100000 in
theorem L_X9_codeOn_123 {X : VX} {sF : vS} {r : Int32} (N : Nat) (k66 : Nat → Int32 → Int32 → Int32 → vS → Option (Int32 × vS)) (k75 : Nat → Int32 → Int32 → Int32 → Int32 → vS → Option (Int32 × vS)) (hk66 : ∀ (a0 : Nat) (l3 : Int32) (l4 : Int32) (l5 : Int32) (s : vS) (ls : Array Slot), lv_has ls 7 [(0, .ref (xb X + a0)), (3, .int l3), (4, .int l4), (5, .int l5)] → k66 a0 l3 l4 l5 s = some (r, sF) → V X (cX9_codeOn, RX9, 7, 1, 21, false) (vRet sF (some (.int r)) (some .int)) sF s (G0 X 66 ls [])) (hk75 : ∀ (a0 : Nat) (l3 : Int32) (l4 : Int32) (l5 : Int32) (l6 : Int32) (s : vS) (ls : Array Slot), lv_has ls 7 [(0, .ref (xb X + a0)), (3, .int l3), (4, .int l4), (5, .int l5), (6, .int l6)] → k75 a0 l3 l4 l5 l6 s = some (r, sF) → V X (cX9_codeOn, RX9, 7, 1, 21, false) (vRet sF (some (.int r)) (some .int)) sF s (G0 X 75 ls [])) (a0 : Nat) (l3 : Int32) (l5 : Int32) (l6 : Int32) (k0 : Int32) (k1 : Int32) (s : vS) (ls : Array Slot) (hl : lv_has ls 7 [(0, .ref (xb X + a0)), (3, .int l3), (5, .int l5), (6, .int l6)]) (h : J_X9_codeOn_123 N k66 k75 a0 l3 l5 l6 k0 k1 s = some (r, sF)) : V X (cX9_codeOn, RX9, 7, 1, 21, false) (vRet sF (some (.int r)) (some .int)) sF s (G0 X 123 ls [.int k1, .int k0]) := by
  unfold J_X9_codeOn_123 at h
  refine v_ior dX9_codeOn_123 ?_
  refine v_nmI h (fun l4_14 h => ?_)
  refine v_istore [(4, .int l4_14), (0, .ref (xb X + a0)), (3, .int l3), (5, .int l5), (6, .int l6)] dX9_codeOn_124 hl (by decide) rfl (fun ls hl => ?_)
  refine v_inc (fun z => [(6, .int z), (4, .int l4_14), (0, .ref (xb X + a0)), (3, .int l3), (5, .int l5)]) dX9_codeOn_126 h hl (k := 4) rfl (by rfl) (by decide) (fun _ => rfl) (fun l6_15 ls hl h => ?_)
  refine v_goto 75 dX9_codeOn_129 (by decide) ?_
  exact hk75 a0 l3 l4_14 l5 l6_15 s ls (lv_sub hl [2, 3, 1, 4, 0] rfl) h
set_option maxHeartbeats 4000000 in
set_option maxRecDepth 100000 in
theorem L_X9_codeOn_75 {X : VX} {sF : vS} {r : Int32} (N : Nat) (k66 : Nat → Int32 → Int32 → Int32 → vS → Option (Int32 × vS)) (hk66 : ∀ (a0 : Nat) (l3 : Int32) (l4 : Int32) (l5 : Int32) (s : vS) (ls : Array Slot), lv_has ls 7 [(0, .ref (xb X + a0)), (3, .int l3), (4, .int l4), (5, .int l5)] → k66 a0 l3 l4 l5 s = some (r, sF) → V X (cX9_codeOn, RX9, 7, 1, 21, false) (vRet sF (some (.int r)) (some .int)) sF s (G0 X 66 ls [])) : ∀ (n : Nat) (a0 : Nat) (l3 : Int32) (l4 : Int32) (l5 : Int32) (l6 : Int32) (s : vS) (ls : Array Slot), lv_has ls 7 [(0, .ref (xb X + a0)), (3, .int l3), (4, .int l4), (5, .int l5), (6, .int l6)] → H_X9_codeOn_75 N k66 n a0 l3 l4 l5 l6 s = some (r, sF) → V X (cX9_codeOn, RX9, 7, 1, 21, false) (vRet sF (some (.int r)) (some .int)) sF s (G0 X 75 ls []) := by
  intro n
  induction n with
  | zero => intro a0 l3 l4 l5 l6 s ls hl h; cases h
  | succ n ih =>
   intro a0 l3 l4 l5 l6 s ls hl h
   unfold H_X9_codeOn_75 at h
   refine v_iload dX9_codeOn_75 (lv_at hl 4 rfl) ?_
   refine v_iload dX9_codeOn_77 (lv_at hl 3 rfl) ?_
   refine v_icmp_ge 132 dX9_codeOn_79 (by decide) h (fun h => ?_) (fun h => ?_)
   · refine v_inc (fun z => [(5, .int z), (0, .ref (xb X + a0)), (3, .int l3), (4, .int l4), (6, .int l6)]) dX9_codeOn_132 h hl (k := 3) rfl (by rfl) (by decide) (fun _ => rfl) (fun l5_6 ls hl h => ?_)
     refine v_goto 66 dX9_codeOn_135 (by decide) ?_
     exact hk66 a0 l3 l4 l5_6 s ls (lv_sub hl [1, 2, 3, 0] rfl) h
   · refine v_iload dX9_codeOn_82 (lv_at hl 2 rfl) ?_
     refine v_aload_n dX9_codeOn_84 rfl (lv_at hl 0 rfl) ?_
     refine v_getR 9 8 h (by decide) rfl qfX9_49 dX9_codeOn_85 (fun r7 h => ?_)
     refine v_aload_n dX9_codeOn_88 rfl (lv_at hl 0 rfl) ?_
     refine v_getR 9 22 h (by decide) rfl qfX9_84 dX9_codeOn_89 (fun r8 h => ?_)
     refine v_iload dX9_codeOn_92 (lv_at hl 4 rfl) ?_
     refine v_iald dX9_codeOn_94 h (fun v9 h => ?_)
     refine v_iald dX9_codeOn_95 h (fun v10 h => ?_)
     refine v_aload_n dX9_codeOn_96 rfl (lv_at hl 0 rfl) ?_
     refine v_getR 9 22 h (by decide) rfl qfX9_84 dX9_codeOn_97 (fun r11 h => ?_)
     refine v_iload dX9_codeOn_100 (lv_at hl 3 rfl) ?_
     refine v_iald dX9_codeOn_102 h (fun v12 h => ?_)
     refine v_ishr dX9_codeOn_103 ?_
     refine v_iconst (1 : Int32) dX9_codeOn_104 (by decide) ?_
     refine v_iand dX9_codeOn_105 ?_
     refine v_iconst (1 : Int32) dX9_codeOn_106 (by decide) ?_
     refine v_icmp_ne 122 dX9_codeOn_107 (by decide) h (fun h => ?_) (fun h => ?_)
     · refine v_iconst (0 : Int32) dX9_codeOn_122 (by decide) ?_
       exact L_X9_codeOn_123 N k66 (H_X9_codeOn_75 N k66 n) hk66 ih a0 l3 l5 l6 l4 (0 : Int32) s ls (lv_sub hl [0, 1, 3, 4] rfl) h
     · refine v_iconst (1 : Int32) dX9_codeOn_110 (by decide) ?_
       refine v_iload dX9_codeOn_111 (lv_at hl 4 rfl) ?_
       refine v_iload dX9_codeOn_113 (lv_at hl 3 rfl) ?_
       refine k_X9_bit h qmX9_9 (by decide) hl.1 (Nat.le_of_ble_eq_true rfl) dX9_codeOn_115 (fun v13 s h => ?_)
       refine v_ishl dX9_codeOn_118 ?_
       refine v_goto 123 dX9_codeOn_119 (by decide) ?_
       exact L_X9_codeOn_123 N k66 (H_X9_codeOn_75 N k66 n) hk66 ih a0 l3 l5 l6 l4 ((1 : Int32) <<< (v13 &&& 31)) s ls (lv_sub hl [0, 1, 3, 4] rfl) h
set_option maxHeartbeats 4000000 in
set_option maxRecDepth 100000 in
theorem L_X9_codeOn_66 {X : VX} {sF : vS} {r : Int32} (N : Nat) : ∀ (n : Nat) (a0 : Nat) (l3 : Int32) (l4 : Int32) (l5 : Int32) (s : vS) (ls : Array Slot), lv_has ls 7 [(0, .ref (xb X + a0)), (3, .int l3), (4, .int l4), (5, .int l5)] → H_X9_codeOn_66 N n a0 l3 l4 l5 s = some (r, sF) → V X (cX9_codeOn, RX9, 7, 1, 21, false) (vRet sF (some (.int r)) (some .int)) sF s (G0 X 66 ls []) := by
  intro n
  induction n with
  | zero => intro a0 l3 l4 l5 s ls hl h; cases h
  | succ n ih =>
   intro a0 l3 l4 l5 s ls hl h
   unfold H_X9_codeOn_66 at h
   refine v_iload dX9_codeOn_66 (lv_at hl 3 rfl) ?_
   refine v_iload_n dX9_codeOn_68 rfl (lv_at hl 1 rfl) ?_
   refine v_icmp_ge 138 dX9_codeOn_69 (by decide) h (fun h => ?_) (fun h => ?_)
   · refine v_iload dX9_codeOn_138 (lv_at hl 2 rfl) ?_
     exact v_iret dX9_codeOn_140 h
   · refine v_iconst (0 : Int32) dX9_codeOn_72 (by decide) ?_
     refine v_istore [(6, .int (0 : Int32)), (0, .ref (xb X + a0)), (3, .int l3), (4, .int l4), (5, .int l5)] dX9_codeOn_73 hl (by decide) rfl (fun ls hl => ?_)
     exact L_X9_codeOn_75 N (H_X9_codeOn_66 N n) ih N a0 l3 l4 l5 (0 : Int32) s ls (lv_sub hl [1, 2, 3, 4, 0] rfl) h
set_option maxHeartbeats 4000000 in
set_option maxRecDepth 100000 in
theorem L_X9_codeOn_54 {X : VX} {sF : vS} {r : Int32} (N : Nat) (k18 : Nat → Int32 → Int32 → Int32 → Int32 → vS → Option (Int32 × vS)) (hk18 : ∀ (a0 : Nat) (l1 : Int32) (l2 : Int32) (l3 : Int32) (l4 : Int32) (s : vS) (ls : Array Slot), lv_has ls 7 [(0, .ref (xb X + a0)), (1, .int l1), (2, .int l2), (3, .int l3), (4, .int l4)] → k18 a0 l1 l2 l3 l4 s = some (r, sF) → V X (cX9_codeOn, RX9, 7, 1, 21, false) (vRet sF (some (.int r)) (some .int)) sF s (G0 X 18 ls [])) (a0 : Nat) (l1 : Int32) (l2 : Int32) (l3 : Int32) (l4 : Int32) (s : vS) (ls : Array Slot) (hl : lv_has ls 7 [(0, .ref (xb X + a0)), (1, .int l1), (2, .int l2), (3, .int l3), (4, .int l4)]) (h : J_X9_codeOn_54 N k18 a0 l1 l2 l3 l4 s = some (r, sF)) : V X (cX9_codeOn, RX9, 7, 1, 21, false) (vRet sF (some (.int r)) (some .int)) sF s (G0 X 54 ls []) := by
  unfold J_X9_codeOn_54 at h
  refine v_inc (fun z => [(4, .int z), (0, .ref (xb X + a0)), (1, .int l1), (2, .int l2), (3, .int l3)]) dX9_codeOn_54 h hl (k := 4) rfl (by rfl) (by decide) (fun _ => rfl) (fun l4_5 ls hl h => ?_)
  refine v_goto 18 dX9_codeOn_57 (by decide) ?_
  exact hk18 a0 l1 l2 l3 l4_5 s ls (lv_sub hl [1, 2, 3, 4, 0] rfl) h
set_option maxHeartbeats 4000000 in
set_option maxRecDepth 100000 in
theorem L_X9_codeOn_18 {X : VX} {sF : vS} {r : Int32} (N : Nat) : ∀ (n : Nat) (a0 : Nat) (l1 : Int32) (l2 : Int32) (l3 : Int32) (l4 : Int32) (s : vS) (ls : Array Slot), lv_has ls 7 [(0, .ref (xb X + a0)), (1, .int l1), (2, .int l2), (3, .int l3), (4, .int l4)] → H_X9_codeOn_18 N n a0 l1 l2 l3 l4 s = some (r, sF) → V X (cX9_codeOn, RX9, 7, 1, 21, false) (vRet sF (some (.int r)) (some .int)) sF s (G0 X 18 ls []) := by
  intro n
  induction n with
  | zero => intro a0 l1 l2 l3 l4 s ls hl h; cases h
  | succ n ih =>
   intro a0 l1 l2 l3 l4 s ls hl h
   unfold H_X9_codeOn_18 at h
   refine v_iload dX9_codeOn_18 (lv_at hl 4 rfl) ?_
   refine v_aload_n dX9_codeOn_20 rfl (lv_at hl 0 rfl) ?_
   refine v_getI 9 7 h (by decide) (Or.inl rfl) qfX9_133 dX9_codeOn_21 (fun v2 h => ?_)
   refine v_icmp_ge 60 dX9_codeOn_24 (by decide) h (fun h => ?_) (fun h => ?_)
   · refine v_iconst (0 : Int32) dX9_codeOn_60 (by decide) ?_
     refine v_istore [(4, .int (0 : Int32)), (0, .ref (xb X + a0)), (1, .int l1), (2, .int l2), (3, .int l3)] dX9_codeOn_61 hl (by decide) rfl (fun ls hl => ?_)
     refine v_iconst (1 : Int32) dX9_codeOn_63 (by decide) ?_
     refine v_istore [(5, .int (1 : Int32)), (4, .int (0 : Int32)), (0, .ref (xb X + a0)), (1, .int l1), (2, .int l2), (3, .int l3)] dX9_codeOn_64 hl (by decide) rfl (fun ls hl => ?_)
     exact L_X9_codeOn_66 N N a0 l3 (0 : Int32) (1 : Int32) s ls (lv_sub hl [2, 5, 1, 0] rfl) h
   · refine v_iload dX9_codeOn_27 (lv_at hl 4 rfl) ?_
     refine v_iload_n dX9_codeOn_29 rfl (lv_at hl 2 rfl) ?_
     refine v_icmp_eq 54 dX9_codeOn_30 (by decide) h (fun h => ?_) (fun h => ?_)
     · exact L_X9_codeOn_54 N (H_X9_codeOn_18 N n) ih a0 l1 l2 l3 l4 s ls (lv_sub hl [0, 1, 2, 3, 4] rfl) h
     · refine v_iload_n dX9_codeOn_33 rfl (lv_at hl 1 rfl) ?_
       refine v_iload dX9_codeOn_34 (lv_at hl 4 rfl) ?_
       refine v_ishr dX9_codeOn_36 ?_
       refine v_iconst (1 : Int32) dX9_codeOn_37 (by decide) ?_
       refine v_iand dX9_codeOn_38 ?_
       refine v_iconst (1 : Int32) dX9_codeOn_39 (by decide) ?_
       refine v_icmp_ne 54 dX9_codeOn_40 (by decide) h (fun h => ?_) (fun h => ?_)
       · exact L_X9_codeOn_54 N (H_X9_codeOn_18 N n) ih a0 l1 l2 l3 l4 s ls (lv_sub hl [0, 1, 2, 3, 4] rfl) h
       · refine v_aload_n dX9_codeOn_43 rfl (lv_at hl 0 rfl) ?_
         refine v_getR 9 22 h (by decide) rfl qfX9_84 dX9_codeOn_44 (fun r3 h => ?_)
         refine v_iload_n dX9_codeOn_47 rfl (lv_at hl 3 rfl) ?_
         refine v_iload dX9_codeOn_48 (lv_at hl 4 rfl) ?_
         refine v_iast dX9_codeOn_50 h (fun s h => ?_)
         refine v_inc (fun z => [(3, .int z), (0, .ref (xb X + a0)), (1, .int l1), (2, .int l2), (4, .int l4)]) dX9_codeOn_51 h hl (k := 3) rfl (by rfl) (by decide) (fun _ => rfl) (fun l3_4 ls hl h => ?_)
         exact L_X9_codeOn_54 N (H_X9_codeOn_18 N n) ih a0 l1 l2 l3_4 l4 s ls (lv_sub hl [1, 2, 3, 0, 4] rfl) h
set_option maxHeartbeats 4000000 in
set_option maxRecDepth 100000 in
theorem L_X9_codeOn_15 {X : VX} {sF : vS} {r : Int32} (N : Nat) (a0 : Nat) (l1 : Int32) (l2 : Int32) (l3 : Int32) (s : vS) (ls : Array Slot) (hl : lv_has ls 7 [(0, .ref (xb X + a0)), (1, .int l1), (2, .int l2), (3, .int l3)]) (h : J_X9_codeOn_15 N a0 l1 l2 l3 s = some (r, sF)) : V X (cX9_codeOn, RX9, 7, 1, 21, false) (vRet sF (some (.int r)) (some .int)) sF s (G0 X 15 ls []) := by
  unfold J_X9_codeOn_15 at h
  refine v_iconst (0 : Int32) dX9_codeOn_15 (by decide) ?_
  refine v_istore [(4, .int (0 : Int32)), (0, .ref (xb X + a0)), (1, .int l1), (2, .int l2), (3, .int l3)] dX9_codeOn_16 hl (by decide) rfl (fun ls hl => ?_)
  exact L_X9_codeOn_18 N N a0 l1 l2 l3 (0 : Int32) s ls (lv_sub hl [1, 2, 3, 4, 0] rfl) h
theorem vl_X9_codeOn : vCl yX9_codeOn cX9_codeOn 7 (some .int) 2 := ⟨qy_X9_codeOn, qjX9, by decide +kernel, by decide +kernel, by decide +kernel⟩
set_option maxHeartbeats 4000000 in
set_option maxRecDepth 100000 in
theorem c_X9_codeOn {l : Launch} {D : va_G} {ka : Nat → ClassId} (X0 : VX) (N : Nat) (a0 : Nat) (l1 : Int32) (l2 : Int32) (s sF : vS) (r : Int32) (h : F_X9_codeOn N a0 l1 l2 s = some (r, sF)) : isO s a0 9 = true ∧ vMet l D ka (xb X0) yX9_codeOn cX9_codeOn 7 (some .int) 1 21 [.ref (xb X0 + a0), .int l1, .int l2] s sF (some (.int r)) := by
  unfold F_X9_codeOn at h
  unfold rcv at h
  obtain ⟨hO, h⟩ := v_chk h
  refine ⟨hO, vMet.of (ini := false) X0 (plainFor_of_name (by decide +kernel)) (Nat.le_of_ble_eq_true rfl) (fun h => by cases h) (fun X ls hb hl => ?_) rfl⟩
  show V X (cX9_codeOn, RX9, 7, 1, 21, false) (vRet sF (some (.int r)) (some .int)) sF s (G0 X 0 ls [])
  rw [← hb] at hl
  have hl : lv_has ls 7 [(0, .ref (xb X + a0)), (1, .int l1), (2, .int l2)] := hl
  refine v_iconst (0 : Int32) dX9_codeOn_0 (by decide) ?_
  refine v_istore_n [(3, .int (0 : Int32)), (0, .ref (xb X + a0)), (1, .int l1), (2, .int l2)] dX9_codeOn_1 rfl hl (by decide) rfl (fun ls hl => ?_)
  refine v_iload_n dX9_codeOn_2 rfl (lv_at hl 3 rfl) ?_
  refine v_if_lt 15 dX9_codeOn_3 (by decide) h (fun h => ?_) (fun h => ?_)
  · exact L_X9_codeOn_15 N a0 l1 l2 (0 : Int32) s ls (lv_sub hl [1, 2, 3, 0] rfl) h
  · refine v_aload_n dX9_codeOn_6 rfl (lv_at hl 1 rfl) ?_
    refine v_getR 9 22 h (by decide) rfl qfX9_84 dX9_codeOn_7 (fun r1 h => ?_)
    refine v_iconst (0 : Int32) dX9_codeOn_10 (by decide) ?_
    refine v_iload_n dX9_codeOn_11 rfl (lv_at hl 3 rfl) ?_
    refine v_iast dX9_codeOn_12 h (fun s h => ?_)
    refine v_iconst (1 : Int32) dX9_codeOn_13 (by decide) ?_
    refine v_istore_n [(3, .int (1 : Int32)), (0, .ref (xb X + a0)), (1, .int l1), (2, .int l2)] dX9_codeOn_14 rfl hl (by decide) rfl (fun ls hl => ?_)
    exact L_X9_codeOn_15 N a0 l1 l2 (1 : Int32) s ls (lv_sub hl [1, 2, 3, 0] rfl) h
theorem k_X9_codeOn {X : VX} {cc : ByteArray} {own : String} {nL fr lo : Nat} {ini : Bool} {E : VX → Prop} {sF s : vS} {ρ : Type} {res : ρ} {pc : Nat} {ls : Array Slot} {rest : List Value} {N index : Nat} {a0 : Nat} {l1 : Int32} {l2 : Int32} {f : Int32 → vS → Option ρ} (h : bnd (F_X9_codeOn N a0 l1 l2 s) f = some res) (hlink : Cond.methodLink own index yX9_codeOn ∈ TT) (hR : 1 + 1 ≤ fr ∧ 8 + (7 + 11) + 21 ≤ lo) (hls : ls.size = nL) (hr : (rest.map fun v => v.category).sum ≤ 8) (hdg : decode cc pc = .ok (.invokevirtual index, 3)) (kk : ∀ r s', f r s' = some res → V X (cc, own, nL, fr, lo, ini) E sF s' (G0 X (pc + 3) ls (.int r :: rest))) : V X (cc, own, nL, fr, lo, ini) E sF s (G0 X pc ls (.int l2 :: .int l1 :: .ref (xb X + a0) :: rest)) := by
  obtain ⟨r, s', e, h⟩ := bnd_some h
  exact v_callV (b := a0) (ci := 9) (As := [.int l1, .int l2]) (rest := rest) (c_X9_codeOn X N a0 l1 l2 s s' r e).2 (c_X9_codeOn (l := xl X) (D := xD X) (ka := xka X) X N a0 l1 l2 s s' r e).1 rfl vl_X9_codeOn qi_X9_codeOn qe_X9_codeOn hlink hR rfl rfl hls hr hdg (kk r s' h)
set_option maxHeartbeats 4000000 in
set_option maxRecDepth 100000 in
theorem L_X9_numberOn_34 {X : VX} {sF : vS} {r : Int32} (N : Nat) (k0 : Int32) (s : vS) (ls : Array Slot) (hl : lv_has ls 4 []) (h : J_X9_numberOn_34 N k0 s = some (r, sF)) : V X (cX9_numberOn, RX9, 4, 2, 47, false) (vRet sF (some (.int r)) (some .int)) sF s (G0 X 34 ls [.int k0]) := by
  unfold J_X9_numberOn_34 at h
  exact v_iret dX9_numberOn_34 h
theorem vl_X9_numberOn : vCl yX9_numberOn cX9_numberOn 4 (some .int) 2 := ⟨qy_X9_numberOn, qjX9, by decide +kernel, by decide +kernel, by decide +kernel⟩
set_option maxHeartbeats 4000000 in
set_option maxRecDepth 100000 in
theorem c_X9_numberOn {l : Launch} {D : va_G} {ka : Nat → ClassId} (X0 : VX) (N : Nat) (a0 : Nat) (l1 : Int32) (l2 : Int32) (s sF : vS) (r : Int32) (h : F_X9_numberOn N a0 l1 l2 s = some (r, sF)) : isO s a0 9 = true ∧ vMet l D ka (xb X0) yX9_numberOn cX9_numberOn 4 (some .int) 2 47 [.ref (xb X0 + a0), .int l1, .int l2] s sF (some (.int r)) := by
  unfold F_X9_numberOn at h
  unfold rcv at h
  obtain ⟨hO, h⟩ := v_chk h
  refine ⟨hO, vMet.of (ini := false) X0 (plainFor_of_name (by decide +kernel)) (Nat.le_of_ble_eq_true rfl) (fun h => by cases h) (fun X ls hb hl => ?_) rfl⟩
  show V X (cX9_numberOn, RX9, 4, 2, 47, false) (vRet sF (some (.int r)) (some .int)) sF s (G0 X 0 ls [])
  rw [← hb] at hl
  have hl : lv_has ls 4 [(0, .ref (xb X + a0)), (1, .int l1), (2, .int l2)] := hl
  refine v_bipush (64 : Int32) dX9_numberOn_0 (by decide) ?_
  refine v_iload_n dX9_numberOn_2 rfl (lv_at hl 1 rfl) ?_
  refine k_X9_ones h qmX9_140 (by decide) hl.1 (Nat.le_of_ble_eq_true rfl) dX9_numberOn_3 (fun v1 s h => ?_)
  refine v_imul dX9_numberOn_6 ?_
  refine v_aload_n dX9_numberOn_7 rfl (lv_at hl 0 rfl) ?_
  refine v_iload_n dX9_numberOn_8 rfl (lv_at hl 1 rfl) ?_
  refine v_iload_n dX9_numberOn_9 rfl (lv_at hl 2 rfl) ?_
  refine k_X9_codeOn h qmX9_143 (by decide) hl.1 (Nat.le_of_ble_eq_true rfl) dX9_numberOn_10 (fun v2 s h => ?_)
  refine v_iadd dX9_numberOn_13 ?_
  refine v_nmI h (fun l3_3 h => ?_)
  refine v_istore_n [(3, .int l3_3), (0, .ref (xb X + a0)), (1, .int l1), (2, .int l2)] dX9_numberOn_14 rfl hl (by decide) rfl (fun ls hl => ?_)
  refine v_iload_n dX9_numberOn_15 rfl (lv_at hl 3 rfl) ?_
  refine v_if_lt 28 dX9_numberOn_16 (by decide) h (fun h => ?_) (fun h => ?_)
  · refine v_aload_n dX9_numberOn_28 rfl (lv_at hl 1 rfl) ?_
    refine v_getR 9 2 h (by decide) rfl qfX9_34 dX9_numberOn_29 (fun r4 h => ?_)
    refine v_iload_n dX9_numberOn_32 rfl (lv_at hl 0 rfl) ?_
    refine v_iald dX9_numberOn_33 h (fun v5 h => ?_)
    exact L_X9_numberOn_34 N v5 s ls (lv_sub hl [] rfl) h
  · refine v_aload_n dX9_numberOn_19 rfl (lv_at hl 1 rfl) ?_
    refine v_getR 9 3 h (by decide) rfl qfX9_37 dX9_numberOn_20 (fun r6 h => ?_)
    refine v_iload_n dX9_numberOn_23 rfl (lv_at hl 0 rfl) ?_
    refine v_iald dX9_numberOn_24 h (fun v7 h => ?_)
    refine v_goto 34 dX9_numberOn_25 (by decide) ?_
    exact L_X9_numberOn_34 N v7 s ls (lv_sub hl [] rfl) h
theorem k_X9_numberOn {X : VX} {cc : ByteArray} {own : String} {nL fr lo : Nat} {ini : Bool} {E : VX → Prop} {sF s : vS} {ρ : Type} {res : ρ} {pc : Nat} {ls : Array Slot} {rest : List Value} {N index : Nat} {a0 : Nat} {l1 : Int32} {l2 : Int32} {f : Int32 → vS → Option ρ} (h : bnd (F_X9_numberOn N a0 l1 l2 s) f = some res) (hlink : Cond.methodLink own index yX9_numberOn ∈ TT) (hR : 2 + 1 ≤ fr ∧ 8 + (4 + 11) + 47 ≤ lo) (hls : ls.size = nL) (hr : (rest.map fun v => v.category).sum ≤ 8) (hdg : decode cc pc = .ok (.invokevirtual index, 3)) (kk : ∀ r s', f r s' = some res → V X (cc, own, nL, fr, lo, ini) E sF s' (G0 X (pc + 3) ls (.int r :: rest))) : V X (cc, own, nL, fr, lo, ini) E sF s (G0 X pc ls (.int l2 :: .int l1 :: .ref (xb X + a0) :: rest)) := by
  obtain ⟨r, s', e, h⟩ := bnd_some h
  exact v_callV (b := a0) (ci := 9) (As := [.int l1, .int l2]) (rest := rest) (c_X9_numberOn X N a0 l1 l2 s s' r e).2 (c_X9_numberOn (l := xl X) (D := xD X) (ka := xka X) X N a0 l1 l2 s s' r e).1 rfl vl_X9_numberOn qi_X9_numberOn qe_X9_numberOn hlink hR rfl rfl hls hr hdg (kk r s' h)
set_option maxHeartbeats 4000000 in
set_option maxRecDepth 100000 in
theorem L_X9_common_46 {X : VX} {sF : vS} {r : Int64} (N : Nat) (k0 : Int64) (s : vS) (ls : Array Slot) (hl : lv_has ls 10 []) (h : J_X9_common_46 N k0 s = some (r, sF)) : V X (cX9_common, RX9, 10, 0, 0, false) (vRet sF (some (.long r)) (some .long)) sF s (G0 X 46 ls [.long k0]) := by
  unfold J_X9_common_46 at h
  exact v_lret dX9_common_46 h
set_option maxHeartbeats 4000000 in
set_option maxRecDepth 100000 in
theorem L_X9_common_6 {X : VX} {sF : vS} {r : Int64} (N : Nat) : ∀ (n : Nat) (l4 : Int64) (l6 : Int64) (s : vS) (ls : Array Slot), lv_has ls 10 [(4, .long l4), (6, .long l6)] → H_X9_common_6 N n l4 l6 s = some (r, sF) → V X (cX9_common, RX9, 10, 0, 0, false) (vRet sF (some (.long r)) (some .long)) sF s (G0 X 6 ls []) := by
  intro n
  induction n with
  | zero => intro l4 l6 s ls hl h; cases h
  | succ n ih =>
   intro l4 l6 s ls hl h
   unfold H_X9_common_6 at h
   refine v_lload dX9_common_6 (lv_at hl 1 rfl) ?_
   refine v_lconst (0 : Int64) dX9_common_8 (by decide) ?_
   refine v_lcmp dX9_common_9 ?_
   refine v_if_eq 31 dX9_common_10 (by decide) h (fun h => ?_) (fun h => ?_)
   · refine v_lload dX9_common_31 (lv_at hl 0 rfl) ?_
     refine v_lconst (0 : Int64) dX9_common_33 (by decide) ?_
     refine v_lcmp dX9_common_34 ?_
     refine v_if_ge 44 dX9_common_35 (by decide) h (fun h => ?_) (fun h => ?_)
     · refine v_lload dX9_common_44 (lv_at hl 0 rfl) ?_
       exact L_X9_common_46 N l4 s ls (lv_sub hl [] rfl) h
     · refine v_lload dX9_common_38 (lv_at hl 0 rfl) ?_
       refine v_lneg dX9_common_40 ?_
       refine v_goto 46 dX9_common_41 (by decide) ?_
       exact L_X9_common_46 N (-l4) s ls (lv_sub hl [] rfl) h
   · refine v_lload dX9_common_13 (lv_at hl 0 rfl) ?_
     refine v_lload dX9_common_15 (lv_at hl 1 rfl) ?_
     refine v_lrem dX9_common_17 h (fun h => ?_)
     refine v_nmJ h (fun l8_1 h => ?_)
     refine v_lstore [(8, .long l8_1), (4, .long l4), (6, .long l6)] dX9_common_18 hl (by decide) rfl (fun ls hl => ?_)
     refine v_lload dX9_common_20 (lv_at hl 2 rfl) ?_
     refine v_lstore [(4, .long l6), (8, .long l8_1), (6, .long l6)] dX9_common_22 hl (by decide) rfl (fun ls hl => ?_)
     refine v_lload dX9_common_24 (lv_at hl 1 rfl) ?_
     refine v_lstore [(6, .long l8_1), (4, .long l6), (8, .long l8_1)] dX9_common_26 hl (by decide) rfl (fun ls hl => ?_)
     refine v_goto 6 dX9_common_28 (by decide) ?_
     exact ih l6 l8_1 s ls (lv_sub hl [1, 0] rfl) h
theorem vl_X9_common : vCl yX9_common cX9_common 10 (some .long) 2 := ⟨qy_X9_common, qjX9, by decide +kernel, by decide +kernel, by decide +kernel⟩
set_option maxHeartbeats 4000000 in
set_option maxRecDepth 100000 in
theorem c_X9_common {l : Launch} {D : va_G} {ka : Nat → ClassId} (X0 : VX) (N : Nat) (l0 : Int64) (l2 : Int64) (s sF : vS) (r : Int64) (h : F_X9_common N l0 l2 s = some (r, sF)) : vMet l D ka (xb X0) yX9_common cX9_common 10 (some .long) 0 0 [.long l0, .long l2] s sF (some (.long r)) := by
  unfold F_X9_common at h
  refine vMet.of (ini := false) X0 (plainFor_of_name (by decide +kernel)) (Nat.le_of_ble_eq_true rfl) (fun h => by cases h) (fun X ls hb hl => ?_) rfl
  show V X (cX9_common, RX9, 10, 0, 0, false) (vRet sF (some (.long r)) (some .long)) sF s (G0 X 0 ls [])
  have hl : lv_has ls 10 [(0, .long l0), (2, .long l2)] := hl
  refine v_lload_n dX9_common_0 rfl (lv_at hl 0 rfl) ?_
  refine v_lstore [(4, .long l0), (0, .long l0), (2, .long l2)] dX9_common_1 hl (by decide) rfl (fun ls hl => ?_)
  refine v_lload_n dX9_common_3 rfl (lv_at hl 2 rfl) ?_
  refine v_lstore [(6, .long l2), (4, .long l0), (0, .long l0), (2, .long l2)] dX9_common_4 hl (by decide) rfl (fun ls hl => ?_)
  exact L_X9_common_6 N N l0 l2 s ls (lv_sub hl [1, 0] rfl) h
theorem k_X9_common {X : VX} {cc : ByteArray} {own : String} {nL fr lo : Nat} {ini : Bool} {E : VX → Prop} {sF s : vS} {ρ : Type} {res : ρ} {pc : Nat} {ls : Array Slot} {rest : List Value} {N index : Nat} {l0 : Int64} {l2 : Int64} {f : Int64 → vS → Option ρ} (h : bnd (F_X9_common N l0 l2 s) f = some res) (hlink : Cond.methodLink own index yX9_common ∈ TT) (hR : 0 + 1 ≤ fr ∧ 8 + (10 + 11) + 0 ≤ lo) (hls : ls.size = nL) (hr : (rest.map fun v => v.category).sum ≤ 8) (hdg : decode cc pc = .ok (.invokestatic index, 3)) (kk : ∀ r s', f r s' = some res → V X (cc, own, nL, fr, lo, ini) E sF s' (G0 X (pc + 3) ls (.long r :: rest))) : V X (cc, own, nL, fr, lo, ini) E sF s (G0 X pc ls (.long l2 :: .long l0 :: rest)) := by
  obtain ⟨r, s', e, h⟩ := bnd_some h
  exact v_callS (As := [.long l0, .long l2]) (rest := rest) (c_X9_common X N l0 l2 s s' r e) vl_X9_common qs_X9_common hlink hR rfl rfl hls hr hdg (kk r s' h)
theorem vl_X9_lay : vCl yX9_lay cX9_lay 7 none 2 := ⟨qy_X9_lay, qjX9, by decide +kernel, by decide +kernel, by decide +kernel⟩
set_option maxHeartbeats 4000000 in
set_option maxRecDepth 100000 in
theorem c_X9_lay {l : Launch} {D : va_G} {ka : Nat → ClassId} (X0 : VX) (N : Nat) (a0 : Nat) (l1 : Int64) (l3 : Int64) (s sF : vS) (r : Unit) (h : F_X9_lay N a0 l1 l3 s = some (r, sF)) : isO s a0 9 = true ∧ vMet l D ka (xb X0) yX9_lay cX9_lay 7 none 1 29 [.ref (xb X0 + a0), .long l1, .long l3] s sF none := by
  unfold F_X9_lay at h
  unfold rcv at h
  obtain ⟨hO, h⟩ := v_chk h
  refine ⟨hO, vMet.of (ini := false) X0 (plainFor_of_name (by decide +kernel)) (Nat.le_of_ble_eq_true rfl) (fun h => by cases h) (fun X ls hb hl => ?_) rfl⟩
  show V X (cX9_lay, RX9, 7, 1, 29, false) (vRet sF none none) sF s (G0 X 0 ls [])
  rw [← hb] at hl
  have hl : lv_has ls 7 [(0, .ref (xb X + a0)), (1, .long l1), (3, .long l3)] := hl
  refine v_lload_n dX9_lay_0 rfl (lv_at hl 1 rfl) ?_
  refine v_lload_n dX9_lay_1 rfl (lv_at hl 2 rfl) ?_
  refine k_X9_common h qmX9_146 (by decide) hl.1 (Nat.le_of_ble_eq_true rfl) dX9_lay_2 (fun v1 s h => ?_)
  refine v_lstore [(5, .long v1), (0, .ref (xb X + a0)), (1, .long l1), (3, .long l3)] dX9_lay_5 hl (by decide) rfl (fun ls hl => ?_)
  refine v_aload_n dX9_lay_7 rfl (lv_at hl 1 rfl) ?_
  refine v_lload_n dX9_lay_8 rfl (lv_at hl 2 rfl) ?_
  refine v_lload dX9_lay_9 (lv_at hl 0 rfl) ?_
  refine v_ldiv dX9_lay_11 h (fun h => ?_)
  refine v_putJ 9 23 h (by decide) rfl (Or.inl rfl) qfX9_150 dX9_lay_12 (fun s h => ?_)
  refine v_aload_n dX9_lay_15 rfl (lv_at hl 1 rfl) ?_
  refine v_lload_n dX9_lay_16 rfl (lv_at hl 3 rfl) ?_
  refine v_lload dX9_lay_17 (lv_at hl 0 rfl) ?_
  refine v_ldiv dX9_lay_19 h (fun h => ?_)
  refine v_putJ 9 24 h (by decide) rfl (Or.inl rfl) qfX9_154 dX9_lay_20 (fun s h => ?_)
  exact v_vret dX9_lay_23 h
theorem k_X9_lay {X : VX} {cc : ByteArray} {own : String} {nL fr lo : Nat} {ini : Bool} {E : VX → Prop} {sF s : vS} {ρ : Type} {res : ρ} {pc : Nat} {ls : Array Slot} {rest : List Value} {N index : Nat} {a0 : Nat} {l1 : Int64} {l3 : Int64} {f : Unit → vS → Option ρ} (h : bnd (F_X9_lay N a0 l1 l3 s) f = some res) (hlink : Cond.methodLink own index yX9_lay ∈ TT) (hR : 1 + 1 ≤ fr ∧ 8 + (7 + 11) + 29 ≤ lo) (hls : ls.size = nL) (hr : (rest.map fun v => v.category).sum ≤ 8) (hdg : decode cc pc = .ok (.invokevirtual index, 3)) (kk : ∀ r s', f r s' = some res → V X (cc, own, nL, fr, lo, ini) E sF s' (G0 X (pc + 3) ls (rest))) : V X (cc, own, nL, fr, lo, ini) E sF s (G0 X pc ls (.long l3 :: .long l1 :: .ref (xb X + a0) :: rest)) := by
  obtain ⟨r, s', e, h⟩ := bnd_some h
  exact v_callV (b := a0) (ci := 9) (As := [.long l1, .long l3]) (rest := rest) (c_X9_lay X N a0 l1 l3 s s' r e).2 (c_X9_lay (l := xl X) (D := xD X) (ka := xka X) X N a0 l1 l3 s s' r e).1 rfl vl_X9_lay qi_X9_lay qe_X9_lay hlink hR rfl rfl hls hr hdg (kk r s' h)
set_option maxHeartbeats 4000000 in
set_option maxRecDepth 100000 in
theorem L_X9_insideOf_70 {X : VX} {sF : vS} {r : Unit} (N : Nat) (k9 : Nat → Int32 → Int32 → Int32 → Int64 → Int64 → Int32 → vS → Option (Unit × vS)) (hk9 : ∀ (a0 : Nat) (l1 : Int32) (l2 : Int32) (l3 : Int32) (l4 : Int64) (l6 : Int64) (l8 : Int32) (s : vS) (ls : Array Slot), lv_has ls 9 [(0, .ref (xb X + a0)), (1, .int l1), (2, .int l2), (3, .int l3), (4, .long l4), (6, .long l6), (8, .int l8)] → k9 a0 l1 l2 l3 l4 l6 l8 s = some (r, sF) → V X (cX9_insideOf, RX9, 9, 3, 70, false) (vRet sF none none) sF s (G0 X 9 ls [])) (a0 : Nat) (l1 : Int32) (l2 : Int32) (l3 : Int32) (l4 : Int64) (l6 : Int64) (l8 : Int32) (s : vS) (ls : Array Slot) (hl : lv_has ls 9 [(0, .ref (xb X + a0)), (1, .int l1), (2, .int l2), (3, .int l3), (4, .long l4), (6, .long l6), (8, .int l8)]) (h : J_X9_insideOf_70 N k9 a0 l1 l2 l3 l4 l6 l8 s = some (r, sF)) : V X (cX9_insideOf, RX9, 9, 3, 70, false) (vRet sF none none) sF s (G0 X 70 ls []) := by
  unfold J_X9_insideOf_70 at h
  refine v_inc (fun z => [(8, .int z), (0, .ref (xb X + a0)), (1, .int l1), (2, .int l2), (3, .int l3), (4, .long l4), (6, .long l6)]) dX9_insideOf_70 h hl (k := 6) rfl (by rfl) (by decide) (fun _ => rfl) (fun l8_4 ls hl h => ?_)
  refine v_goto 9 dX9_insideOf_73 (by decide) ?_
  exact hk9 a0 l1 l2 l3 l4 l6 l8_4 s ls (lv_sub hl [1, 2, 3, 4, 5, 6, 0] rfl) h
set_option maxHeartbeats 4000000 in
set_option maxRecDepth 100000 in
theorem L_X9_insideOf_67 {X : VX} {sF : vS} {r : Unit} (N : Nat) (k9 : Nat → Int32 → Int32 → Int32 → Int64 → Int64 → Int32 → vS → Option (Unit × vS)) (hk9 : ∀ (a0 : Nat) (l1 : Int32) (l2 : Int32) (l3 : Int32) (l4 : Int64) (l6 : Int64) (l8 : Int32) (s : vS) (ls : Array Slot), lv_has ls 9 [(0, .ref (xb X + a0)), (1, .int l1), (2, .int l2), (3, .int l3), (4, .long l4), (6, .long l6), (8, .int l8)] → k9 a0 l1 l2 l3 l4 l6 l8 s = some (r, sF) → V X (cX9_insideOf, RX9, 9, 3, 70, false) (vRet sF none none) sF s (G0 X 9 ls [])) (a0 : Nat) (l1 : Int32) (l2 : Int32) (l3 : Int32) (l6 : Int64) (l8 : Int32) (k0 : Int64) (k1 : Int64) (s : vS) (ls : Array Slot) (hl : lv_has ls 9 [(0, .ref (xb X + a0)), (1, .int l1), (2, .int l2), (3, .int l3), (6, .long l6), (8, .int l8)]) (h : J_X9_insideOf_67 N k9 a0 l1 l2 l3 l6 l8 k0 k1 s = some (r, sF)) : V X (cX9_insideOf, RX9, 9, 3, 70, false) (vRet sF none none) sF s (G0 X 67 ls [.long k1, .long k0]) := by
  unfold J_X9_insideOf_67 at h
  refine v_ladd dX9_insideOf_67 ?_
  refine v_nmJ h (fun l4_7 h => ?_)
  refine v_lstore [(4, .long l4_7), (0, .ref (xb X + a0)), (1, .int l1), (2, .int l2), (3, .int l3), (6, .long l6), (8, .int l8)] dX9_insideOf_68 hl (by decide) rfl (fun ls hl => ?_)
  exact L_X9_insideOf_70 N k9 hk9 a0 l1 l2 l3 l4_7 l6 l8 s ls (lv_sub hl [1, 2, 3, 4, 0, 5, 6] rfl) h
set_option maxHeartbeats 4000000 in
set_option maxRecDepth 100000 in
theorem L_X9_insideOf_43 {X : VX} {sF : vS} {r : Unit} (N : Nat) (k9 : Nat → Int32 → Int32 → Int32 → Int64 → Int64 → Int32 → vS → Option (Unit × vS)) (hk9 : ∀ (a0 : Nat) (l1 : Int32) (l2 : Int32) (l3 : Int32) (l4 : Int64) (l6 : Int64) (l8 : Int32) (s : vS) (ls : Array Slot), lv_has ls 9 [(0, .ref (xb X + a0)), (1, .int l1), (2, .int l2), (3, .int l3), (4, .long l4), (6, .long l6), (8, .int l8)] → k9 a0 l1 l2 l3 l4 l6 l8 s = some (r, sF) → V X (cX9_insideOf, RX9, 9, 3, 70, false) (vRet sF none none) sF s (G0 X 9 ls [])) (a0 : Nat) (l1 : Int32) (l2 : Int32) (l3 : Int32) (l4 : Int64) (l6 : Int64) (l8 : Int32) (s : vS) (ls : Array Slot) (hl : lv_has ls 9 [(0, .ref (xb X + a0)), (1, .int l1), (2, .int l2), (3, .int l3), (4, .long l4), (6, .long l6), (8, .int l8)]) (h : J_X9_insideOf_43 N k9 a0 l1 l2 l3 l4 l6 l8 s = some (r, sF)) : V X (cX9_insideOf, RX9, 9, 3, 70, false) (vRet sF none none) sF s (G0 X 43 ls []) := by
  unfold J_X9_insideOf_43 at h
  refine v_lload dX9_insideOf_43 (lv_at hl 5 rfl) ?_
  refine v_lconst (1 : Int64) dX9_insideOf_45 (by decide) ?_
  refine v_ladd dX9_insideOf_46 ?_
  refine v_nmJ h (fun l6_5 h => ?_)
  refine v_lstore [(6, .long l6_5), (0, .ref (xb X + a0)), (1, .int l1), (2, .int l2), (3, .int l3), (4, .long l4), (8, .int l8)] dX9_insideOf_47 hl (by decide) rfl (fun ls hl => ?_)
  refine v_lload dX9_insideOf_49 (lv_at hl 5 rfl) ?_
  refine v_aload_n dX9_insideOf_51 rfl (lv_at hl 1 rfl) ?_
  refine v_iload dX9_insideOf_52 (lv_at hl 6 rfl) ?_
  refine v_iload_n dX9_insideOf_54 rfl (lv_at hl 4 rfl) ?_
  refine k_X9_numberOn h qmX9_157 (by decide) hl.1 (Nat.le_of_ble_eq_true rfl) dX9_insideOf_55 (fun v6 s h => ?_)
  refine v_iload_n dX9_insideOf_58 rfl (lv_at hl 2 rfl) ?_
  refine v_icmp_ne 66 dX9_insideOf_59 (by decide) h (fun h => ?_) (fun h => ?_)
  · refine v_lconst (0 : Int64) dX9_insideOf_66 (by decide) ?_
    exact L_X9_insideOf_67 N k9 hk9 a0 l1 l2 l3 l6_5 l8 l4 (0 : Int64) s ls (lv_sub hl [1, 2, 3, 4, 0, 6] rfl) h
  · refine v_lconst (1 : Int64) dX9_insideOf_62 (by decide) ?_
    refine v_goto 67 dX9_insideOf_63 (by decide) ?_
    exact L_X9_insideOf_67 N k9 hk9 a0 l1 l2 l3 l6_5 l8 l4 (1 : Int64) s ls (lv_sub hl [1, 2, 3, 4, 0, 6] rfl) h
set_option maxHeartbeats 4000000 in
set_option maxRecDepth 100000 in
theorem L_X9_insideOf_9 {X : VX} {sF : vS} {r : Unit} (N : Nat) : ∀ (n : Nat) (a0 : Nat) (l1 : Int32) (l2 : Int32) (l3 : Int32) (l4 : Int64) (l6 : Int64) (l8 : Int32) (s : vS) (ls : Array Slot), lv_has ls 9 [(0, .ref (xb X + a0)), (1, .int l1), (2, .int l2), (3, .int l3), (4, .long l4), (6, .long l6), (8, .int l8)] → H_X9_insideOf_9 N n a0 l1 l2 l3 l4 l6 l8 s = some (r, sF) → V X (cX9_insideOf, RX9, 9, 3, 70, false) (vRet sF none none) sF s (G0 X 9 ls []) := by
  intro n
  induction n with
  | zero => intro a0 l1 l2 l3 l4 l6 l8 s ls hl h; cases h
  | succ n ih =>
   intro a0 l1 l2 l3 l4 l6 l8 s ls hl h
   unfold H_X9_insideOf_9 at h
   refine v_iload dX9_insideOf_9 (lv_at hl 6 rfl) ?_
   refine v_iconst (1 : Int32) dX9_insideOf_11 (by decide) ?_
   refine v_aload_n dX9_insideOf_12 rfl (lv_at hl 0 rfl) ?_
   refine v_getI 9 7 h (by decide) (Or.inl rfl) qfX9_133 dX9_insideOf_13 (fun v1 h => ?_)
   refine v_ishl dX9_insideOf_16 ?_
   refine v_icmp_ge 76 dX9_insideOf_17 (by decide) h (fun h => ?_) (fun h => ?_)
   · refine v_aload_n dX9_insideOf_76 rfl (lv_at hl 0 rfl) ?_
     refine v_lload dX9_insideOf_77 (lv_at hl 4 rfl) ?_
     refine v_lload dX9_insideOf_79 (lv_at hl 5 rfl) ?_
     refine k_X9_lay h qmX9_160 (by decide) hl.1 (Nat.le_of_ble_eq_true rfl) dX9_insideOf_81 (fun v2 s h => ?_)
     exact v_vret dX9_insideOf_84 h
   · refine v_iload dX9_insideOf_20 (lv_at hl 6 rfl) ?_
     refine k_X9_ones h qmX9_140 (by decide) hl.1 (Nat.le_of_ble_eq_true rfl) dX9_insideOf_22 (fun v3 s h => ?_)
     refine v_iload_n dX9_insideOf_25 rfl (lv_at hl 2 rfl) ?_
     refine v_icmp_ne 70 dX9_insideOf_26 (by decide) h (fun h => ?_) (fun h => ?_)
     · exact L_X9_insideOf_70 N (H_X9_insideOf_9 N n) ih a0 l1 l2 l3 l4 l6 l8 s ls (lv_sub hl [0, 1, 2, 3, 4, 5, 6] rfl) h
     · refine v_iload_n dX9_insideOf_29 rfl (lv_at hl 3 rfl) ?_
       refine v_if_lt 43 dX9_insideOf_30 (by decide) h (fun h => ?_) (fun h => ?_)
       · exact L_X9_insideOf_43 N (H_X9_insideOf_9 N n) ih a0 l1 l2 l3 l4 l6 l8 s ls (lv_sub hl [0, 1, 2, 3, 4, 5, 6] rfl) h
       · refine v_iload dX9_insideOf_33 (lv_at hl 6 rfl) ?_
         refine v_iload_n dX9_insideOf_35 rfl (lv_at hl 3 rfl) ?_
         refine v_ishr dX9_insideOf_36 ?_
         refine v_iconst (1 : Int32) dX9_insideOf_37 (by decide) ?_
         refine v_iand dX9_insideOf_38 ?_
         refine v_iconst (1 : Int32) dX9_insideOf_39 (by decide) ?_
         refine v_icmp_ne 70 dX9_insideOf_40 (by decide) h (fun h => ?_) (fun h => ?_)
         · exact L_X9_insideOf_70 N (H_X9_insideOf_9 N n) ih a0 l1 l2 l3 l4 l6 l8 s ls (lv_sub hl [0, 1, 2, 3, 4, 5, 6] rfl) h
         · exact L_X9_insideOf_43 N (H_X9_insideOf_9 N n) ih a0 l1 l2 l3 l4 l6 l8 s ls (lv_sub hl [0, 1, 2, 3, 4, 5, 6] rfl) h
theorem vl_X9_insideOf : vCl yX9_insideOf cX9_insideOf 9 none 3 := ⟨qy_X9_insideOf, qjX9, by decide +kernel, by decide +kernel, by decide +kernel⟩
set_option maxHeartbeats 4000000 in
set_option maxRecDepth 100000 in
theorem c_X9_insideOf {l : Launch} {D : va_G} {ka : Nat → ClassId} (X0 : VX) (N : Nat) (a0 : Nat) (l1 : Int32) (l2 : Int32) (l3 : Int32) (s sF : vS) (r : Unit) (h : F_X9_insideOf N a0 l1 l2 l3 s = some (r, sF)) : isO s a0 9 = true ∧ vMet l D ka (xb X0) yX9_insideOf cX9_insideOf 9 none 3 70 [.ref (xb X0 + a0), .int l1, .int l2, .int l3] s sF none := by
  unfold F_X9_insideOf at h
  unfold rcv at h
  obtain ⟨hO, h⟩ := v_chk h
  refine ⟨hO, vMet.of (ini := false) X0 (plainFor_of_name (by decide +kernel)) (Nat.le_of_ble_eq_true rfl) (fun h => by cases h) (fun X ls hb hl => ?_) rfl⟩
  show V X (cX9_insideOf, RX9, 9, 3, 70, false) (vRet sF none none) sF s (G0 X 0 ls [])
  rw [← hb] at hl
  have hl : lv_has ls 9 [(0, .ref (xb X + a0)), (1, .int l1), (2, .int l2), (3, .int l3)] := hl
  refine v_lconst (0 : Int64) dX9_insideOf_0 (by decide) ?_
  refine v_lstore [(4, .long (0 : Int64)), (0, .ref (xb X + a0)), (1, .int l1), (2, .int l2), (3, .int l3)] dX9_insideOf_1 hl (by decide) rfl (fun ls hl => ?_)
  refine v_lconst (0 : Int64) dX9_insideOf_3 (by decide) ?_
  refine v_lstore [(6, .long (0 : Int64)), (4, .long (0 : Int64)), (0, .ref (xb X + a0)), (1, .int l1), (2, .int l2), (3, .int l3)] dX9_insideOf_4 hl (by decide) rfl (fun ls hl => ?_)
  refine v_iconst (0 : Int32) dX9_insideOf_6 (by decide) ?_
  refine v_istore [(8, .int (0 : Int32)), (6, .long (0 : Int64)), (4, .long (0 : Int64)), (0, .ref (xb X + a0)), (1, .int l1), (2, .int l2), (3, .int l3)] dX9_insideOf_7 hl (by decide) rfl (fun ls hl => ?_)
  exact L_X9_insideOf_9 N N a0 l1 l2 l3 (0 : Int64) (0 : Int64) (0 : Int32) s ls (lv_sub hl [3, 4, 5, 6, 2, 1, 0] rfl) h
theorem k_X9_insideOf {X : VX} {cc : ByteArray} {own : String} {nL fr lo : Nat} {ini : Bool} {E : VX → Prop} {sF s : vS} {ρ : Type} {res : ρ} {pc : Nat} {ls : Array Slot} {rest : List Value} {N index : Nat} {a0 : Nat} {l1 : Int32} {l2 : Int32} {l3 : Int32} {f : Unit → vS → Option ρ} (h : bnd (F_X9_insideOf N a0 l1 l2 l3 s) f = some res) (hlink : Cond.methodLink own index yX9_insideOf ∈ TT) (hR : 3 + 1 ≤ fr ∧ 8 + (9 + 11) + 70 ≤ lo) (hls : ls.size = nL) (hr : (rest.map fun v => v.category).sum ≤ 8) (hdg : decode cc pc = .ok (.invokevirtual index, 3)) (kk : ∀ r s', f r s' = some res → V X (cc, own, nL, fr, lo, ini) E sF s' (G0 X (pc + 3) ls (rest))) : V X (cc, own, nL, fr, lo, ini) E sF s (G0 X pc ls (.int l3 :: .int l2 :: .int l1 :: .ref (xb X + a0) :: rest)) := by
  obtain ⟨r, s', e, h⟩ := bnd_some h
  exact v_callV (b := a0) (ci := 9) (As := [.int l1, .int l2, .int l3]) (rest := rest) (c_X9_insideOf X N a0 l1 l2 l3 s s' r e).2 (c_X9_insideOf (l := xl X) (D := xD X) (ka := xka X) X N a0 l1 l2 l3 s s' r e).1 rfl vl_X9_insideOf qi_X9_insideOf qe_X9_insideOf hlink hR rfl rfl hls hr hdg (kk r s' h)
set_option maxHeartbeats 4000000 in
set_option maxRecDepth 100000 in
theorem L_X9_jointOf_200 {X : VX} {sF : vS} {r : Unit} (N : Nat) (k88 : Nat → Int32 → Int32 → Int32 → Int32 → Int64 → Int64 → Int32 → Int32 → vS → Option (Unit × vS)) (k102 : Nat → Int32 → Int32 → Int32 → Int32 → Int64 → Int64 → Int32 → Int32 → Int32 → vS → Option (Unit × vS)) (hk88 : ∀ (a0 : Nat) (l1 : Int32) (l2 : Int32) (l3 : Int32) (l4 : Int32) (l6 : Int64) (l8 : Int64) (l10 : Int32) (l11 : Int32) (s : vS) (ls : Array Slot), lv_has ls 13 [(0, .ref (xb X + a0)), (1, .int l1), (2, .int l2), (3, .int l3), (4, .int l4), (6, .long l6), (8, .long l8), (10, .int l10), (11, .int l11)] → k88 a0 l1 l2 l3 l4 l6 l8 l10 l11 s = some (r, sF) → V X (cX9_jointOf, RX9, 13, 3, 70, false) (vRet sF none none) sF s (G0 X 88 ls [])) (hk102 : ∀ (a0 : Nat) (l1 : Int32) (l2 : Int32) (l3 : Int32) (l4 : Int32) (l6 : Int64) (l8 : Int64) (l10 : Int32) (l11 : Int32) (l12 : Int32) (s : vS) (ls : Array Slot), lv_has ls 13 [(0, .ref (xb X + a0)), (1, .int l1), (2, .int l2), (3, .int l3), (4, .int l4), (6, .long l6), (8, .long l8), (10, .int l10), (11, .int l11), (12, .int l12)] → k102 a0 l1 l2 l3 l4 l6 l8 l10 l11 l12 s = some (r, sF) → V X (cX9_jointOf, RX9, 13, 3, 70, false) (vRet sF none none) sF s (G0 X 102 ls [])) (a0 : Nat) (l1 : Int32) (l2 : Int32) (l3 : Int32) (l4 : Int32) (l6 : Int64) (l8 : Int64) (l10 : Int32) (l11 : Int32) (l12 : Int32) (s : vS) (ls : Array Slot) (hl : lv_has ls 13 [(0, .ref (xb X + a0)), (1, .int l1), (2, .int l2), (3, .int l3), (4, .int l4), (6, .long l6), (8, .long l8), (10, .int l10), (11, .int l11), (12, .int l12)]) (h : J_X9_jointOf_200 N k88 k102 a0 l1 l2 l3 l4 l6 l8 l10 l11 l12 s = some (r, sF)) : V X (cX9_jointOf, RX9, 13, 3, 70, false) (vRet sF none none) sF s (G0 X 200 ls []) := by
  unfold J_X9_jointOf_200 at h
  refine v_inc (fun z => [(12, .int z), (0, .ref (xb X + a0)), (1, .int l1), (2, .int l2), (3, .int l3), (4, .int l4), (6, .long l6), (8, .long l8), (10, .int l10), (11, .int l11)]) dX9_jointOf_200 h hl (k := 9) rfl (by rfl) (by decide) (fun _ => rfl) (fun l12_21 ls hl h => ?_)
  refine v_goto 102 dX9_jointOf_203 (by decide) ?_
  exact hk102 a0 l1 l2 l3 l4 l6 l8 l10 l11 l12_21 s ls (lv_sub hl [1, 2, 3, 4, 5, 6, 7, 8, 9, 0] rfl) h
set_option maxHeartbeats 4000000 in
set_option maxRecDepth 100000 in
theorem L_X9_jointOf_197 {X : VX} {sF : vS} {r : Unit} (N : Nat) (k88 : Nat → Int32 → Int32 → Int32 → Int32 → Int64 → Int64 → Int32 → Int32 → vS → Option (Unit × vS)) (k102 : Nat → Int32 → Int32 → Int32 → Int32 → Int64 → Int64 → Int32 → Int32 → Int32 → vS → Option (Unit × vS)) (hk88 : ∀ (a0 : Nat) (l1 : Int32) (l2 : Int32) (l3 : Int32) (l4 : Int32) (l6 : Int64) (l8 : Int64) (l10 : Int32) (l11 : Int32) (s : vS) (ls : Array Slot), lv_has ls 13 [(0, .ref (xb X + a0)), (1, .int l1), (2, .int l2), (3, .int l3), (4, .int l4), (6, .long l6), (8, .long l8), (10, .int l10), (11, .int l11)] → k88 a0 l1 l2 l3 l4 l6 l8 l10 l11 s = some (r, sF) → V X (cX9_jointOf, RX9, 13, 3, 70, false) (vRet sF none none) sF s (G0 X 88 ls [])) (hk102 : ∀ (a0 : Nat) (l1 : Int32) (l2 : Int32) (l3 : Int32) (l4 : Int32) (l6 : Int64) (l8 : Int64) (l10 : Int32) (l11 : Int32) (l12 : Int32) (s : vS) (ls : Array Slot), lv_has ls 13 [(0, .ref (xb X + a0)), (1, .int l1), (2, .int l2), (3, .int l3), (4, .int l4), (6, .long l6), (8, .long l8), (10, .int l10), (11, .int l11), (12, .int l12)] → k102 a0 l1 l2 l3 l4 l6 l8 l10 l11 l12 s = some (r, sF) → V X (cX9_jointOf, RX9, 13, 3, 70, false) (vRet sF none none) sF s (G0 X 102 ls [])) (a0 : Nat) (l1 : Int32) (l2 : Int32) (l3 : Int32) (l4 : Int32) (l8 : Int64) (l10 : Int32) (l11 : Int32) (l12 : Int32) (k0 : Int64) (k1 : Int64) (s : vS) (ls : Array Slot) (hl : lv_has ls 13 [(0, .ref (xb X + a0)), (1, .int l1), (2, .int l2), (3, .int l3), (4, .int l4), (8, .long l8), (10, .int l10), (11, .int l11), (12, .int l12)]) (h : J_X9_jointOf_197 N k88 k102 a0 l1 l2 l3 l4 l8 l10 l11 l12 k0 k1 s = some (r, sF)) : V X (cX9_jointOf, RX9, 13, 3, 70, false) (vRet sF none none) sF s (G0 X 197 ls [.long k1, .long k0]) := by
  unfold J_X9_jointOf_197 at h
  refine v_ladd dX9_jointOf_197 ?_
  refine v_nmJ h (fun l6_22 h => ?_)
  refine v_lstore [(6, .long l6_22), (0, .ref (xb X + a0)), (1, .int l1), (2, .int l2), (3, .int l3), (4, .int l4), (8, .long l8), (10, .int l10), (11, .int l11), (12, .int l12)] dX9_jointOf_198 hl (by decide) rfl (fun ls hl => ?_)
  exact L_X9_jointOf_200 N k88 k102 hk88 hk102 a0 l1 l2 l3 l4 l6_22 l8 l10 l11 l12 s ls (lv_sub hl [1, 2, 3, 4, 5, 0, 6, 7, 8, 9] rfl) h
set_option maxHeartbeats 4000000 in
set_option maxRecDepth 100000 in
theorem L_X9_jointOf_196 {X : VX} {sF : vS} {r : Unit} (N : Nat) (k88 : Nat → Int32 → Int32 → Int32 → Int32 → Int64 → Int64 → Int32 → Int32 → vS → Option (Unit × vS)) (k102 : Nat → Int32 → Int32 → Int32 → Int32 → Int64 → Int64 → Int32 → Int32 → Int32 → vS → Option (Unit × vS)) (hk88 : ∀ (a0 : Nat) (l1 : Int32) (l2 : Int32) (l3 : Int32) (l4 : Int32) (l6 : Int64) (l8 : Int64) (l10 : Int32) (l11 : Int32) (s : vS) (ls : Array Slot), lv_has ls 13 [(0, .ref (xb X + a0)), (1, .int l1), (2, .int l2), (3, .int l3), (4, .int l4), (6, .long l6), (8, .long l8), (10, .int l10), (11, .int l11)] → k88 a0 l1 l2 l3 l4 l6 l8 l10 l11 s = some (r, sF) → V X (cX9_jointOf, RX9, 13, 3, 70, false) (vRet sF none none) sF s (G0 X 88 ls [])) (hk102 : ∀ (a0 : Nat) (l1 : Int32) (l2 : Int32) (l3 : Int32) (l4 : Int32) (l6 : Int64) (l8 : Int64) (l10 : Int32) (l11 : Int32) (l12 : Int32) (s : vS) (ls : Array Slot), lv_has ls 13 [(0, .ref (xb X + a0)), (1, .int l1), (2, .int l2), (3, .int l3), (4, .int l4), (6, .long l6), (8, .long l8), (10, .int l10), (11, .int l11), (12, .int l12)] → k102 a0 l1 l2 l3 l4 l6 l8 l10 l11 l12 s = some (r, sF) → V X (cX9_jointOf, RX9, 13, 3, 70, false) (vRet sF none none) sF s (G0 X 102 ls [])) (a0 : Nat) (l1 : Int32) (l2 : Int32) (l3 : Int32) (l4 : Int32) (l8 : Int64) (l10 : Int32) (l11 : Int32) (l12 : Int32) (k0 : Int64) (s : vS) (ls : Array Slot) (hl : lv_has ls 13 [(0, .ref (xb X + a0)), (1, .int l1), (2, .int l2), (3, .int l3), (4, .int l4), (8, .long l8), (10, .int l10), (11, .int l11), (12, .int l12)]) (h : J_X9_jointOf_196 N k88 k102 a0 l1 l2 l3 l4 l8 l10 l11 l12 k0 s = some (r, sF)) : V X (cX9_jointOf, RX9, 13, 3, 70, false) (vRet sF none none) sF s (G0 X 196 ls [.long k0]) := by
  unfold J_X9_jointOf_196 at h
  refine v_lconst (0 : Int64) dX9_jointOf_196 (by decide) ?_
  exact L_X9_jointOf_197 N k88 k102 hk88 hk102 a0 l1 l2 l3 l4 l8 l10 l11 l12 k0 (0 : Int64) s ls (lv_sub hl [0, 1, 2, 3, 4, 5, 6, 7, 8] rfl) h
set_option maxHeartbeats 4000000 in
set_option maxRecDepth 100000 in
theorem L_X9_jointOf_102 {X : VX} {sF : vS} {r : Unit} (N : Nat) (k88 : Nat → Int32 → Int32 → Int32 → Int32 → Int64 → Int64 → Int32 → Int32 → vS → Option (Unit × vS)) (hk88 : ∀ (a0 : Nat) (l1 : Int32) (l2 : Int32) (l3 : Int32) (l4 : Int32) (l6 : Int64) (l8 : Int64) (l10 : Int32) (l11 : Int32) (s : vS) (ls : Array Slot), lv_has ls 13 [(0, .ref (xb X + a0)), (1, .int l1), (2, .int l2), (3, .int l3), (4, .int l4), (6, .long l6), (8, .long l8), (10, .int l10), (11, .int l11)] → k88 a0 l1 l2 l3 l4 l6 l8 l10 l11 s = some (r, sF) → V X (cX9_jointOf, RX9, 13, 3, 70, false) (vRet sF none none) sF s (G0 X 88 ls [])) : ∀ (n : Nat) (a0 : Nat) (l1 : Int32) (l2 : Int32) (l3 : Int32) (l4 : Int32) (l6 : Int64) (l8 : Int64) (l10 : Int32) (l11 : Int32) (l12 : Int32) (s : vS) (ls : Array Slot), lv_has ls 13 [(0, .ref (xb X + a0)), (1, .int l1), (2, .int l2), (3, .int l3), (4, .int l4), (6, .long l6), (8, .long l8), (10, .int l10), (11, .int l11), (12, .int l12)] → H_X9_jointOf_102 N k88 n a0 l1 l2 l3 l4 l6 l8 l10 l11 l12 s = some (r, sF) → V X (cX9_jointOf, RX9, 13, 3, 70, false) (vRet sF none none) sF s (G0 X 102 ls []) := by
  intro n
  induction n with
  | zero => intro a0 l1 l2 l3 l4 l6 l8 l10 l11 l12 s ls hl h; cases h
  | succ n ih =>
   intro a0 l1 l2 l3 l4 l6 l8 l10 l11 l12 s ls hl h
   unfold H_X9_jointOf_102 at h
   refine v_iload dX9_jointOf_102 (lv_at hl 9 rfl) ?_
   refine v_iconst (1 : Int32) dX9_jointOf_104 (by decide) ?_
   refine v_aload_n dX9_jointOf_105 rfl (lv_at hl 0 rfl) ?_
   refine v_getI 9 7 h (by decide) (Or.inl rfl) qfX9_133 dX9_jointOf_106 (fun v8 h => ?_)
   refine v_ishl dX9_jointOf_109 ?_
   refine v_icmp_ge 206 dX9_jointOf_110 (by decide) h (fun h => ?_) (fun h => ?_)
   · refine v_inc (fun z => [(11, .int z), (0, .ref (xb X + a0)), (1, .int l1), (2, .int l2), (3, .int l3), (4, .int l4), (6, .long l6), (8, .long l8), (10, .int l10), (12, .int l12)]) dX9_jointOf_206 h hl (k := 8) rfl (by rfl) (by decide) (fun _ => rfl) (fun l11_9 ls hl h => ?_)
     refine v_goto 88 dX9_jointOf_209 (by decide) ?_
     exact hk88 a0 l1 l2 l3 l4 l6 l8 l10 l11_9 s ls (lv_sub hl [1, 2, 3, 4, 5, 6, 7, 8, 0] rfl) h
   · refine v_aload_n dX9_jointOf_113 rfl (lv_at hl 0 rfl) ?_
     refine v_getR 9 26 h (by decide) rfl qfX9_87 dX9_jointOf_114 (fun r10 h => ?_)
     refine v_iload dX9_jointOf_117 (lv_at hl 8 rfl) ?_
     refine v_iald dX9_jointOf_119 h (fun v11 h => ?_)
     refine v_if_lt 200 dX9_jointOf_120 (by decide) h (fun h => ?_) (fun h => ?_)
     · exact L_X9_jointOf_200 N k88 (H_X9_jointOf_102 N k88 n) hk88 ih a0 l1 l2 l3 l4 l6 l8 l10 l11 l12 s ls (lv_sub hl [0, 1, 2, 3, 4, 5, 6, 7, 8, 9] rfl) h
     · refine v_aload_n dX9_jointOf_123 rfl (lv_at hl 0 rfl) ?_
       refine v_getR 9 26 h (by decide) rfl qfX9_87 dX9_jointOf_124 (fun r12 h => ?_)
       refine v_iload dX9_jointOf_127 (lv_at hl 9 rfl) ?_
       refine v_iald dX9_jointOf_129 h (fun v13 h => ?_)
       refine v_if_lt 200 dX9_jointOf_130 (by decide) h (fun h => ?_) (fun h => ?_)
       · exact L_X9_jointOf_200 N k88 (H_X9_jointOf_102 N k88 n) hk88 ih a0 l1 l2 l3 l4 l6 l8 l10 l11 l12 s ls (lv_sub hl [0, 1, 2, 3, 4, 5, 6, 7, 8, 9] rfl) h
       · refine v_iload dX9_jointOf_133 (lv_at hl 8 rfl) ?_
         refine v_iload dX9_jointOf_135 (lv_at hl 9 rfl) ?_
         refine v_iand dX9_jointOf_137 ?_
         refine v_iload dX9_jointOf_138 (lv_at hl 7 rfl) ?_
         refine v_icmp_ne 200 dX9_jointOf_140 (by decide) h (fun h => ?_) (fun h => ?_)
         · exact L_X9_jointOf_200 N k88 (H_X9_jointOf_102 N k88 n) hk88 ih a0 l1 l2 l3 l4 l6 l8 l10 l11 l12 s ls (lv_sub hl [0, 1, 2, 3, 4, 5, 6, 7, 8, 9] rfl) h
         · refine v_iload dX9_jointOf_143 (lv_at hl 8 rfl) ?_
           refine k_X9_ones h qmX9_140 (by decide) hl.1 (Nat.le_of_ble_eq_true rfl) dX9_jointOf_145 (fun v14 s h => ?_)
           refine v_iload_n dX9_jointOf_148 rfl (lv_at hl 2 rfl) ?_
           refine v_icmp_ne 200 dX9_jointOf_149 (by decide) h (fun h => ?_) (fun h => ?_)
           · exact L_X9_jointOf_200 N k88 (H_X9_jointOf_102 N k88 n) hk88 ih a0 l1 l2 l3 l4 l6 l8 l10 l11 l12 s ls (lv_sub hl [0, 1, 2, 3, 4, 5, 6, 7, 8, 9] rfl) h
           · refine v_iload dX9_jointOf_152 (lv_at hl 9 rfl) ?_
             refine k_X9_ones h qmX9_140 (by decide) hl.1 (Nat.le_of_ble_eq_true rfl) dX9_jointOf_154 (fun v15 s h => ?_)
             refine v_iload dX9_jointOf_157 (lv_at hl 4 rfl) ?_
             refine v_icmp_ne 200 dX9_jointOf_159 (by decide) h (fun h => ?_) (fun h => ?_)
             · exact L_X9_jointOf_200 N k88 (H_X9_jointOf_102 N k88 n) hk88 ih a0 l1 l2 l3 l4 l6 l8 l10 l11 l12 s ls (lv_sub hl [0, 1, 2, 3, 4, 5, 6, 7, 8, 9] rfl) h
             · refine v_lload dX9_jointOf_162 (lv_at hl 6 rfl) ?_
               refine v_lconst (1 : Int64) dX9_jointOf_164 (by decide) ?_
               refine v_ladd dX9_jointOf_165 ?_
               refine v_nmJ h (fun l8_16 h => ?_)
               refine v_lstore [(8, .long l8_16), (0, .ref (xb X + a0)), (1, .int l1), (2, .int l2), (3, .int l3), (4, .int l4), (6, .long l6), (10, .int l10), (11, .int l11), (12, .int l12)] dX9_jointOf_166 hl (by decide) rfl (fun ls hl => ?_)
               refine v_lload dX9_jointOf_168 (lv_at hl 6 rfl) ?_
               refine v_aload_n dX9_jointOf_170 rfl (lv_at hl 1 rfl) ?_
               refine v_getR 9 26 h (by decide) rfl qfX9_87 dX9_jointOf_171 (fun r17 h => ?_)
               refine v_iload dX9_jointOf_174 (lv_at hl 8 rfl) ?_
               refine v_iald dX9_jointOf_176 h (fun v18 h => ?_)
               refine v_iload_n dX9_jointOf_177 rfl (lv_at hl 2 rfl) ?_
               refine v_icmp_ne 196 dX9_jointOf_178 (by decide) h (fun h => ?_) (fun h => ?_)
               · exact L_X9_jointOf_196 N k88 (H_X9_jointOf_102 N k88 n) hk88 ih a0 l1 l2 l3 l4 l8_16 l10 l11 l12 l6 s ls (lv_sub hl [1, 2, 3, 4, 5, 0, 7, 8, 9] rfl) h
               · refine v_aload_n dX9_jointOf_181 rfl (lv_at hl 1 rfl) ?_
                 refine v_getR 9 26 h (by decide) rfl qfX9_87 dX9_jointOf_182 (fun r19 h => ?_)
                 refine v_iload dX9_jointOf_185 (lv_at hl 9 rfl) ?_
                 refine v_iald dX9_jointOf_187 h (fun v20 h => ?_)
                 refine v_iload_n dX9_jointOf_188 rfl (lv_at hl 4 rfl) ?_
                 refine v_icmp_ne 196 dX9_jointOf_189 (by decide) h (fun h => ?_) (fun h => ?_)
                 · exact L_X9_jointOf_196 N k88 (H_X9_jointOf_102 N k88 n) hk88 ih a0 l1 l2 l3 l4 l8_16 l10 l11 l12 l6 s ls (lv_sub hl [1, 2, 3, 4, 5, 0, 7, 8, 9] rfl) h
                 · refine v_lconst (1 : Int64) dX9_jointOf_192 (by decide) ?_
                   refine v_goto 197 dX9_jointOf_193 (by decide) ?_
                   exact L_X9_jointOf_197 N k88 (H_X9_jointOf_102 N k88 n) hk88 ih a0 l1 l2 l3 l4 l8_16 l10 l11 l12 l6 (1 : Int64) s ls (lv_sub hl [1, 2, 3, 4, 5, 0, 7, 8, 9] rfl) h
set_option maxHeartbeats 4000000 in
set_option maxRecDepth 100000 in
theorem L_X9_jointOf_88 {X : VX} {sF : vS} {r : Unit} (N : Nat) : ∀ (n : Nat) (a0 : Nat) (l1 : Int32) (l2 : Int32) (l3 : Int32) (l4 : Int32) (l6 : Int64) (l8 : Int64) (l10 : Int32) (l11 : Int32) (s : vS) (ls : Array Slot), lv_has ls 13 [(0, .ref (xb X + a0)), (1, .int l1), (2, .int l2), (3, .int l3), (4, .int l4), (6, .long l6), (8, .long l8), (10, .int l10), (11, .int l11)] → H_X9_jointOf_88 N n a0 l1 l2 l3 l4 l6 l8 l10 l11 s = some (r, sF) → V X (cX9_jointOf, RX9, 13, 3, 70, false) (vRet sF none none) sF s (G0 X 88 ls []) := by
  intro n
  induction n with
  | zero => intro a0 l1 l2 l3 l4 l6 l8 l10 l11 s ls hl h; cases h
  | succ n ih =>
   intro a0 l1 l2 l3 l4 l6 l8 l10 l11 s ls hl h
   unfold H_X9_jointOf_88 at h
   refine v_iload dX9_jointOf_88 (lv_at hl 8 rfl) ?_
   refine v_iconst (1 : Int32) dX9_jointOf_90 (by decide) ?_
   refine v_aload_n dX9_jointOf_91 rfl (lv_at hl 0 rfl) ?_
   refine v_getI 9 7 h (by decide) (Or.inl rfl) qfX9_133 dX9_jointOf_92 (fun v5 h => ?_)
   refine v_ishl dX9_jointOf_95 ?_
   refine v_icmp_ge 212 dX9_jointOf_96 (by decide) h (fun h => ?_) (fun h => ?_)
   · refine v_aload_n dX9_jointOf_212 rfl (lv_at hl 0 rfl) ?_
     refine v_lload dX9_jointOf_213 (lv_at hl 5 rfl) ?_
     refine v_lload dX9_jointOf_215 (lv_at hl 6 rfl) ?_
     refine k_X9_lay h qmX9_160 (by decide) hl.1 (Nat.le_of_ble_eq_true rfl) dX9_jointOf_217 (fun v6 s h => ?_)
     exact v_vret dX9_jointOf_220 h
   · refine v_iconst (0 : Int32) dX9_jointOf_99 (by decide) ?_
     refine v_istore [(12, .int (0 : Int32)), (0, .ref (xb X + a0)), (1, .int l1), (2, .int l2), (3, .int l3), (4, .int l4), (6, .long l6), (8, .long l8), (10, .int l10), (11, .int l11)] dX9_jointOf_100 hl (by decide) rfl (fun ls hl => ?_)
     exact L_X9_jointOf_102 N (H_X9_jointOf_88 N n) ih N a0 l1 l2 l3 l4 l6 l8 l10 l11 (0 : Int32) s ls (lv_sub hl [1, 2, 3, 4, 5, 6, 7, 8, 9, 0] rfl) h
set_option maxHeartbeats 4000000 in
set_option maxRecDepth 100000 in
theorem L_X9_jointOf_83 {X : VX} {sF : vS} {r : Unit} (N : Nat) (a0 : Nat) (l1 : Int32) (l2 : Int32) (l3 : Int32) (l4 : Int32) (l6 : Int64) (l8 : Int64) (k0 : Int32) (s : vS) (ls : Array Slot) (hl : lv_has ls 13 [(0, .ref (xb X + a0)), (1, .int l1), (2, .int l2), (3, .int l3), (4, .int l4), (6, .long l6), (8, .long l8)]) (h : J_X9_jointOf_83 N a0 l1 l2 l3 l4 l6 l8 k0 s = some (r, sF)) : V X (cX9_jointOf, RX9, 13, 3, 70, false) (vRet sF none none) sF s (G0 X 83 ls [.int k0]) := by
  unfold J_X9_jointOf_83 at h
  refine v_istore [(10, .int k0), (0, .ref (xb X + a0)), (1, .int l1), (2, .int l2), (3, .int l3), (4, .int l4), (6, .long l6), (8, .long l8)] dX9_jointOf_83 hl (by decide) rfl (fun ls hl => ?_)
  refine v_iconst (0 : Int32) dX9_jointOf_85 (by decide) ?_
  refine v_istore [(11, .int (0 : Int32)), (10, .int k0), (0, .ref (xb X + a0)), (1, .int l1), (2, .int l2), (3, .int l3), (4, .int l4), (6, .long l6), (8, .long l8)] dX9_jointOf_86 hl (by decide) rfl (fun ls hl => ?_)
  exact L_X9_jointOf_88 N N a0 l1 l2 l3 l4 l6 l8 k0 (0 : Int32) s ls (lv_sub hl [2, 3, 4, 5, 6, 7, 8, 1, 0] rfl) h
set_option maxHeartbeats 4000000 in
set_option maxRecDepth 100000 in
theorem L_X9_jointOf_63 {X : VX} {sF : vS} {r : Unit} (N : Nat) (k9 : Nat → Int32 → Int32 → Int32 → Int32 → Int32 → Int64 → Int64 → Int32 → vS → Option (Unit × vS)) (hk9 : ∀ (a0 : Nat) (l1 : Int32) (l2 : Int32) (l3 : Int32) (l4 : Int32) (l5 : Int32) (l6 : Int64) (l8 : Int64) (l10 : Int32) (s : vS) (ls : Array Slot), lv_has ls 13 [(0, .ref (xb X + a0)), (1, .int l1), (2, .int l2), (3, .int l3), (4, .int l4), (5, .int l5), (6, .long l6), (8, .long l8), (10, .int l10)] → k9 a0 l1 l2 l3 l4 l5 l6 l8 l10 s = some (r, sF) → V X (cX9_jointOf, RX9, 13, 3, 70, false) (vRet sF none none) sF s (G0 X 9 ls [])) (a0 : Nat) (l1 : Int32) (l2 : Int32) (l3 : Int32) (l4 : Int32) (l5 : Int32) (l6 : Int64) (l8 : Int64) (l10 : Int32) (k0 : Nat) (k1 : Int32) (k2 : Int32) (s : vS) (ls : Array Slot) (hl : lv_has ls 13 [(0, .ref (xb X + a0)), (1, .int l1), (2, .int l2), (3, .int l3), (4, .int l4), (5, .int l5), (6, .long l6), (8, .long l8), (10, .int l10)]) (h : J_X9_jointOf_63 N k9 a0 l1 l2 l3 l4 l5 l6 l8 l10 k0 k1 k2 s = some (r, sF)) : V X (cX9_jointOf, RX9, 13, 3, 70, false) (vRet sF none none) sF s (G0 X 63 ls [.int k2, .int k1, .ref (xb X + k0)]) := by
  unfold J_X9_jointOf_63 at h
  refine v_iast dX9_jointOf_63 h (fun s h => ?_)
  refine v_inc (fun z => [(10, .int z), (0, .ref (xb X + a0)), (1, .int l1), (2, .int l2), (3, .int l3), (4, .int l4), (5, .int l5), (6, .long l6), (8, .long l8)]) dX9_jointOf_64 h hl (k := 8) rfl (by rfl) (by decide) (fun _ => rfl) (fun l10_7 ls hl h => ?_)
  refine v_goto 9 dX9_jointOf_67 (by decide) ?_
  exact hk9 a0 l1 l2 l3 l4 l5 l6 l8 l10_7 s ls (lv_sub hl [1, 2, 3, 4, 5, 6, 7, 8, 0] rfl) h
set_option maxHeartbeats 4000000 in
set_option maxRecDepth 100000 in
theorem L_X9_jointOf_62 {X : VX} {sF : vS} {r : Unit} (N : Nat) (k9 : Nat → Int32 → Int32 → Int32 → Int32 → Int32 → Int64 → Int64 → Int32 → vS → Option (Unit × vS)) (hk9 : ∀ (a0 : Nat) (l1 : Int32) (l2 : Int32) (l3 : Int32) (l4 : Int32) (l5 : Int32) (l6 : Int64) (l8 : Int64) (l10 : Int32) (s : vS) (ls : Array Slot), lv_has ls 13 [(0, .ref (xb X + a0)), (1, .int l1), (2, .int l2), (3, .int l3), (4, .int l4), (5, .int l5), (6, .long l6), (8, .long l8), (10, .int l10)] → k9 a0 l1 l2 l3 l4 l5 l6 l8 l10 s = some (r, sF) → V X (cX9_jointOf, RX9, 13, 3, 70, false) (vRet sF none none) sF s (G0 X 9 ls [])) (a0 : Nat) (l1 : Int32) (l2 : Int32) (l3 : Int32) (l4 : Int32) (l5 : Int32) (l6 : Int64) (l8 : Int64) (l10 : Int32) (k0 : Nat) (k1 : Int32) (s : vS) (ls : Array Slot) (hl : lv_has ls 13 [(0, .ref (xb X + a0)), (1, .int l1), (2, .int l2), (3, .int l3), (4, .int l4), (5, .int l5), (6, .long l6), (8, .long l8), (10, .int l10)]) (h : J_X9_jointOf_62 N k9 a0 l1 l2 l3 l4 l5 l6 l8 l10 k0 k1 s = some (r, sF)) : V X (cX9_jointOf, RX9, 13, 3, 70, false) (vRet sF none none) sF s (G0 X 62 ls [.int k1, .ref (xb X + k0)]) := by
  unfold J_X9_jointOf_62 at h
  refine v_iconst (-1 : Int32) dX9_jointOf_62 (by decide) ?_
  exact L_X9_jointOf_63 N k9 hk9 a0 l1 l2 l3 l4 l5 l6 l8 l10 k0 k1 (-1 : Int32) s ls (lv_sub hl [0, 1, 2, 3, 4, 5, 6, 7, 8] rfl) h
set_option maxHeartbeats 4000000 in
set_option maxRecDepth 100000 in
theorem L_X9_jointOf_51 {X : VX} {sF : vS} {r : Unit} (N : Nat) (k9 : Nat → Int32 → Int32 → Int32 → Int32 → Int32 → Int64 → Int64 → Int32 → vS → Option (Unit × vS)) (hk9 : ∀ (a0 : Nat) (l1 : Int32) (l2 : Int32) (l3 : Int32) (l4 : Int32) (l5 : Int32) (l6 : Int64) (l8 : Int64) (l10 : Int32) (s : vS) (ls : Array Slot), lv_has ls 13 [(0, .ref (xb X + a0)), (1, .int l1), (2, .int l2), (3, .int l3), (4, .int l4), (5, .int l5), (6, .long l6), (8, .long l8), (10, .int l10)] → k9 a0 l1 l2 l3 l4 l5 l6 l8 l10 s = some (r, sF) → V X (cX9_jointOf, RX9, 13, 3, 70, false) (vRet sF none none) sF s (G0 X 9 ls [])) (a0 : Nat) (l1 : Int32) (l2 : Int32) (l3 : Int32) (l4 : Int32) (l5 : Int32) (l6 : Int64) (l8 : Int64) (l10 : Int32) (k0 : Nat) (k1 : Int32) (s : vS) (ls : Array Slot) (hl : lv_has ls 13 [(0, .ref (xb X + a0)), (1, .int l1), (2, .int l2), (3, .int l3), (4, .int l4), (5, .int l5), (6, .long l6), (8, .long l8), (10, .int l10)]) (h : J_X9_jointOf_51 N k9 a0 l1 l2 l3 l4 l5 l6 l8 l10 k0 k1 s = some (r, sF)) : V X (cX9_jointOf, RX9, 13, 3, 70, false) (vRet sF none none) sF s (G0 X 51 ls [.int k1, .ref (xb X + k0)]) := by
  unfold J_X9_jointOf_51 at h
  refine v_aload_n dX9_jointOf_51 rfl (lv_at hl 0 rfl) ?_
  refine v_iload dX9_jointOf_52 (lv_at hl 8 rfl) ?_
  refine v_iload dX9_jointOf_54 (lv_at hl 5 rfl) ?_
  refine k_X9_numberOn h qmX9_157 (by decide) hl.1 (Nat.le_of_ble_eq_true rfl) dX9_jointOf_56 (fun v4 s h => ?_)
  refine v_goto 63 dX9_jointOf_59 (by decide) ?_
  exact L_X9_jointOf_63 N k9 hk9 a0 l1 l2 l3 l4 l5 l6 l8 l10 k0 k1 v4 s ls (lv_sub hl [0, 1, 2, 3, 4, 5, 6, 7, 8] rfl) h
set_option maxHeartbeats 4000000 in
set_option maxRecDepth 100000 in
theorem L_X9_jointOf_9 {X : VX} {sF : vS} {r : Unit} (N : Nat) : ∀ (n : Nat) (a0 : Nat) (l1 : Int32) (l2 : Int32) (l3 : Int32) (l4 : Int32) (l5 : Int32) (l6 : Int64) (l8 : Int64) (l10 : Int32) (s : vS) (ls : Array Slot), lv_has ls 13 [(0, .ref (xb X + a0)), (1, .int l1), (2, .int l2), (3, .int l3), (4, .int l4), (5, .int l5), (6, .long l6), (8, .long l8), (10, .int l10)] → H_X9_jointOf_9 N n a0 l1 l2 l3 l4 l5 l6 l8 l10 s = some (r, sF) → V X (cX9_jointOf, RX9, 13, 3, 70, false) (vRet sF none none) sF s (G0 X 9 ls []) := by
  intro n
  induction n with
  | zero => intro a0 l1 l2 l3 l4 l5 l6 l8 l10 s ls hl h; cases h
  | succ n ih =>
   intro a0 l1 l2 l3 l4 l5 l6 l8 l10 s ls hl h
   unfold H_X9_jointOf_9 at h
   refine v_iload dX9_jointOf_9 (lv_at hl 8 rfl) ?_
   refine v_iconst (1 : Int32) dX9_jointOf_11 (by decide) ?_
   refine v_aload_n dX9_jointOf_12 rfl (lv_at hl 0 rfl) ?_
   refine v_getI 9 7 h (by decide) (Or.inl rfl) qfX9_133 dX9_jointOf_13 (fun v1 h => ?_)
   refine v_ishl dX9_jointOf_16 ?_
   refine v_icmp_ge 70 dX9_jointOf_17 (by decide) h (fun h => ?_) (fun h => ?_)
   · refine v_iload dX9_jointOf_70 (lv_at hl 5 rfl) ?_
     refine v_if_ge 79 dX9_jointOf_72 (by decide) h (fun h => ?_) (fun h => ?_)
     · refine v_iconst (1 : Int32) dX9_jointOf_79 (by decide) ?_
       refine v_iload dX9_jointOf_80 (lv_at hl 5 rfl) ?_
       refine v_ishl dX9_jointOf_82 ?_
       exact L_X9_jointOf_83 N a0 l1 l2 l3 l4 l6 l8 ((1 : Int32) <<< (l5 &&& 31)) s ls (lv_sub hl [0, 1, 2, 3, 4, 6, 7] rfl) h
     · refine v_iconst (0 : Int32) dX9_jointOf_75 (by decide) ?_
       refine v_goto 83 dX9_jointOf_76 (by decide) ?_
       exact L_X9_jointOf_83 N a0 l1 l2 l3 l4 l6 l8 (0 : Int32) s ls (lv_sub hl [0, 1, 2, 3, 4, 6, 7] rfl) h
   · refine v_aload_n dX9_jointOf_20 rfl (lv_at hl 0 rfl) ?_
     refine v_getR 9 26 h (by decide) rfl qfX9_87 dX9_jointOf_21 (fun r2 h => ?_)
     refine v_iload dX9_jointOf_24 (lv_at hl 8 rfl) ?_
     refine v_iload dX9_jointOf_26 (lv_at hl 8 rfl) ?_
     refine k_X9_ones h qmX9_140 (by decide) hl.1 (Nat.le_of_ble_eq_true rfl) dX9_jointOf_28 (fun v3 s h => ?_)
     refine v_iconst (5 : Int32) dX9_jointOf_31 (by decide) ?_
     refine v_icmp_ge 62 dX9_jointOf_32 (by decide) h (fun h => ?_) (fun h => ?_)
     · exact L_X9_jointOf_62 N (H_X9_jointOf_9 N n) ih a0 l1 l2 l3 l4 l5 l6 l8 l10 r2 l10 s ls (lv_sub hl [0, 1, 2, 3, 4, 5, 6, 7, 8] rfl) h
     · refine v_iload dX9_jointOf_35 (lv_at hl 5 rfl) ?_
       refine v_if_lt 51 dX9_jointOf_37 (by decide) h (fun h => ?_) (fun h => ?_)
       · exact L_X9_jointOf_51 N (H_X9_jointOf_9 N n) ih a0 l1 l2 l3 l4 l5 l6 l8 l10 r2 l10 s ls (lv_sub hl [0, 1, 2, 3, 4, 5, 6, 7, 8] rfl) h
       · refine v_iload dX9_jointOf_40 (lv_at hl 8 rfl) ?_
         refine v_iload dX9_jointOf_42 (lv_at hl 5 rfl) ?_
         refine v_ishr dX9_jointOf_44 ?_
         refine v_iconst (1 : Int32) dX9_jointOf_45 (by decide) ?_
         refine v_iand dX9_jointOf_46 ?_
         refine v_iconst (1 : Int32) dX9_jointOf_47 (by decide) ?_
         refine v_icmp_ne 62 dX9_jointOf_48 (by decide) h (fun h => ?_) (fun h => ?_)
         · exact L_X9_jointOf_62 N (H_X9_jointOf_9 N n) ih a0 l1 l2 l3 l4 l5 l6 l8 l10 r2 l10 s ls (lv_sub hl [0, 1, 2, 3, 4, 5, 6, 7, 8] rfl) h
         · exact L_X9_jointOf_51 N (H_X9_jointOf_9 N n) ih a0 l1 l2 l3 l4 l5 l6 l8 l10 r2 l10 s ls (lv_sub hl [0, 1, 2, 3, 4, 5, 6, 7, 8] rfl) h
theorem vl_X9_jointOf : vCl yX9_jointOf cX9_jointOf 13 none 5 := ⟨qy_X9_jointOf, qjX9, by decide +kernel, by decide +kernel, by decide +kernel⟩
set_option maxHeartbeats 4000000 in
set_option maxRecDepth 100000 in
theorem c_X9_jointOf {l : Launch} {D : va_G} {ka : Nat → ClassId} (X0 : VX) (N : Nat) (a0 : Nat) (l1 : Int32) (l2 : Int32) (l3 : Int32) (l4 : Int32) (l5 : Int32) (s sF : vS) (r : Unit) (h : F_X9_jointOf N a0 l1 l2 l3 l4 l5 s = some (r, sF)) : isO s a0 9 = true ∧ vMet l D ka (xb X0) yX9_jointOf cX9_jointOf 13 none 3 70 [.ref (xb X0 + a0), .int l1, .int l2, .int l3, .int l4, .int l5] s sF none := by
  unfold F_X9_jointOf at h
  unfold rcv at h
  obtain ⟨hO, h⟩ := v_chk h
  refine ⟨hO, vMet.of (ini := false) X0 (plainFor_of_name (by decide +kernel)) (Nat.le_of_ble_eq_true rfl) (fun h => by cases h) (fun X ls hb hl => ?_) rfl⟩
  show V X (cX9_jointOf, RX9, 13, 3, 70, false) (vRet sF none none) sF s (G0 X 0 ls [])
  rw [← hb] at hl
  have hl : lv_has ls 13 [(0, .ref (xb X + a0)), (1, .int l1), (2, .int l2), (3, .int l3), (4, .int l4), (5, .int l5)] := hl
  refine v_lconst (0 : Int64) dX9_jointOf_0 (by decide) ?_
  refine v_lstore [(6, .long (0 : Int64)), (0, .ref (xb X + a0)), (1, .int l1), (2, .int l2), (3, .int l3), (4, .int l4), (5, .int l5)] dX9_jointOf_1 hl (by decide) rfl (fun ls hl => ?_)
  refine v_lconst (0 : Int64) dX9_jointOf_3 (by decide) ?_
  refine v_lstore [(8, .long (0 : Int64)), (6, .long (0 : Int64)), (0, .ref (xb X + a0)), (1, .int l1), (2, .int l2), (3, .int l3), (4, .int l4), (5, .int l5)] dX9_jointOf_4 hl (by decide) rfl (fun ls hl => ?_)
  refine v_iconst (0 : Int32) dX9_jointOf_6 (by decide) ?_
  refine v_istore [(10, .int (0 : Int32)), (8, .long (0 : Int64)), (6, .long (0 : Int64)), (0, .ref (xb X + a0)), (1, .int l1), (2, .int l2), (3, .int l3), (4, .int l4), (5, .int l5)] dX9_jointOf_7 hl (by decide) rfl (fun ls hl => ?_)
  exact L_X9_jointOf_9 N N a0 l1 l2 l3 l4 l5 (0 : Int64) (0 : Int64) (0 : Int32) s ls (lv_sub hl [3, 4, 5, 6, 7, 8, 2, 1, 0] rfl) h
theorem k_X9_jointOf {X : VX} {cc : ByteArray} {own : String} {nL fr lo : Nat} {ini : Bool} {E : VX → Prop} {sF s : vS} {ρ : Type} {res : ρ} {pc : Nat} {ls : Array Slot} {rest : List Value} {N index : Nat} {a0 : Nat} {l1 : Int32} {l2 : Int32} {l3 : Int32} {l4 : Int32} {l5 : Int32} {f : Unit → vS → Option ρ} (h : bnd (F_X9_jointOf N a0 l1 l2 l3 l4 l5 s) f = some res) (hlink : Cond.methodLink own index yX9_jointOf ∈ TT) (hR : 3 + 1 ≤ fr ∧ 8 + (13 + 11) + 70 ≤ lo) (hls : ls.size = nL) (hr : (rest.map fun v => v.category).sum ≤ 8) (hdg : decode cc pc = .ok (.invokevirtual index, 3)) (kk : ∀ r s', f r s' = some res → V X (cc, own, nL, fr, lo, ini) E sF s' (G0 X (pc + 3) ls (rest))) : V X (cc, own, nL, fr, lo, ini) E sF s (G0 X pc ls (.int l5 :: .int l4 :: .int l3 :: .int l2 :: .int l1 :: .ref (xb X + a0) :: rest)) := by
  obtain ⟨r, s', e, h⟩ := bnd_some h
  exact v_callV (b := a0) (ci := 9) (As := [.int l1, .int l2, .int l3, .int l4, .int l5]) (rest := rest) (c_X9_jointOf X N a0 l1 l2 l3 l4 l5 s s' r e).2 (c_X9_jointOf (l := xl X) (D := xD X) (ka := xka X) X N a0 l1 l2 l3 l4 l5 s s' r e).1 rfl vl_X9_jointOf qi_X9_jointOf qe_X9_jointOf hlink hR rfl rfl hls hr hdg (kk r s' h)
set_option maxHeartbeats 4000000 in
set_option maxRecDepth 100000 in
theorem L_X9_part_15 {X : VX} {sF : vS} {r : Int64} (N : Nat) (k0 : Int64) (s : vS) (ls : Array Slot) (hl : lv_has ls 2 []) (h : J_X9_part_15 N k0 s = some (r, sF)) : V X (cX9_part, RX9, 2, 0, 0, false) (vRet sF (some (.long r)) (some .long)) sF s (G0 X 15 ls [.long k0]) := by
  unfold J_X9_part_15 at h
  exact v_lret dX9_part_15 h
theorem vl_X9_part : vCl yX9_part cX9_part 2 (some .long) 1 := ⟨qy_X9_part, qjX9, by decide +kernel, by decide +kernel, by decide +kernel⟩
set_option maxHeartbeats 4000000 in
set_option maxRecDepth 100000 in
theorem c_X9_part {l : Launch} {D : va_G} {ka : Nat → ClassId} (X0 : VX) (N : Nat) (a0 : Nat) (l1 : Int32) (s sF : vS) (r : Int64) (h : F_X9_part N a0 l1 s = some (r, sF)) : isO s a0 9 = true ∧ vMet l D ka (xb X0) yX9_part cX9_part 2 (some .long) 0 0 [.ref (xb X0 + a0), .int l1] s sF (some (.long r)) := by
  unfold F_X9_part at h
  unfold rcv at h
  obtain ⟨hO, h⟩ := v_chk h
  refine ⟨hO, vMet.of (ini := false) X0 (plainFor_of_name (by decide +kernel)) (Nat.le_of_ble_eq_true rfl) (fun h => by cases h) (fun X ls hb hl => ?_) rfl⟩
  show V X (cX9_part, RX9, 2, 0, 0, false) (vRet sF (some (.long r)) (some .long)) sF s (G0 X 0 ls [])
  rw [← hb] at hl
  have hl : lv_has ls 2 [(0, .ref (xb X + a0)), (1, .int l1)] := hl
  refine v_iload_n dX9_part_0 rfl (lv_at hl 1 rfl) ?_
  refine v_if_ne 11 dX9_part_1 (by decide) h (fun h => ?_) (fun h => ?_)
  · refine v_aload_n dX9_part_11 rfl (lv_at hl 0 rfl) ?_
    refine v_getJ 9 24 h (by decide) rfl qfX9_154 dX9_part_12 (fun v1 h => ?_)
    exact L_X9_part_15 N v1 s ls (lv_sub hl [] rfl) h
  · refine v_aload_n dX9_part_4 rfl (lv_at hl 0 rfl) ?_
    refine v_getJ 9 23 h (by decide) rfl qfX9_150 dX9_part_5 (fun v2 h => ?_)
    refine v_goto 15 dX9_part_8 (by decide) ?_
    exact L_X9_part_15 N v2 s ls (lv_sub hl [] rfl) h
theorem k_X9_part {X : VX} {cc : ByteArray} {own : String} {nL fr lo : Nat} {ini : Bool} {E : VX → Prop} {sF s : vS} {ρ : Type} {res : ρ} {pc : Nat} {ls : Array Slot} {rest : List Value} {N index : Nat} {a0 : Nat} {l1 : Int32} {f : Int64 → vS → Option ρ} (h : bnd (F_X9_part N a0 l1 s) f = some res) (hlink : Cond.methodLink own index yX9_part ∈ TT) (hR : 0 + 1 ≤ fr ∧ 8 + (2 + 11) + 0 ≤ lo) (hls : ls.size = nL) (hr : (rest.map fun v => v.category).sum ≤ 8) (hdg : decode cc pc = .ok (.invokevirtual index, 3)) (kk : ∀ r s', f r s' = some res → V X (cc, own, nL, fr, lo, ini) E sF s' (G0 X (pc + 3) ls (.long r :: rest))) : V X (cc, own, nL, fr, lo, ini) E sF s (G0 X pc ls (.int l1 :: .ref (xb X + a0) :: rest)) := by
  obtain ⟨r, s', e, h⟩ := bnd_some h
  exact v_callV (b := a0) (ci := 9) (As := [.int l1]) (rest := rest) (c_X9_part X N a0 l1 s s' r e).2 (c_X9_part (l := xl X) (D := xD X) (ka := xka X) X N a0 l1 s s' r e).1 rfl vl_X9_part qi_X9_part qe_X9_part hlink hR rfl rfl hls hr hdg (kk r s' h)
set_option maxHeartbeats 4000000 in
set_option maxRecDepth 100000 in
theorem L_X9_multiplied_61 {X : VX} {sF : vS} {r : Int64} (N : Nat) (l5 : Int64) (k0 : Nat) (k1 : Int32) (s : vS) (ls : Array Slot) (hl : lv_has ls 8 [(5, .long l5)]) (h : J_X9_multiplied_61 N l5 k0 k1 s = some (r, sF)) : V X (cX9_multiplied, RX9, 8, 0, 0, false) (vRet sF (some (.long r)) (some .long)) sF s (G0 X 61 ls [.int k1, .ref (xb X + k0)]) := by
  unfold J_X9_multiplied_61 at h
  refine v_putZ 9 25 h (by decide) rfl (Or.inl rfl) qfX9_168 dX9_multiplied_61 (fun s h => ?_)
  refine v_lload dX9_multiplied_64 (lv_at hl 0 rfl) ?_
  exact v_lret dX9_multiplied_66 h
set_option maxHeartbeats 4000000 in
set_option maxRecDepth 100000 in
theorem L_X9_multiplied_56 {X : VX} {sF : vS} {r : Int64} (N : Nat) (l5 : Int64) (k0 : Nat) (s : vS) (ls : Array Slot) (hl : lv_has ls 8 [(5, .long l5)]) (h : J_X9_multiplied_56 N l5 k0 s = some (r, sF)) : V X (cX9_multiplied, RX9, 8, 0, 0, false) (vRet sF (some (.long r)) (some .long)) sF s (G0 X 56 ls [.ref (xb X + k0)]) := by
  unfold J_X9_multiplied_56 at h
  refine v_iconst (1 : Int32) dX9_multiplied_56 (by decide) ?_
  refine v_goto 61 dX9_multiplied_57 (by decide) ?_
  exact L_X9_multiplied_61 N l5 k0 (1 : Int32) s ls (lv_sub hl [0] rfl) h
set_option maxHeartbeats 4000000 in
set_option maxRecDepth 100000 in
theorem L_X9_multiplied_41 {X : VX} {sF : vS} {r : Int64} (N : Nat) (a0 : Nat) (l5 : Int64) (k0 : Int32) (s : vS) (ls : Array Slot) (hl : lv_has ls 8 [(0, .ref (xb X + a0)), (5, .long l5)]) (h : J_X9_multiplied_41 N a0 l5 k0 s = some (r, sF)) : V X (cX9_multiplied, RX9, 8, 0, 0, false) (vRet sF (some (.long r)) (some .long)) sF s (G0 X 41 ls [.int k0]) := by
  unfold J_X9_multiplied_41 at h
  refine v_istore [(7, .int k0), (0, .ref (xb X + a0)), (5, .long l5)] dX9_multiplied_41 hl (by decide) rfl (fun ls hl => ?_)
  refine v_aload_n dX9_multiplied_43 rfl (lv_at hl 1 rfl) ?_
  refine v_aload_n dX9_multiplied_44 rfl (lv_at hl 1 rfl) ?_
  refine v_getI 9 25 h (by decide) (Or.inr rfl) qfX9_168 dX9_multiplied_45 (fun v2 h => ?_)
  refine v_if_ne 56 dX9_multiplied_48 (by decide) h (fun h => ?_) (fun h => ?_)
  · exact L_X9_multiplied_56 N l5 a0 s ls (lv_sub hl [2] rfl) h
  · refine v_iload dX9_multiplied_51 (lv_at hl 0 rfl) ?_
    refine v_if_eq 60 dX9_multiplied_53 (by decide) h (fun h => ?_) (fun h => ?_)
    · refine v_iconst (0 : Int32) dX9_multiplied_60 (by decide) ?_
      exact L_X9_multiplied_61 N l5 a0 (0 : Int32) s ls (lv_sub hl [2] rfl) h
    · exact L_X9_multiplied_56 N l5 a0 s ls (lv_sub hl [2] rfl) h
set_option maxHeartbeats 4000000 in
set_option maxRecDepth 100000 in
theorem L_X9_multiplied_40 {X : VX} {sF : vS} {r : Int64} (N : Nat) (a0 : Nat) (l5 : Int64) (s : vS) (ls : Array Slot) (hl : lv_has ls 8 [(0, .ref (xb X + a0)), (5, .long l5)]) (h : J_X9_multiplied_40 N a0 l5 s = some (r, sF)) : V X (cX9_multiplied, RX9, 8, 0, 0, false) (vRet sF (some (.long r)) (some .long)) sF s (G0 X 40 ls []) := by
  unfold J_X9_multiplied_40 at h
  refine v_iconst (0 : Int32) dX9_multiplied_40 (by decide) ?_
  exact L_X9_multiplied_41 N a0 l5 (0 : Int32) s ls (lv_sub hl [0, 1] rfl) h
set_option maxHeartbeats 4000000 in
set_option maxRecDepth 100000 in
theorem L_X9_multiplied_36 {X : VX} {sF : vS} {r : Int64} (N : Nat) (a0 : Nat) (l5 : Int64) (s : vS) (ls : Array Slot) (hl : lv_has ls 8 [(0, .ref (xb X + a0)), (5, .long l5)]) (h : J_X9_multiplied_36 N a0 l5 s = some (r, sF)) : V X (cX9_multiplied, RX9, 8, 0, 0, false) (vRet sF (some (.long r)) (some .long)) sF s (G0 X 36 ls []) := by
  unfold J_X9_multiplied_36 at h
  refine v_iconst (1 : Int32) dX9_multiplied_36 (by decide) ?_
  refine v_goto 41 dX9_multiplied_37 (by decide) ?_
  exact L_X9_multiplied_41 N a0 l5 (1 : Int32) s ls (lv_sub hl [0, 1] rfl) h
theorem vl_X9_multiplied : vCl yX9_multiplied cX9_multiplied 8 (some .long) 2 := ⟨qy_X9_multiplied, qjX9, by decide +kernel, by decide +kernel, by decide +kernel⟩
set_option maxHeartbeats 4000000 in
set_option maxRecDepth 100000 in
theorem c_X9_multiplied {l : Launch} {D : va_G} {ka : Nat → ClassId} (X0 : VX) (N : Nat) (a0 : Nat) (l1 : Int64) (l3 : Int64) (s sF : vS) (r : Int64) (h : F_X9_multiplied N a0 l1 l3 s = some (r, sF)) : isO s a0 9 = true ∧ vMet l D ka (xb X0) yX9_multiplied cX9_multiplied 8 (some .long) 0 0 [.ref (xb X0 + a0), .long l1, .long l3] s sF (some (.long r)) := by
  unfold F_X9_multiplied at h
  unfold rcv at h
  obtain ⟨hO, h⟩ := v_chk h
  refine ⟨hO, vMet.of (ini := false) X0 (plainFor_of_name (by decide +kernel)) (Nat.le_of_ble_eq_true rfl) (fun h => by cases h) (fun X ls hb hl => ?_) rfl⟩
  show V X (cX9_multiplied, RX9, 8, 0, 0, false) (vRet sF (some (.long r)) (some .long)) sF s (G0 X 0 ls [])
  rw [← hb] at hl
  have hl : lv_has ls 8 [(0, .ref (xb X + a0)), (1, .long l1), (3, .long l3)] := hl
  refine v_lload_n dX9_multiplied_0 rfl (lv_at hl 1 rfl) ?_
  refine v_lload_n dX9_multiplied_1 rfl (lv_at hl 2 rfl) ?_
  refine v_lmul dX9_multiplied_2 ?_
  refine v_nmJ h (fun l5_1 h => ?_)
  refine v_lstore [(5, .long l5_1), (0, .ref (xb X + a0)), (1, .long l1), (3, .long l3)] dX9_multiplied_3 hl (by decide) rfl (fun ls hl => ?_)
  refine v_lload_n dX9_multiplied_5 rfl (lv_at hl 2 rfl) ?_
  refine v_lconst (0 : Int64) dX9_multiplied_6 (by decide) ?_
  refine v_lcmp dX9_multiplied_7 ?_
  refine v_if_eq 40 dX9_multiplied_8 (by decide) h (fun h => ?_) (fun h => ?_)
  · exact L_X9_multiplied_40 N a0 l5_1 s ls (lv_sub hl [1, 0] rfl) h
  · refine v_lload dX9_multiplied_11 (lv_at hl 0 rfl) ?_
    refine v_lload_n dX9_multiplied_13 rfl (lv_at hl 2 rfl) ?_
    refine v_ldiv dX9_multiplied_14 h (fun h => ?_)
    refine v_lload_n dX9_multiplied_15 rfl (lv_at hl 3 rfl) ?_
    refine v_lcmp dX9_multiplied_16 ?_
    refine v_if_ne 36 dX9_multiplied_17 (by decide) h (fun h => ?_) (fun h => ?_)
    · exact L_X9_multiplied_36 N a0 l5_1 s ls (lv_sub hl [1, 0] rfl) h
    · refine v_lload_n dX9_multiplied_20 rfl (lv_at hl 2 rfl) ?_
      refine v_ldc2 qkX9_164 dX9_multiplied_21 ?_
      refine v_lcmp dX9_multiplied_24 ?_
      refine v_if_ne 40 dX9_multiplied_25 (by decide) h (fun h => ?_) (fun h => ?_)
      · exact L_X9_multiplied_40 N a0 l5_1 s ls (lv_sub hl [1, 0] rfl) h
      · refine v_lload_n dX9_multiplied_28 rfl (lv_at hl 3 rfl) ?_
        refine v_ldc2 qkX9_166 dX9_multiplied_29 ?_
        refine v_lcmp dX9_multiplied_32 ?_
        refine v_if_ne 40 dX9_multiplied_33 (by decide) h (fun h => ?_) (fun h => ?_)
        · exact L_X9_multiplied_40 N a0 l5_1 s ls (lv_sub hl [1, 0] rfl) h
        · exact L_X9_multiplied_36 N a0 l5_1 s ls (lv_sub hl [1, 0] rfl) h
theorem k_X9_multiplied {X : VX} {cc : ByteArray} {own : String} {nL fr lo : Nat} {ini : Bool} {E : VX → Prop} {sF s : vS} {ρ : Type} {res : ρ} {pc : Nat} {ls : Array Slot} {rest : List Value} {N index : Nat} {a0 : Nat} {l1 : Int64} {l3 : Int64} {f : Int64 → vS → Option ρ} (h : bnd (F_X9_multiplied N a0 l1 l3 s) f = some res) (hlink : Cond.methodLink own index yX9_multiplied ∈ TT) (hR : 0 + 1 ≤ fr ∧ 8 + (8 + 11) + 0 ≤ lo) (hls : ls.size = nL) (hr : (rest.map fun v => v.category).sum ≤ 8) (hdg : decode cc pc = .ok (.invokevirtual index, 3)) (kk : ∀ r s', f r s' = some res → V X (cc, own, nL, fr, lo, ini) E sF s' (G0 X (pc + 3) ls (.long r :: rest))) : V X (cc, own, nL, fr, lo, ini) E sF s (G0 X pc ls (.long l3 :: .long l1 :: .ref (xb X + a0) :: rest)) := by
  obtain ⟨r, s', e, h⟩ := bnd_some h
  exact v_callV (b := a0) (ci := 9) (As := [.long l1, .long l3]) (rest := rest) (c_X9_multiplied X N a0 l1 l3 s s' r e).2 (c_X9_multiplied (l := xl X) (D := xD X) (ka := xka X) X N a0 l1 l3 s s' r e).1 rfl vl_X9_multiplied qi_X9_multiplied qe_X9_multiplied hlink hR rfl rfl hls hr hdg (kk r s' h)
set_option maxHeartbeats 4000000 in
set_option maxRecDepth 100000 in
theorem L_X9_plus_98 {X : VX} {sF : vS} {r : Unit} (N : Nat) (s : vS) (ls : Array Slot) (hl : lv_has ls 19 []) (h : J_X9_plus_98 N  s = some (r, sF)) : V X (cX9_plus, RX9, 19, 2, 55, false) (vRet sF none none) sF s (G0 X 98 ls []) := by
  unfold J_X9_plus_98 at h
  exact v_vret dX9_plus_98 h
set_option maxHeartbeats 4000000 in
set_option maxRecDepth 100000 in
theorem L_X9_plus_80 {X : VX} {sF : vS} {r : Unit} (N : Nat) (a0 : Nat) (l15 : Int64) (l17 : Int64) (k0 : Nat) (k1 : Int32) (s : vS) (ls : Array Slot) (hl : lv_has ls 19 [(0, .ref (xb X + a0)), (15, .long l15), (17, .long l17)]) (h : J_X9_plus_80 N a0 l15 l17 k0 k1 s = some (r, sF)) : V X (cX9_plus, RX9, 19, 2, 55, false) (vRet sF none none) sF s (G0 X 80 ls [.int k1, .ref (xb X + k0)]) := by
  unfold J_X9_plus_80 at h
  refine v_putZ 9 25 h (by decide) rfl (Or.inl rfl) qfX9_168 dX9_plus_80 (fun s h => ?_)
  refine v_aload_n dX9_plus_83 rfl (lv_at hl 0 rfl) ?_
  refine v_getI 9 25 h (by decide) (Or.inr rfl) qfX9_168 dX9_plus_84 (fun v7 h => ?_)
  refine v_if_ne 98 dX9_plus_87 (by decide) h (fun h => ?_) (fun h => ?_)
  · exact L_X9_plus_98 N  s ls (lv_sub hl [] rfl) h
  · refine v_aload_n dX9_plus_90 rfl (lv_at hl 0 rfl) ?_
    refine v_lload dX9_plus_91 (lv_at hl 2 rfl) ?_
    refine v_lload dX9_plus_93 (lv_at hl 1 rfl) ?_
    refine k_X9_lay h qmX9_160 (by decide) hl.1 (Nat.le_of_ble_eq_true rfl) dX9_plus_95 (fun v8 s h => ?_)
    exact L_X9_plus_98 N  s ls (lv_sub hl [] rfl) h
set_option maxHeartbeats 4000000 in
set_option maxRecDepth 100000 in
theorem L_X9_plus_75 {X : VX} {sF : vS} {r : Unit} (N : Nat) (a0 : Nat) (l15 : Int64) (l17 : Int64) (k0 : Nat) (s : vS) (ls : Array Slot) (hl : lv_has ls 19 [(0, .ref (xb X + a0)), (15, .long l15), (17, .long l17)]) (h : J_X9_plus_75 N a0 l15 l17 k0 s = some (r, sF)) : V X (cX9_plus, RX9, 19, 2, 55, false) (vRet sF none none) sF s (G0 X 75 ls [.ref (xb X + k0)]) := by
  unfold J_X9_plus_75 at h
  refine v_iconst (1 : Int32) dX9_plus_75 (by decide) ?_
  refine v_goto 80 dX9_plus_76 (by decide) ?_
  exact L_X9_plus_80 N a0 l15 l17 k0 (1 : Int32) s ls (lv_sub hl [0, 1, 2] rfl) h
theorem vl_X9_plus : vCl yX9_plus cX9_plus 19 none 4 := ⟨qy_X9_plus, qjX9, by decide +kernel, by decide +kernel, by decide +kernel⟩
set_option maxHeartbeats 4000000 in
set_option maxRecDepth 100000 in
theorem c_X9_plus {l : Launch} {D : va_G} {ka : Nat → ClassId} (X0 : VX) (N : Nat) (a0 : Nat) (l1 : Int64) (l3 : Int64) (l5 : Int64) (l7 : Int64) (s sF : vS) (r : Unit) (h : F_X9_plus N a0 l1 l3 l5 l7 s = some (r, sF)) : isO s a0 9 = true ∧ vMet l D ka (xb X0) yX9_plus cX9_plus 19 none 2 55 [.ref (xb X0 + a0), .long l1, .long l3, .long l5, .long l7] s sF none := by
  unfold F_X9_plus at h
  unfold rcv at h
  obtain ⟨hO, h⟩ := v_chk h
  refine ⟨hO, vMet.of (ini := false) X0 (plainFor_of_name (by decide +kernel)) (Nat.le_of_ble_eq_true rfl) (fun h => by cases h) (fun X ls hb hl => ?_) rfl⟩
  show V X (cX9_plus, RX9, 19, 2, 55, false) (vRet sF none none) sF s (G0 X 0 ls [])
  rw [← hb] at hl
  have hl : lv_has ls 19 [(0, .ref (xb X + a0)), (1, .long l1), (3, .long l3), (5, .long l5), (7, .long l7)] := hl
  refine v_lload_n dX9_plus_0 rfl (lv_at hl 2 rfl) ?_
  refine v_lload dX9_plus_1 (lv_at hl 4 rfl) ?_
  refine k_X9_common h qmX9_146 (by decide) hl.1 (Nat.le_of_ble_eq_true rfl) dX9_plus_3 (fun v1 s h => ?_)
  refine v_lstore [(9, .long v1), (0, .ref (xb X + a0)), (1, .long l1), (3, .long l3), (5, .long l5), (7, .long l7)] dX9_plus_6 hl (by decide) rfl (fun ls hl => ?_)
  refine v_aload_n dX9_plus_8 rfl (lv_at hl 1 rfl) ?_
  refine v_lload_n dX9_plus_9 rfl (lv_at hl 2 rfl) ?_
  refine v_lload dX9_plus_10 (lv_at hl 5 rfl) ?_
  refine v_lload dX9_plus_12 (lv_at hl 0 rfl) ?_
  refine v_ldiv dX9_plus_14 h (fun h => ?_)
  refine k_X9_multiplied h qmX9_172 (by decide) hl.1 (Nat.le_of_ble_eq_true rfl) dX9_plus_15 (fun v2 s h => ?_)
  refine v_lstore [(11, .long v2), (9, .long v1), (0, .ref (xb X + a0)), (1, .long l1), (3, .long l3), (5, .long l5), (7, .long l7)] dX9_plus_18 hl (by decide) rfl (fun ls hl => ?_)
  refine v_aload_n dX9_plus_20 rfl (lv_at hl 2 rfl) ?_
  refine v_lload dX9_plus_21 (lv_at hl 5 rfl) ?_
  refine v_lload_n dX9_plus_23 rfl (lv_at hl 4 rfl) ?_
  refine v_lload dX9_plus_24 (lv_at hl 1 rfl) ?_
  refine v_ldiv dX9_plus_26 h (fun h => ?_)
  refine k_X9_multiplied h qmX9_172 (by decide) hl.1 (Nat.le_of_ble_eq_true rfl) dX9_plus_27 (fun v3 s h => ?_)
  refine v_lstore [(13, .long v3), (11, .long v2), (9, .long v1), (0, .ref (xb X + a0)), (1, .long l1), (3, .long l3), (5, .long l5), (7, .long l7)] dX9_plus_30 hl (by decide) rfl (fun ls hl => ?_)
  refine v_aload_n dX9_plus_32 rfl (lv_at hl 3 rfl) ?_
  refine v_lload_n dX9_plus_33 rfl (lv_at hl 5 rfl) ?_
  refine v_lload dX9_plus_34 (lv_at hl 7 rfl) ?_
  refine v_lload dX9_plus_36 (lv_at hl 2 rfl) ?_
  refine v_ldiv dX9_plus_38 h (fun h => ?_)
  refine k_X9_multiplied h qmX9_172 (by decide) hl.1 (Nat.le_of_ble_eq_true rfl) dX9_plus_39 (fun v4 s h => ?_)
  refine v_lstore [(15, .long v4), (13, .long v3), (11, .long v2), (9, .long v1), (0, .ref (xb X + a0)), (1, .long l1), (3, .long l3), (5, .long l5), (7, .long l7)] dX9_plus_42 hl (by decide) rfl (fun ls hl => ?_)
  refine v_lload dX9_plus_44 (lv_at hl 2 rfl) ?_
  refine v_lload dX9_plus_46 (lv_at hl 1 rfl) ?_
  refine v_ladd dX9_plus_48 ?_
  refine v_nmJ h (fun l17_5 h => ?_)
  refine v_lstore [(17, .long l17_5), (15, .long v4), (13, .long v3), (11, .long v2), (9, .long v1), (0, .ref (xb X + a0)), (1, .long l1), (3, .long l3), (5, .long l5), (7, .long l7)] dX9_plus_49 hl (by decide) rfl (fun ls hl => ?_)
  refine v_aload_n dX9_plus_51 rfl (lv_at hl 5 rfl) ?_
  refine v_aload_n dX9_plus_52 rfl (lv_at hl 5 rfl) ?_
  refine v_getI 9 25 h (by decide) (Or.inr rfl) qfX9_168 dX9_plus_53 (fun v6 h => ?_)
  refine v_if_ne 75 dX9_plus_56 (by decide) h (fun h => ?_) (fun h => ?_)
  · exact L_X9_plus_75 N a0 v4 l17_5 a0 s ls (lv_sub hl [5, 1, 0] rfl) h
  · refine v_lload dX9_plus_59 (lv_at hl 3 rfl) ?_
    refine v_lload dX9_plus_61 (lv_at hl 0 rfl) ?_
    refine v_lxor dX9_plus_63 ?_
    refine v_lload dX9_plus_64 (lv_at hl 2 rfl) ?_
    refine v_lload dX9_plus_66 (lv_at hl 0 rfl) ?_
    refine v_lxor dX9_plus_68 ?_
    refine v_land dX9_plus_69 ?_
    refine v_lconst (0 : Int64) dX9_plus_70 (by decide) ?_
    refine v_lcmp dX9_plus_71 ?_
    refine v_if_ge 79 dX9_plus_72 (by decide) h (fun h => ?_) (fun h => ?_)
    · refine v_iconst (0 : Int32) dX9_plus_79 (by decide) ?_
      exact L_X9_plus_80 N a0 v4 l17_5 a0 (0 : Int32) s ls (lv_sub hl [5, 1, 0] rfl) h
    · exact L_X9_plus_75 N a0 v4 l17_5 a0 s ls (lv_sub hl [5, 1, 0] rfl) h
theorem k_X9_plus {X : VX} {cc : ByteArray} {own : String} {nL fr lo : Nat} {ini : Bool} {E : VX → Prop} {sF s : vS} {ρ : Type} {res : ρ} {pc : Nat} {ls : Array Slot} {rest : List Value} {N index : Nat} {a0 : Nat} {l1 : Int64} {l3 : Int64} {l5 : Int64} {l7 : Int64} {f : Unit → vS → Option ρ} (h : bnd (F_X9_plus N a0 l1 l3 l5 l7 s) f = some res) (hlink : Cond.methodLink own index yX9_plus ∈ TT) (hR : 2 + 1 ≤ fr ∧ 8 + (19 + 11) + 55 ≤ lo) (hls : ls.size = nL) (hr : (rest.map fun v => v.category).sum ≤ 8) (hdg : decode cc pc = .ok (.invokevirtual index, 3)) (kk : ∀ r s', f r s' = some res → V X (cc, own, nL, fr, lo, ini) E sF s' (G0 X (pc + 3) ls (rest))) : V X (cc, own, nL, fr, lo, ini) E sF s (G0 X pc ls (.long l7 :: .long l5 :: .long l3 :: .long l1 :: .ref (xb X + a0) :: rest)) := by
  obtain ⟨r, s', e, h⟩ := bnd_some h
  exact v_callV (b := a0) (ci := 9) (As := [.long l1, .long l3, .long l5, .long l7]) (rest := rest) (c_X9_plus X N a0 l1 l3 l5 l7 s s' r e).2 (c_X9_plus (l := xl X) (D := xD X) (ka := xka X) X N a0 l1 l3 l5 l7 s s' r e).1 rfl vl_X9_plus qi_X9_plus qe_X9_plus hlink hR rfl rfl hls hr hdg (kk r s' h)
set_option maxHeartbeats 4000000 in
set_option maxRecDepth 100000 in
theorem L_X9_times_61 {X : VX} {sF : vS} {r : Unit} (N : Nat) (s : vS) (ls : Array Slot) (hl : lv_has ls 17 []) (h : J_X9_times_61 N  s = some (r, sF)) : V X (cX9_times, RX9, 17, 2, 55, false) (vRet sF none none) sF s (G0 X 61 ls []) := by
  unfold J_X9_times_61 at h
  exact v_vret dX9_times_61 h
theorem vl_X9_times : vCl yX9_times cX9_times 17 none 4 := ⟨qy_X9_times, qjX9, by decide +kernel, by decide +kernel, by decide +kernel⟩
set_option maxHeartbeats 4000000 in
set_option maxRecDepth 100000 in
theorem c_X9_times {l : Launch} {D : va_G} {ka : Nat → ClassId} (X0 : VX) (N : Nat) (a0 : Nat) (l1 : Int64) (l3 : Int64) (l5 : Int64) (l7 : Int64) (s sF : vS) (r : Unit) (h : F_X9_times N a0 l1 l3 l5 l7 s = some (r, sF)) : isO s a0 9 = true ∧ vMet l D ka (xb X0) yX9_times cX9_times 17 none 2 55 [.ref (xb X0 + a0), .long l1, .long l3, .long l5, .long l7] s sF none := by
  unfold F_X9_times at h
  unfold rcv at h
  obtain ⟨hO, h⟩ := v_chk h
  refine ⟨hO, vMet.of (ini := false) X0 (plainFor_of_name (by decide +kernel)) (Nat.le_of_ble_eq_true rfl) (fun h => by cases h) (fun X ls hb hl => ?_) rfl⟩
  show V X (cX9_times, RX9, 17, 2, 55, false) (vRet sF none none) sF s (G0 X 0 ls [])
  rw [← hb] at hl
  have hl : lv_has ls 17 [(0, .ref (xb X + a0)), (1, .long l1), (3, .long l3), (5, .long l5), (7, .long l7)] := hl
  refine v_lload_n dX9_times_0 rfl (lv_at hl 1 rfl) ?_
  refine v_lload dX9_times_1 (lv_at hl 4 rfl) ?_
  refine k_X9_common h qmX9_146 (by decide) hl.1 (Nat.le_of_ble_eq_true rfl) dX9_times_3 (fun v1 s h => ?_)
  refine v_lstore [(9, .long v1), (0, .ref (xb X + a0)), (1, .long l1), (3, .long l3), (5, .long l5), (7, .long l7)] dX9_times_6 hl (by decide) rfl (fun ls hl => ?_)
  refine v_lload dX9_times_8 (lv_at hl 4 rfl) ?_
  refine v_lload_n dX9_times_10 rfl (lv_at hl 3 rfl) ?_
  refine k_X9_common h qmX9_146 (by decide) hl.1 (Nat.le_of_ble_eq_true rfl) dX9_times_11 (fun v2 s h => ?_)
  refine v_lstore [(11, .long v2), (9, .long v1), (0, .ref (xb X + a0)), (1, .long l1), (3, .long l3), (5, .long l5), (7, .long l7)] dX9_times_14 hl (by decide) rfl (fun ls hl => ?_)
  refine v_aload_n dX9_times_16 rfl (lv_at hl 2 rfl) ?_
  refine v_lload_n dX9_times_17 rfl (lv_at hl 3 rfl) ?_
  refine v_lload dX9_times_18 (lv_at hl 1 rfl) ?_
  refine v_ldiv dX9_times_20 h (fun h => ?_)
  refine v_lload dX9_times_21 (lv_at hl 5 rfl) ?_
  refine v_lload dX9_times_23 (lv_at hl 0 rfl) ?_
  refine v_ldiv dX9_times_25 h (fun h => ?_)
  refine k_X9_multiplied h qmX9_172 (by decide) hl.1 (Nat.le_of_ble_eq_true rfl) dX9_times_26 (fun v3 s h => ?_)
  refine v_lstore [(13, .long v3), (11, .long v2), (9, .long v1), (0, .ref (xb X + a0)), (1, .long l1), (3, .long l3), (5, .long l5), (7, .long l7)] dX9_times_29 hl (by decide) rfl (fun ls hl => ?_)
  refine v_aload_n dX9_times_31 rfl (lv_at hl 3 rfl) ?_
  refine v_lload_n dX9_times_32 rfl (lv_at hl 5 rfl) ?_
  refine v_lload dX9_times_33 (lv_at hl 1 rfl) ?_
  refine v_ldiv dX9_times_35 h (fun h => ?_)
  refine v_lload dX9_times_36 (lv_at hl 7 rfl) ?_
  refine v_lload dX9_times_38 (lv_at hl 2 rfl) ?_
  refine v_ldiv dX9_times_40 h (fun h => ?_)
  refine k_X9_multiplied h qmX9_172 (by decide) hl.1 (Nat.le_of_ble_eq_true rfl) dX9_times_41 (fun v4 s h => ?_)
  refine v_lstore [(15, .long v4), (13, .long v3), (11, .long v2), (9, .long v1), (0, .ref (xb X + a0)), (1, .long l1), (3, .long l3), (5, .long l5), (7, .long l7)] dX9_times_44 hl (by decide) rfl (fun ls hl => ?_)
  refine v_aload_n dX9_times_46 rfl (lv_at hl 4 rfl) ?_
  refine v_getI 9 25 h (by decide) (Or.inr rfl) qfX9_168 dX9_times_47 (fun v5 h => ?_)
  refine v_if_ne 61 dX9_times_50 (by decide) h (fun h => ?_) (fun h => ?_)
  · exact L_X9_times_61 N  s ls (lv_sub hl [] rfl) h
  · refine v_aload_n dX9_times_53 rfl (lv_at hl 4 rfl) ?_
    refine v_lload dX9_times_54 (lv_at hl 1 rfl) ?_
    refine v_lload dX9_times_56 (lv_at hl 0 rfl) ?_
    refine k_X9_lay h qmX9_160 (by decide) hl.1 (Nat.le_of_ble_eq_true rfl) dX9_times_58 (fun v6 s h => ?_)
    exact L_X9_times_61 N  s ls (lv_sub hl [] rfl) h
theorem k_X9_times {X : VX} {cc : ByteArray} {own : String} {nL fr lo : Nat} {ini : Bool} {E : VX → Prop} {sF s : vS} {ρ : Type} {res : ρ} {pc : Nat} {ls : Array Slot} {rest : List Value} {N index : Nat} {a0 : Nat} {l1 : Int64} {l3 : Int64} {l5 : Int64} {l7 : Int64} {f : Unit → vS → Option ρ} (h : bnd (F_X9_times N a0 l1 l3 l5 l7 s) f = some res) (hlink : Cond.methodLink own index yX9_times ∈ TT) (hR : 2 + 1 ≤ fr ∧ 8 + (17 + 11) + 55 ≤ lo) (hls : ls.size = nL) (hr : (rest.map fun v => v.category).sum ≤ 8) (hdg : decode cc pc = .ok (.invokevirtual index, 3)) (kk : ∀ r s', f r s' = some res → V X (cc, own, nL, fr, lo, ini) E sF s' (G0 X (pc + 3) ls (rest))) : V X (cc, own, nL, fr, lo, ini) E sF s (G0 X pc ls (.long l7 :: .long l5 :: .long l3 :: .long l1 :: .ref (xb X + a0) :: rest)) := by
  obtain ⟨r, s', e, h⟩ := bnd_some h
  exact v_callV (b := a0) (ci := 9) (As := [.long l1, .long l3, .long l5, .long l7]) (rest := rest) (c_X9_times X N a0 l1 l3 l5 l7 s s' r e).2 (c_X9_times (l := xl X) (D := xD X) (ka := xka X) X N a0 l1 l3 l5 l7 s s' r e).1 rfl vl_X9_times qi_X9_times qe_X9_times hlink hR rfl rfl hls hr hdg (kk r s' h)
set_option maxHeartbeats 4000000 in
set_option maxRecDepth 100000 in
theorem L_X9_addTo_58 {X : VX} {sF : vS} {r : Unit} (N : Nat) (s : vS) (ls : Array Slot) (hl : lv_has ls 4 []) (h : J_X9_addTo_58 N  s = some (r, sF)) : V X (cX9_addTo, RX9, 4, 3, 93, false) (vRet sF none none) sF s (G0 X 58 ls []) := by
  unfold J_X9_addTo_58 at h
  exact v_vret dX9_addTo_58 h
theorem vl_X9_addTo : vCl yX9_addTo cX9_addTo 4 none 2 := ⟨qy_X9_addTo, qjX9, by decide +kernel, by decide +kernel, by decide +kernel⟩
set_option maxHeartbeats 4000000 in
set_option maxRecDepth 100000 in
theorem c_X9_addTo {l : Launch} {D : va_G} {ka : Nat → ClassId} (X0 : VX) (N : Nat) (a0 : Nat) (l1 : Int32) (l2 : Int32) (s sF : vS) (r : Unit) (h : F_X9_addTo N a0 l1 l2 s = some (r, sF)) : isO s a0 9 = true ∧ vMet l D ka (xb X0) yX9_addTo cX9_addTo 4 none 3 93 [.ref (xb X0 + a0), .int l1, .int l2] s sF none := by
  unfold F_X9_addTo at h
  unfold rcv at h
  obtain ⟨hO, h⟩ := v_chk h
  refine ⟨hO, vMet.of (ini := false) X0 (plainFor_of_name (by decide +kernel)) (Nat.le_of_ble_eq_true rfl) (fun h => by cases h) (fun X ls hb hl => ?_) rfl⟩
  show V X (cX9_addTo, RX9, 4, 3, 93, false) (vRet sF none none) sF s (G0 X 0 ls [])
  rw [← hb] at hl
  have hl : lv_has ls 4 [(0, .ref (xb X + a0)), (1, .int l1), (2, .int l2)] := hl
  refine v_bipush (29 : Int32) dX9_addTo_0 (by decide) ?_
  refine v_iload_n dX9_addTo_2 rfl (lv_at hl 1 rfl) ?_
  refine v_imul dX9_addTo_3 ?_
  refine v_iload_n dX9_addTo_4 rfl (lv_at hl 2 rfl) ?_
  refine v_iadd dX9_addTo_5 ?_
  refine v_nmI h (fun l3_1 h => ?_)
  refine v_istore_n [(3, .int l3_1), (0, .ref (xb X + a0)), (1, .int l1), (2, .int l2)] dX9_addTo_6 rfl hl (by decide) rfl (fun ls hl => ?_)
  refine v_aload_n dX9_addTo_7 rfl (lv_at hl 1 rfl) ?_
  refine v_aload_n dX9_addTo_8 rfl (lv_at hl 1 rfl) ?_
  refine v_getR 9 11 h (by decide) rfl qfX9_59 dX9_addTo_9 (fun r2 h => ?_)
  refine v_iload_n dX9_addTo_12 rfl (lv_at hl 0 rfl) ?_
  refine v_lald dX9_addTo_13 h (fun v3 h => ?_)
  refine v_aload_n dX9_addTo_14 rfl (lv_at hl 1 rfl) ?_
  refine v_getR 9 12 h (by decide) rfl qfX9_63 dX9_addTo_15 (fun r4 h => ?_)
  refine v_iload_n dX9_addTo_18 rfl (lv_at hl 0 rfl) ?_
  refine v_lald dX9_addTo_19 h (fun v5 h => ?_)
  refine v_aload_n dX9_addTo_20 rfl (lv_at hl 1 rfl) ?_
  refine v_getJ 9 23 h (by decide) rfl qfX9_150 dX9_addTo_21 (fun v6 h => ?_)
  refine v_aload_n dX9_addTo_24 rfl (lv_at hl 1 rfl) ?_
  refine v_getJ 9 24 h (by decide) rfl qfX9_154 dX9_addTo_25 (fun v7 h => ?_)
  refine k_X9_plus h qmX9_175 (by decide) hl.1 (Nat.le_of_ble_eq_true rfl) dX9_addTo_28 (fun v8 s h => ?_)
  refine v_aload_n dX9_addTo_31 rfl (lv_at hl 1 rfl) ?_
  refine v_getI 9 25 h (by decide) (Or.inr rfl) qfX9_168 dX9_addTo_32 (fun v9 h => ?_)
  refine v_if_ne 58 dX9_addTo_35 (by decide) h (fun h => ?_) (fun h => ?_)
  · exact L_X9_addTo_58 N  s ls (lv_sub hl [] rfl) h
  · refine v_aload_n dX9_addTo_38 rfl (lv_at hl 1 rfl) ?_
    refine v_getR 9 11 h (by decide) rfl qfX9_59 dX9_addTo_39 (fun r10 h => ?_)
    refine v_iload_n dX9_addTo_42 rfl (lv_at hl 0 rfl) ?_
    refine v_aload_n dX9_addTo_43 rfl (lv_at hl 1 rfl) ?_
    refine v_getJ 9 23 h (by decide) rfl qfX9_150 dX9_addTo_44 (fun v11 h => ?_)
    refine v_last dX9_addTo_47 h (fun s h => ?_)
    refine v_aload_n dX9_addTo_48 rfl (lv_at hl 1 rfl) ?_
    refine v_getR 9 12 h (by decide) rfl qfX9_63 dX9_addTo_49 (fun r12 h => ?_)
    refine v_iload_n dX9_addTo_52 rfl (lv_at hl 0 rfl) ?_
    refine v_aload_n dX9_addTo_53 rfl (lv_at hl 1 rfl) ?_
    refine v_getJ 9 24 h (by decide) rfl qfX9_154 dX9_addTo_54 (fun v13 h => ?_)
    refine v_last dX9_addTo_57 h (fun s h => ?_)
    exact L_X9_addTo_58 N  s ls (lv_sub hl [] rfl) h
theorem k_X9_addTo {X : VX} {cc : ByteArray} {own : String} {nL fr lo : Nat} {ini : Bool} {E : VX → Prop} {sF s : vS} {ρ : Type} {res : ρ} {pc : Nat} {ls : Array Slot} {rest : List Value} {N index : Nat} {a0 : Nat} {l1 : Int32} {l2 : Int32} {f : Unit → vS → Option ρ} (h : bnd (F_X9_addTo N a0 l1 l2 s) f = some res) (hlink : Cond.methodLink own index yX9_addTo ∈ TT) (hR : 3 + 1 ≤ fr ∧ 8 + (4 + 11) + 93 ≤ lo) (hls : ls.size = nL) (hr : (rest.map fun v => v.category).sum ≤ 8) (hdg : decode cc pc = .ok (.invokevirtual index, 3)) (kk : ∀ r s', f r s' = some res → V X (cc, own, nL, fr, lo, ini) E sF s' (G0 X (pc + 3) ls (rest))) : V X (cc, own, nL, fr, lo, ini) E sF s (G0 X pc ls (.int l2 :: .int l1 :: .ref (xb X + a0) :: rest)) := by
  obtain ⟨r, s', e, h⟩ := bnd_some h
  exact v_callV (b := a0) (ci := 9) (As := [.int l1, .int l2]) (rest := rest) (c_X9_addTo X N a0 l1 l2 s s' r e).2 (c_X9_addTo (l := xl X) (D := xD X) (ka := xka X) X N a0 l1 l2 s s' r e).1 rfl vl_X9_addTo qi_X9_addTo qe_X9_addTo hlink hR rfl rfl hls hr hdg (kk r s' h)
set_option maxHeartbeats 4000000 in
set_option maxRecDepth 100000 in
theorem L_X9_empty_9 {X : VX} {sF : vS} {r : Unit} (N : Nat) : ∀ (n : Nat) (a0 : Nat) (l1 : Int32) (l2 : Int32) (s : vS) (ls : Array Slot), lv_has ls 3 [(0, .ref (xb X + a0)), (1, .int l1), (2, .int l2)] → H_X9_empty_9 N n a0 l1 l2 s = some (r, sF) → V X (cX9_empty, RX9, 3, 0, 0, false) (vRet sF none none) sF s (G0 X 9 ls []) := by
  intro n
  induction n with
  | zero => intro a0 l1 l2 s ls hl h; cases h
  | succ n ih =>
   intro a0 l1 l2 s ls hl h
   unfold H_X9_empty_9 at h
   refine v_iload_n dX9_empty_9 rfl (lv_at hl 2 rfl) ?_
   refine v_bipush (29 : Int32) dX9_empty_10 (by decide) ?_
   refine v_icmp_ge 45 dX9_empty_12 (by decide) h (fun h => ?_) (fun h => ?_)
   · exact v_vret dX9_empty_45 h
   · refine v_aload_n dX9_empty_15 rfl (lv_at hl 0 rfl) ?_
     refine v_getR 9 11 h (by decide) rfl qfX9_59 dX9_empty_16 (fun r2 h => ?_)
     refine v_bipush (29 : Int32) dX9_empty_19 (by decide) ?_
     refine v_iload_n dX9_empty_21 rfl (lv_at hl 1 rfl) ?_
     refine v_imul dX9_empty_22 ?_
     refine v_iload_n dX9_empty_23 rfl (lv_at hl 2 rfl) ?_
     refine v_iadd dX9_empty_24 ?_
     refine v_lconst (0 : Int64) dX9_empty_25 (by decide) ?_
     refine v_last dX9_empty_26 h (fun s h => ?_)
     refine v_aload_n dX9_empty_27 rfl (lv_at hl 0 rfl) ?_
     refine v_getR 9 12 h (by decide) rfl qfX9_63 dX9_empty_28 (fun r3 h => ?_)
     refine v_bipush (29 : Int32) dX9_empty_31 (by decide) ?_
     refine v_iload_n dX9_empty_33 rfl (lv_at hl 1 rfl) ?_
     refine v_imul dX9_empty_34 ?_
     refine v_iload_n dX9_empty_35 rfl (lv_at hl 2 rfl) ?_
     refine v_iadd dX9_empty_36 ?_
     refine v_lconst (1 : Int64) dX9_empty_37 (by decide) ?_
     refine v_last dX9_empty_38 h (fun s h => ?_)
     refine v_inc (fun z => [(2, .int z), (0, .ref (xb X + a0)), (1, .int l1)]) dX9_empty_39 h hl (k := 2) rfl (by rfl) (by decide) (fun _ => rfl) (fun l2_4 ls hl h => ?_)
     refine v_goto 9 dX9_empty_42 (by decide) ?_
     exact ih a0 l1 l2_4 s ls (lv_sub hl [1, 2, 0] rfl) h
