theorem k_X9_rootsOf {X : VX} {cc : ByteArray} {own : String} {nL fr lo : Nat} {ini : Bool} {E : VX → Prop} {sF s : vS} {ρ : Type} {res : ρ} {pc : Nat} {ls : Array Slot} {rest : List Value} {N index : Nat} {a0 : Nat} {l1 : Int32} {f : Int32 → vS → Option ρ} (h : bnd (F_X9_rootsOf N a0 l1 s) f = some res) (hlink : Cond.methodLink own index yX9_rootsOf ∈ TT) (hR : 3 + 1 ≤ fr ∧ 8 + (5 + 11) + 70 ≤ lo) (hls : ls.size = nL) (hr : (rest.map fun v => v.category).sum ≤ 8) (hdg : decode cc pc = .ok (.invokevirtual index, 3)) (kk : ∀ r s', f r s' = some res → V X (cc, own, nL, fr, lo, ini) E sF s' (G0 X (pc + 3) ls (.int r :: rest))) : V X (cc, own, nL, fr, lo, ini) E sF s (G0 X pc ls (.int l1 :: .ref (xb X + a0) :: rest)) := by
  obtain ⟨r, s', e, h⟩ := bnd_some h
  exact v_callV (b := a0) (ci := 9) (As := [.int l1]) (rest := rest) (c_X9_rootsOf X N a0 l1 s s' r e).2 (c_X9_rootsOf (l := xl X) (D := xD X) (ka := xka X) X N a0 l1 s s' r e).1 rfl vl_X9_rootsOf qi_X9_rootsOf qe_X9_rootsOf hlink hR rfl rfl hls hr hdg (kk r s' h)
set_option maxHeartbeats 4000000 in
set_option maxRecDepth 100000 in
theorem L_X9_averageTo_93 {X : VX} {sF : vS} {r : Unit} (N : Nat) (k7 : Nat → Int32 → Int32 → Int32 → vS → Option (Unit × vS)) (hk7 : ∀ (a0 : Nat) (l1 : Int32) (l2 : Int32) (l3 : Int32) (s : vS) (ls : Array Slot), lv_has ls 4 [(0, .ref (xb X + a0)), (1, .int l1), (2, .int l2), (3, .int l3)] → k7 a0 l1 l2 l3 s = some (r, sF) → V X (cX9_averageTo, RX9, 4, 4, 116, false) (vRet sF none none) sF s (G0 X 7 ls [])) (a0 : Nat) (l1 : Int32) (l2 : Int32) (l3 : Int32) (s : vS) (ls : Array Slot) (hl : lv_has ls 4 [(0, .ref (xb X + a0)), (1, .int l1), (2, .int l2), (3, .int l3)]) (h : J_X9_averageTo_93 N k7 a0 l1 l2 l3 s = some (r, sF)) : V X (cX9_averageTo, RX9, 4, 4, 116, false) (vRet sF none none) sF s (G0 X 93 ls []) := by
  unfold J_X9_averageTo_93 at h
  refine v_inc (fun z => [(3, .int z), (0, .ref (xb X + a0)), (1, .int l1), (2, .int l2)]) dX9_averageTo_93 h hl (k := 3) rfl (by rfl) (by decide) (fun _ => rfl) (fun l3_19 ls hl h => ?_)
  refine v_goto 7 dX9_averageTo_96 (by decide) ?_
  exact hk7 a0 l1 l2 l3_19 s ls (lv_sub hl [1, 2, 3, 0] rfl) h
set_option maxHeartbeats 4000000 in
set_option maxRecDepth 100000 in
theorem L_X9_averageTo_7 {X : VX} {sF : vS} {r : Unit} (N : Nat) : ∀ (n : Nat) (a0 : Nat) (l1 : Int32) (l2 : Int32) (l3 : Int32) (s : vS) (ls : Array Slot), lv_has ls 4 [(0, .ref (xb X + a0)), (1, .int l1), (2, .int l2), (3, .int l3)] → H_X9_averageTo_7 N n a0 l1 l2 l3 s = some (r, sF) → V X (cX9_averageTo, RX9, 4, 4, 116, false) (vRet sF none none) sF s (G0 X 7 ls []) := by
  intro n
  induction n with
  | zero => intro a0 l1 l2 l3 s ls hl h; cases h
  | succ n ih =>
   intro a0 l1 l2 l3 s ls hl h
   unfold H_X9_averageTo_7 at h
   refine v_iload_n dX9_averageTo_7 rfl (lv_at hl 3 rfl) ?_
   refine v_bipush (29 : Int32) dX9_averageTo_8 (by decide) ?_
   refine v_icmp_ge 99 dX9_averageTo_10 (by decide) h (fun h => ?_) (fun h => ?_)
   · refine v_aload_n dX9_averageTo_99 rfl (lv_at hl 0 rfl) ?_
     refine v_getR 9 10 h (by decide) rfl qfX9_56 dX9_averageTo_100 (fun r2 h => ?_)
     refine v_iload_n dX9_averageTo_103 rfl (lv_at hl 2 rfl) ?_
     refine v_iconst (0 : Int32) dX9_averageTo_104 (by decide) ?_
     refine v_iast dX9_averageTo_105 h (fun s h => ?_)
     refine v_aload_n dX9_averageTo_106 rfl (lv_at hl 0 rfl) ?_
     refine v_iload_n dX9_averageTo_107 rfl (lv_at hl 2 rfl) ?_
     refine k_X9_settle h qmX9_192 (by decide) hl.1 (Nat.le_of_ble_eq_true rfl) dX9_averageTo_108 (fun v3 s h => ?_)
     exact v_vret dX9_averageTo_111 h
   · refine v_aload_n dX9_averageTo_13 rfl (lv_at hl 0 rfl) ?_
     refine v_iload_n dX9_averageTo_14 rfl (lv_at hl 1 rfl) ?_
     refine v_iload_n dX9_averageTo_15 rfl (lv_at hl 3 rfl) ?_
     refine k_X9_isTerm h qmX9_179 (by decide) hl.1 (Nat.le_of_ble_eq_true rfl) dX9_averageTo_16 (fun v4 s h => ?_)
     refine v_if_eq 93 dX9_averageTo_19 (by decide) h (fun h => ?_) (fun h => ?_)
     · exact L_X9_averageTo_93 N (H_X9_averageTo_7 N n) ih a0 l1 l2 l3 s ls (lv_sub hl [0, 1, 2, 3] rfl) h
     · refine v_aload_n dX9_averageTo_22 rfl (lv_at hl 0 rfl) ?_
       refine v_getI 9 25 h (by decide) (Or.inr rfl) qfX9_168 dX9_averageTo_23 (fun v5 h => ?_)
       refine v_if_ne 93 dX9_averageTo_26 (by decide) h (fun h => ?_) (fun h => ?_)
       · exact L_X9_averageTo_93 N (H_X9_averageTo_7 N n) ih a0 l1 l2 l3 s ls (lv_sub hl [0, 1, 2, 3] rfl) h
       · refine v_aload_n dX9_averageTo_29 rfl (lv_at hl 0 rfl) ?_
         refine v_aload_n dX9_averageTo_30 rfl (lv_at hl 0 rfl) ?_
         refine v_iload_n dX9_averageTo_31 rfl (lv_at hl 3 rfl) ?_
         refine k_X9_rootsOf h qmX9_224 (by decide) hl.1 (Nat.le_of_ble_eq_true rfl) dX9_averageTo_32 (fun v6 s h => ?_)
         refine v_i2l dX9_averageTo_35 ?_
         refine v_aload_n dX9_averageTo_36 rfl (lv_at hl 0 rfl) ?_
         refine v_getR 9 0 h (by decide) rfl qfX9_28 dX9_averageTo_37 (fun r7 h => ?_)
         refine v_bipush (19 : Int32) dX9_averageTo_40 (by decide) ?_
         refine v_iload_n dX9_averageTo_42 rfl (lv_at hl 3 rfl) ?_
         refine v_iadd dX9_averageTo_43 ?_
         refine v_iald dX9_averageTo_44 h (fun v8 h => ?_)
         refine v_i2l dX9_averageTo_45 ?_
         refine k_X9_lay h qmX9_160 (by decide) hl.1 (Nat.le_of_ble_eq_true rfl) dX9_averageTo_46 (fun v9 s h => ?_)
         refine v_aload_n dX9_averageTo_49 rfl (lv_at hl 0 rfl) ?_
         refine v_aload_n dX9_averageTo_50 rfl (lv_at hl 0 rfl) ?_
         refine v_getR 9 11 h (by decide) rfl qfX9_59 dX9_averageTo_51 (fun r10 h => ?_)
         refine v_bipush (29 : Int32) dX9_averageTo_54 (by decide) ?_
         refine v_iload_n dX9_averageTo_56 rfl (lv_at hl 1 rfl) ?_
         refine v_imul dX9_averageTo_57 ?_
         refine v_iload_n dX9_averageTo_58 rfl (lv_at hl 3 rfl) ?_
         refine v_iadd dX9_averageTo_59 ?_
         refine v_lald dX9_averageTo_60 h (fun v11 h => ?_)
         refine v_aload_n dX9_averageTo_61 rfl (lv_at hl 0 rfl) ?_
         refine v_getR 9 12 h (by decide) rfl qfX9_63 dX9_averageTo_62 (fun r12 h => ?_)
         refine v_bipush (29 : Int32) dX9_averageTo_65 (by decide) ?_
         refine v_iload_n dX9_averageTo_67 rfl (lv_at hl 1 rfl) ?_
         refine v_imul dX9_averageTo_68 ?_
         refine v_iload_n dX9_averageTo_69 rfl (lv_at hl 3 rfl) ?_
         refine v_iadd dX9_averageTo_70 ?_
         refine v_lald dX9_averageTo_71 h (fun v13 h => ?_)
         refine v_aload_n dX9_averageTo_72 rfl (lv_at hl 0 rfl) ?_
         refine v_getJ 9 23 h (by decide) rfl qfX9_150 dX9_averageTo_73 (fun v14 h => ?_)
         refine v_aload_n dX9_averageTo_76 rfl (lv_at hl 0 rfl) ?_
         refine v_getJ 9 24 h (by decide) rfl qfX9_154 dX9_averageTo_77 (fun v15 h => ?_)
         refine k_X9_times h qmX9_186 (by decide) hl.1 (Nat.le_of_ble_eq_true rfl) dX9_averageTo_80 (fun v16 s h => ?_)
         refine v_aload_n dX9_averageTo_83 rfl (lv_at hl 0 rfl) ?_
         refine v_iload_n dX9_averageTo_84 rfl (lv_at hl 2 rfl) ?_
         refine v_aload_n dX9_averageTo_85 rfl (lv_at hl 0 rfl) ?_
         refine v_iload_n dX9_averageTo_86 rfl (lv_at hl 3 rfl) ?_
         refine k_X9_plainOf h qmX9_221 (by decide) hl.1 (Nat.le_of_ble_eq_true rfl) dX9_averageTo_87 (fun v17 s h => ?_)
         refine k_X9_addTo h qmX9_189 (by decide) hl.1 (Nat.le_of_ble_eq_true rfl) dX9_averageTo_90 (fun v18 s h => ?_)
         exact L_X9_averageTo_93 N (H_X9_averageTo_7 N n) ih a0 l1 l2 l3 s ls (lv_sub hl [0, 1, 2, 3] rfl) h
theorem vl_X9_averageTo : vCl yX9_averageTo cX9_averageTo 4 none 2 := ⟨qy_X9_averageTo, qjX9, by decide +kernel, by decide +kernel, by decide +kernel⟩
set_option maxHeartbeats 4000000 in
set_option maxRecDepth 100000 in
theorem c_X9_averageTo {l : Launch} {D : va_G} {ka : Nat → ClassId} (X0 : VX) (N : Nat) (a0 : Nat) (l1 : Int32) (l2 : Int32) (s sF : vS) (r : Unit) (h : F_X9_averageTo N a0 l1 l2 s = some (r, sF)) : isO s a0 9 = true ∧ vMet l D ka (xb X0) yX9_averageTo cX9_averageTo 4 none 4 116 [.ref (xb X0 + a0), .int l1, .int l2] s sF none := by
  unfold F_X9_averageTo at h
  unfold rcv at h
  obtain ⟨hO, h⟩ := v_chk h
  refine ⟨hO, vMet.of (ini := false) X0 (plainFor_of_name (by decide +kernel)) (Nat.le_of_ble_eq_true rfl) (fun h => by cases h) (fun X ls hb hl => ?_) rfl⟩
  show V X (cX9_averageTo, RX9, 4, 4, 116, false) (vRet sF none none) sF s (G0 X 0 ls [])
  rw [← hb] at hl
  have hl : lv_has ls 4 [(0, .ref (xb X + a0)), (1, .int l1), (2, .int l2)] := hl
  refine v_aload_n dX9_averageTo_0 rfl (lv_at hl 0 rfl) ?_
  refine v_iload_n dX9_averageTo_1 rfl (lv_at hl 2 rfl) ?_
  refine k_X9_empty h qmX9_210 (by decide) hl.1 (Nat.le_of_ble_eq_true rfl) dX9_averageTo_2 (fun v1 s h => ?_)
  refine v_iconst (0 : Int32) dX9_averageTo_5 (by decide) ?_
  refine v_istore_n [(3, .int (0 : Int32)), (0, .ref (xb X + a0)), (1, .int l1), (2, .int l2)] dX9_averageTo_6 rfl hl (by decide) rfl (fun ls hl => ?_)
  exact L_X9_averageTo_7 N N a0 l1 l2 (0 : Int32) s ls (lv_sub hl [1, 2, 3, 0] rfl) h
theorem k_X9_averageTo {X : VX} {cc : ByteArray} {own : String} {nL fr lo : Nat} {ini : Bool} {E : VX → Prop} {sF s : vS} {ρ : Type} {res : ρ} {pc : Nat} {ls : Array Slot} {rest : List Value} {N index : Nat} {a0 : Nat} {l1 : Int32} {l2 : Int32} {f : Unit → vS → Option ρ} (h : bnd (F_X9_averageTo N a0 l1 l2 s) f = some res) (hlink : Cond.methodLink own index yX9_averageTo ∈ TT) (hR : 4 + 1 ≤ fr ∧ 8 + (4 + 11) + 116 ≤ lo) (hls : ls.size = nL) (hr : (rest.map fun v => v.category).sum ≤ 8) (hdg : decode cc pc = .ok (.invokevirtual index, 3)) (kk : ∀ r s', f r s' = some res → V X (cc, own, nL, fr, lo, ini) E sF s' (G0 X (pc + 3) ls (rest))) : V X (cc, own, nL, fr, lo, ini) E sF s (G0 X pc ls (.int l2 :: .int l1 :: .ref (xb X + a0) :: rest)) := by
  obtain ⟨r, s', e, h⟩ := bnd_some h
  exact v_callV (b := a0) (ci := 9) (As := [.int l1, .int l2]) (rest := rest) (c_X9_averageTo X N a0 l1 l2 s s' r e).2 (c_X9_averageTo (l := xl X) (D := xD X) (ka := xka X) X N a0 l1 l2 s s' r e).1 rfl vl_X9_averageTo qi_X9_averageTo qe_X9_averageTo hlink hR rfl rfl hls hr hdg (kk r s' h)
set_option maxHeartbeats 4000000 in
set_option maxRecDepth 100000 in
theorem L_X9_flag_142 {X : VX} {sF : vS} {r : Int32} (N : Nat) (k97 : Nat → Int32 → Int32 → Int32 → Int32 → vS → Option (Int32 × vS)) (hk97 : ∀ (a0 : Nat) (l1 : Int32) (l3 : Int32) (l4 : Int32) (l5 : Int32) (s : vS) (ls : Array Slot), lv_has ls 6 [(0, .ref (xb X + a0)), (1, .int l1), (3, .int l3), (4, .int l4), (5, .int l5)] → k97 a0 l1 l3 l4 l5 s = some (r, sF) → V X (cX9_flag, RX9, 6, 2, 46, false) (vRet sF (some (.int r)) (some .int)) sF s (G0 X 97 ls [])) (a0 : Nat) (l1 : Int32) (l3 : Int32) (l5 : Int32) (k0 : Int32) (k1 : Int32) (s : vS) (ls : Array Slot) (hl : lv_has ls 6 [(0, .ref (xb X + a0)), (1, .int l1), (3, .int l3), (5, .int l5)]) (h : J_X9_flag_142 N k97 a0 l1 l3 l5 k0 k1 s = some (r, sF)) : V X (cX9_flag, RX9, 6, 2, 46, false) (vRet sF (some (.int r)) (some .int)) sF s (G0 X 142 ls [.int k1, .int k0]) := by
  unfold J_X9_flag_142 at h
  refine v_iadd dX9_flag_142 ?_
  refine v_nmI h (fun l4_21 h => ?_)
  refine v_istore [(4, .int l4_21), (0, .ref (xb X + a0)), (1, .int l1), (3, .int l3), (5, .int l5)] dX9_flag_143 hl (by decide) rfl (fun ls hl => ?_)
  refine v_inc (fun z => [(5, .int z), (4, .int l4_21), (0, .ref (xb X + a0)), (1, .int l1), (3, .int l3)]) dX9_flag_145 h hl (k := 4) rfl (by rfl) (by decide) (fun _ => rfl) (fun l5_22 ls hl h => ?_)
  refine v_goto 97 dX9_flag_148 (by decide) ?_
  exact hk97 a0 l1 l3 l4_21 l5_22 s ls (lv_sub hl [2, 3, 4, 1, 0] rfl) h
set_option maxHeartbeats 4000000 in
set_option maxRecDepth 100000 in
theorem L_X9_flag_141 {X : VX} {sF : vS} {r : Int32} (N : Nat) (k97 : Nat → Int32 → Int32 → Int32 → Int32 → vS → Option (Int32 × vS)) (hk97 : ∀ (a0 : Nat) (l1 : Int32) (l3 : Int32) (l4 : Int32) (l5 : Int32) (s : vS) (ls : Array Slot), lv_has ls 6 [(0, .ref (xb X + a0)), (1, .int l1), (3, .int l3), (4, .int l4), (5, .int l5)] → k97 a0 l1 l3 l4 l5 s = some (r, sF) → V X (cX9_flag, RX9, 6, 2, 46, false) (vRet sF (some (.int r)) (some .int)) sF s (G0 X 97 ls [])) (a0 : Nat) (l1 : Int32) (l3 : Int32) (l5 : Int32) (k0 : Int32) (s : vS) (ls : Array Slot) (hl : lv_has ls 6 [(0, .ref (xb X + a0)), (1, .int l1), (3, .int l3), (5, .int l5)]) (h : J_X9_flag_141 N k97 a0 l1 l3 l5 k0 s = some (r, sF)) : V X (cX9_flag, RX9, 6, 2, 46, false) (vRet sF (some (.int r)) (some .int)) sF s (G0 X 141 ls [.int k0]) := by
  unfold J_X9_flag_141 at h
  refine v_iconst (0 : Int32) dX9_flag_141 (by decide) ?_
  exact L_X9_flag_142 N k97 hk97 a0 l1 l3 l5 k0 (0 : Int32) s ls (lv_sub hl [0, 1, 2, 3] rfl) h
set_option maxHeartbeats 4000000 in
set_option maxRecDepth 100000 in
theorem L_X9_flag_97 {X : VX} {sF : vS} {r : Int32} (N : Nat) : ∀ (n : Nat) (a0 : Nat) (l1 : Int32) (l3 : Int32) (l4 : Int32) (l5 : Int32) (s : vS) (ls : Array Slot), lv_has ls 6 [(0, .ref (xb X + a0)), (1, .int l1), (3, .int l3), (4, .int l4), (5, .int l5)] → H_X9_flag_97 N n a0 l1 l3 l4 l5 s = some (r, sF) → V X (cX9_flag, RX9, 6, 2, 46, false) (vRet sF (some (.int r)) (some .int)) sF s (G0 X 97 ls []) := by
  intro n
  induction n with
  | zero => intro a0 l1 l3 l4 l5 s ls hl h; cases h
  | succ n ih =>
   intro a0 l1 l3 l4 l5 s ls hl h
   unfold H_X9_flag_97 at h
   refine v_iload dX9_flag_97 (lv_at hl 4 rfl) ?_
   refine v_sipush (256 : Int32) dX9_flag_99 (by decide) ?_
   refine v_icmp_ge 151 dX9_flag_102 (by decide) h (fun h => ?_) (fun h => ?_)
   · refine v_iload dX9_flag_151 (lv_at hl 3 rfl) ?_
     exact v_iret dX9_flag_153 h
   · refine v_iload dX9_flag_105 (lv_at hl 3 rfl) ?_
     refine v_aload_n dX9_flag_107 rfl (lv_at hl 0 rfl) ?_
     refine v_iload dX9_flag_108 (lv_at hl 4 rfl) ?_
     refine v_iload_n dX9_flag_110 rfl (lv_at hl 2 rfl) ?_
     refine k_X9_isRenaming h qmX9_13 (by decide) hl.1 (Nat.le_of_ble_eq_true rfl) dX9_flag_111 (fun v15 s h => ?_)
     refine v_if_eq 141 dX9_flag_114 (by decide) h (fun h => ?_) (fun h => ?_)
     · exact L_X9_flag_141 N (H_X9_flag_97 N n) ih a0 l1 l3 l5 l4 s ls (lv_sub hl [0, 1, 2, 4] rfl) h
     · refine v_aload_n dX9_flag_117 rfl (lv_at hl 0 rfl) ?_
       refine v_aload_n dX9_flag_118 rfl (lv_at hl 0 rfl) ?_
       refine v_getR 9 1 h (by decide) rfl qfX9_31 dX9_flag_119 (fun r16 h => ?_)
       refine v_iload_n dX9_flag_122 rfl (lv_at hl 1 rfl) ?_
       refine v_iald dX9_flag_123 h (fun v17 h => ?_)
       refine v_iload_n dX9_flag_124 rfl (lv_at hl 2 rfl) ?_
       refine k_X9_renamedCode h qmX9_17 (by decide) hl.1 (Nat.le_of_ble_eq_true rfl) dX9_flag_125 (fun v18 s h => ?_)
       refine v_aload_n dX9_flag_128 rfl (lv_at hl 0 rfl) ?_
       refine v_getR 9 1 h (by decide) rfl qfX9_31 dX9_flag_129 (fun r19 h => ?_)
       refine v_iload_n dX9_flag_132 rfl (lv_at hl 1 rfl) ?_
       refine v_iald dX9_flag_133 h (fun v20 h => ?_)
       refine v_icmp_ne 141 dX9_flag_134 (by decide) h (fun h => ?_) (fun h => ?_)
       · exact L_X9_flag_141 N (H_X9_flag_97 N n) ih a0 l1 l3 l5 l4 s ls (lv_sub hl [0, 1, 2, 4] rfl) h
       · refine v_iconst (1 : Int32) dX9_flag_137 (by decide) ?_
         refine v_goto 142 dX9_flag_138 (by decide) ?_
         exact L_X9_flag_142 N (H_X9_flag_97 N n) ih a0 l1 l3 l5 l4 (1 : Int32) s ls (lv_sub hl [0, 1, 2, 4] rfl) h
set_option maxHeartbeats 4000000 in
set_option maxRecDepth 100000 in
theorem L_X9_flag_61 {X : VX} {sF : vS} {r : Int32} (N : Nat) (k0 : Int32) (s : vS) (ls : Array Slot) (hl : lv_has ls 6 []) (h : J_X9_flag_61 N k0 s = some (r, sF)) : V X (cX9_flag, RX9, 6, 2, 46, false) (vRet sF (some (.int r)) (some .int)) sF s (G0 X 61 ls [.int k0]) := by
  unfold J_X9_flag_61 at h
  exact v_iret dX9_flag_61 h
set_option maxHeartbeats 4000000 in
set_option maxRecDepth 100000 in
theorem L_X9_flag_16 {X : VX} {sF : vS} {r : Int32} (N : Nat) (s : vS) (ls : Array Slot) (hl : lv_has ls 6 []) (h : J_X9_flag_16 N  s = some (r, sF)) : V X (cX9_flag, RX9, 6, 2, 46, false) (vRet sF (some (.int r)) (some .int)) sF s (G0 X 16 ls []) := by
  unfold J_X9_flag_16 at h
  refine v_iconst (-1 : Int32) dX9_flag_16 (by decide) ?_
  exact v_iret dX9_flag_17 h
theorem vl_X9_flag : vCl yX9_flag cX9_flag 6 (some .int) 2 := ⟨qy_X9_flag, qjX9, by decide +kernel, by decide +kernel, by decide +kernel⟩
set_option maxHeartbeats 4000000 in
set_option maxRecDepth 100000 in
theorem c_X9_flag {l : Launch} {D : va_G} {ka : Nat → ClassId} (X0 : VX) (N : Nat) (a0 : Nat) (l1 : Int32) (l2 : Int32) (s sF : vS) (r : Int32) (h : F_X9_flag N a0 l1 l2 s = some (r, sF)) : isO s a0 9 = true ∧ vMet l D ka (xb X0) yX9_flag cX9_flag 6 (some .int) 2 46 [.ref (xb X0 + a0), .int l1, .int l2] s sF (some (.int r)) := by
  unfold F_X9_flag at h
  unfold rcv at h
  obtain ⟨hO, h⟩ := v_chk h
  refine ⟨hO, vMet.of (ini := false) X0 (plainFor_of_name (by decide +kernel)) (Nat.le_of_ble_eq_true rfl) (fun h => by cases h) (fun X ls hb hl => ?_) rfl⟩
  show V X (cX9_flag, RX9, 6, 2, 46, false) (vRet sF (some (.int r)) (some .int)) sF s (G0 X 0 ls [])
  rw [← hb] at hl
  have hl : lv_has ls 6 [(0, .ref (xb X + a0)), (1, .int l1), (2, .int l2)] := hl
  refine v_iload_n dX9_flag_0 rfl (lv_at hl 1 rfl) ?_
  refine k_X9_isFlag h qmX9_227 (by decide) hl.1 (Nat.le_of_ble_eq_true rfl) dX9_flag_1 (fun v1 s h => ?_)
  refine v_if_eq 16 dX9_flag_4 (by decide) h (fun h => ?_) (fun h => ?_)
  · exact L_X9_flag_16 N  s ls (lv_sub hl [] rfl) h
  · refine v_iload_n dX9_flag_7 rfl (lv_at hl 2 rfl) ?_
    refine v_iconst (0 : Int32) dX9_flag_8 (by decide) ?_
    refine v_iconst (4 : Int32) dX9_flag_9 (by decide) ?_
    refine k_X9_in h qmX9_129 (by decide) hl.1 (Nat.le_of_ble_eq_true rfl) dX9_flag_10 (fun v2 s h => ?_)
    refine v_if_ne 18 dX9_flag_13 (by decide) h (fun h => ?_) (fun h => ?_)
    · refine v_aload_n dX9_flag_18 rfl (lv_at hl 0 rfl) ?_
      refine v_getR 9 0 h (by decide) rfl qfX9_28 dX9_flag_19 (fun r3 h => ?_)
      refine v_iload_n dX9_flag_22 rfl (lv_at hl 1 rfl) ?_
      refine v_iald dX9_flag_23 h (fun v4 h => ?_)
      refine v_istore_n [(3, .int v4), (0, .ref (xb X + a0)), (1, .int l1), (2, .int l2)] dX9_flag_24 rfl hl (by decide) rfl (fun ls hl => ?_)
      refine v_iload_n dX9_flag_25 rfl (lv_at hl 3 rfl) ?_
      refine v_iconst (3 : Int32) dX9_flag_26 (by decide) ?_
      refine v_icmp_ge 62 dX9_flag_27 (by decide) h (fun h => ?_) (fun h => ?_)
      · refine v_iload_n dX9_flag_62 rfl (lv_at hl 3 rfl) ?_
        refine v_iconst (4 : Int32) dX9_flag_63 (by decide) ?_
        refine v_icmp_ne 91 dX9_flag_64 (by decide) h (fun h => ?_) (fun h => ?_)
        · refine v_iconst (0 : Int32) dX9_flag_91 (by decide) ?_
          refine v_istore [(4, .int (0 : Int32)), (3, .int v4), (0, .ref (xb X + a0)), (1, .int l1), (2, .int l2)] dX9_flag_92 hl (by decide) rfl (fun ls hl => ?_)
          refine v_iconst (0 : Int32) dX9_flag_94 (by decide) ?_
          refine v_istore [(5, .int (0 : Int32)), (4, .int (0 : Int32)), (3, .int v4), (0, .ref (xb X + a0)), (1, .int l1), (2, .int l2)] dX9_flag_95 hl (by decide) rfl (fun ls hl => ?_)
          exact L_X9_flag_97 N N a0 l1 v4 (0 : Int32) (0 : Int32) s ls (lv_sub hl [3, 4, 2, 1, 0] rfl) h
        · refine v_aload_n dX9_flag_67 rfl (lv_at hl 1 rfl) ?_
          refine v_getR 9 2 h (by decide) rfl qfX9_34 dX9_flag_68 (fun r5 h => ?_)
          refine v_bipush (64 : Int32) dX9_flag_71 (by decide) ?_
          refine v_iload_n dX9_flag_73 rfl (lv_at hl 0 rfl) ?_
          refine v_imul dX9_flag_74 ?_
          refine v_iload_n dX9_flag_75 rfl (lv_at hl 0 rfl) ?_
          refine k_X9_codes h qmX9_20 (by decide) hl.1 (Nat.le_of_ble_eq_true rfl) dX9_flag_76 (fun v6 s h => ?_)
          refine v_iadd dX9_flag_79 ?_
          refine v_iconst (1 : Int32) dX9_flag_80 (by decide) ?_
          refine v_isub dX9_flag_81 ?_
          refine v_aload_n dX9_flag_82 rfl (lv_at hl 1 rfl) ?_
          refine v_getR 9 1 h (by decide) rfl qfX9_31 dX9_flag_83 (fun r7 h => ?_)
          refine v_iload_n dX9_flag_86 rfl (lv_at hl 2 rfl) ?_
          refine v_iald dX9_flag_87 h (fun v8 h => ?_)
          refine v_isub dX9_flag_88 ?_
          refine v_iald dX9_flag_89 h (fun v9 h => ?_)
          exact v_iret dX9_flag_90 h
      · refine v_iload_n dX9_flag_30 rfl (lv_at hl 3 rfl) ?_
        refine v_if_ne 38 dX9_flag_31 (by decide) h (fun h => ?_) (fun h => ?_)
        · refine v_iload_n dX9_flag_38 rfl (lv_at hl 3 rfl) ?_
          refine v_iconst (1 : Int32) dX9_flag_39 (by decide) ?_
          refine v_icmp_ne 52 dX9_flag_40 (by decide) h (fun h => ?_) (fun h => ?_)
          · refine v_aload_n dX9_flag_52 rfl (lv_at hl 1 rfl) ?_
            refine v_getR 9 1 h (by decide) rfl qfX9_31 dX9_flag_53 (fun r10 h => ?_)
            refine v_iload_n dX9_flag_56 rfl (lv_at hl 2 rfl) ?_
            refine v_iald dX9_flag_57 h (fun v11 h => ?_)
            refine k_X9_ones h qmX9_140 (by decide) hl.1 (Nat.le_of_ble_eq_true rfl) dX9_flag_58 (fun v12 s h => ?_)
            exact L_X9_flag_61 N v12 s ls (lv_sub hl [] rfl) h
          · refine v_aload_n dX9_flag_43 rfl (lv_at hl 1 rfl) ?_
            refine v_getR 9 1 h (by decide) rfl qfX9_31 dX9_flag_44 (fun r13 h => ?_)
            refine v_iload_n dX9_flag_47 rfl (lv_at hl 2 rfl) ?_
            refine v_iald dX9_flag_48 h (fun v14 h => ?_)
            refine v_goto 61 dX9_flag_49 (by decide) ?_
            exact L_X9_flag_61 N v14 s ls (lv_sub hl [] rfl) h
        · refine v_iload_n dX9_flag_34 rfl (lv_at hl 0 rfl) ?_
          refine v_goto 61 dX9_flag_35 (by decide) ?_
          exact L_X9_flag_61 N v4 s ls (lv_sub hl [] rfl) h
    · exact L_X9_flag_16 N  s ls (lv_sub hl [] rfl) h
theorem k_X9_flag {X : VX} {cc : ByteArray} {own : String} {nL fr lo : Nat} {ini : Bool} {E : VX → Prop} {sF s : vS} {ρ : Type} {res : ρ} {pc : Nat} {ls : Array Slot} {rest : List Value} {N index : Nat} {a0 : Nat} {l1 : Int32} {l2 : Int32} {f : Int32 → vS → Option ρ} (h : bnd (F_X9_flag N a0 l1 l2 s) f = some res) (hlink : Cond.methodLink own index yX9_flag ∈ TT) (hR : 2 + 1 ≤ fr ∧ 8 + (6 + 11) + 46 ≤ lo) (hls : ls.size = nL) (hr : (rest.map fun v => v.category).sum ≤ 8) (hdg : decode cc pc = .ok (.invokevirtual index, 3)) (kk : ∀ r s', f r s' = some res → V X (cc, own, nL, fr, lo, ini) E sF s' (G0 X (pc + 3) ls (.int r :: rest))) : V X (cc, own, nL, fr, lo, ini) E sF s (G0 X pc ls (.int l2 :: .int l1 :: .ref (xb X + a0) :: rest)) := by
  obtain ⟨r, s', e, h⟩ := bnd_some h
  exact v_callV (b := a0) (ci := 9) (As := [.int l1, .int l2]) (rest := rest) (c_X9_flag X N a0 l1 l2 s s' r e).2 (c_X9_flag (l := xl X) (D := xD X) (ka := xka X) X N a0 l1 l2 s s' r e).1 rfl vl_X9_flag qi_X9_flag qe_X9_flag hlink hR rfl rfl hls hr hdg (kk r s' h)
set_option maxHeartbeats 4000000 in
set_option maxRecDepth 100000 in
theorem L_X9_rooted_16 {X : VX} {sF : vS} {r : Int32} (N : Nat) (s : vS) (ls : Array Slot) (hl : lv_has ls 3 []) (h : J_X9_rooted_16 N  s = some (r, sF)) : V X (cX9_rooted, RX9, 3, 4, 94, false) (vRet sF (some (.int r)) (some .int)) sF s (G0 X 16 ls []) := by
  unfold J_X9_rooted_16 at h
  refine v_iconst (-1 : Int32) dX9_rooted_16 (by decide) ?_
  exact v_iret dX9_rooted_17 h
theorem vl_X9_rooted : vCl yX9_rooted cX9_rooted 3 (some .int) 2 := ⟨qy_X9_rooted, qjX9, by decide +kernel, by decide +kernel, by decide +kernel⟩
set_option maxHeartbeats 4000000 in
set_option maxRecDepth 100000 in
theorem c_X9_rooted {l : Launch} {D : va_G} {ka : Nat → ClassId} (X0 : VX) (N : Nat) (a0 : Nat) (l1 : Int32) (l2 : Int32) (s sF : vS) (r : Int32) (h : F_X9_rooted N a0 l1 l2 s = some (r, sF)) : isO s a0 9 = true ∧ vMet l D ka (xb X0) yX9_rooted cX9_rooted 3 (some .int) 4 94 [.ref (xb X0 + a0), .int l1, .int l2] s sF (some (.int r)) := by
  unfold F_X9_rooted at h
  unfold rcv at h
  obtain ⟨hO, h⟩ := v_chk h
  refine ⟨hO, vMet.of (ini := false) X0 (plainFor_of_name (by decide +kernel)) (Nat.le_of_ble_eq_true rfl) (fun h => by cases h) (fun X ls hb hl => ?_) rfl⟩
  show V X (cX9_rooted, RX9, 3, 4, 94, false) (vRet sF (some (.int r)) (some .int)) sF s (G0 X 0 ls [])
  rw [← hb] at hl
  have hl : lv_has ls 3 [(0, .ref (xb X + a0)), (1, .int l1), (2, .int l2)] := hl
  refine v_iload_n dX9_rooted_0 rfl (lv_at hl 1 rfl) ?_
  refine k_X9_isRooted h qmX9_231 (by decide) hl.1 (Nat.le_of_ble_eq_true rfl) dX9_rooted_1 (fun v1 s h => ?_)
  refine v_if_eq 16 dX9_rooted_4 (by decide) h (fun h => ?_) (fun h => ?_)
  · exact L_X9_rooted_16 N  s ls (lv_sub hl [] rfl) h
  · refine v_iload_n dX9_rooted_7 rfl (lv_at hl 2 rfl) ?_
    refine v_iconst (0 : Int32) dX9_rooted_8 (by decide) ?_
    refine v_iconst (4 : Int32) dX9_rooted_9 (by decide) ?_
    refine k_X9_in h qmX9_129 (by decide) hl.1 (Nat.le_of_ble_eq_true rfl) dX9_rooted_10 (fun v2 s h => ?_)
    refine v_if_ne 18 dX9_rooted_13 (by decide) h (fun h => ?_) (fun h => ?_)
    · refine v_iload_n dX9_rooted_18 rfl (lv_at hl 2 rfl) ?_
      refine v_tswc (0 : Int32) 48 dX9_rooted_19 (by decide) (by decide) (by rfl) (by decide) h (fun h => ?_) (fun h0 h => ?_)
      · refine v_aload_n dX9_rooted_48 rfl (lv_at hl 0 rfl) ?_
        refine v_getR 9 0 h (by decide) rfl qfX9_28 dX9_rooted_49 (fun r15 h => ?_)
        refine v_bipush (19 : Int32) dX9_rooted_52 (by decide) ?_
        refine v_iload_n dX9_rooted_54 rfl (lv_at hl 1 rfl) ?_
        refine v_iadd dX9_rooted_55 ?_
        refine v_iald dX9_rooted_56 h (fun v16 h => ?_)
        exact v_iret dX9_rooted_57 h
      · refine v_tswc (1 : Int32) 58 dX9_rooted_19 (by decide) (by decide) (by rfl) (by decide) h (fun h => ?_) (fun h1 h => ?_)
        · refine v_aload_n dX9_rooted_58 rfl (lv_at hl 0 rfl) ?_
          refine v_getR 9 1 h (by decide) rfl qfX9_31 dX9_rooted_59 (fun r13 h => ?_)
          refine v_bipush (19 : Int32) dX9_rooted_62 (by decide) ?_
          refine v_iload_n dX9_rooted_64 rfl (lv_at hl 1 rfl) ?_
          refine v_iadd dX9_rooted_65 ?_
          refine v_iald dX9_rooted_66 h (fun v14 h => ?_)
          exact v_iret dX9_rooted_67 h
        · refine v_tswc (2 : Int32) 68 dX9_rooted_19 (by decide) (by decide) (by rfl) (by decide) h (fun h => ?_) (fun h2 h => ?_)
          · refine v_aload_n dX9_rooted_68 rfl (lv_at hl 0 rfl) ?_
            refine v_aload_n dX9_rooted_69 rfl (lv_at hl 0 rfl) ?_
            refine v_getR 9 0 h (by decide) rfl qfX9_28 dX9_rooted_70 (fun r5 h => ?_)
            refine v_bipush (19 : Int32) dX9_rooted_73 (by decide) ?_
            refine v_iload_n dX9_rooted_75 rfl (lv_at hl 1 rfl) ?_
            refine v_iadd dX9_rooted_76 ?_
            refine v_iald dX9_rooted_77 h (fun v6 h => ?_)
            refine v_aload_n dX9_rooted_78 rfl (lv_at hl 0 rfl) ?_
            refine v_getR 9 1 h (by decide) rfl qfX9_31 dX9_rooted_79 (fun r7 h => ?_)
            refine v_bipush (19 : Int32) dX9_rooted_82 (by decide) ?_
            refine v_iload_n dX9_rooted_84 rfl (lv_at hl 1 rfl) ?_
            refine v_iadd dX9_rooted_85 ?_
            refine v_iald dX9_rooted_86 h (fun v8 h => ?_)
            refine k_X9_lookInto h qmX9_203 (by decide) hl.1 (Nat.le_of_ble_eq_true rfl) dX9_rooted_87 (fun v9 s h => ?_)
            refine v_aload_n dX9_rooted_90 rfl (lv_at hl 0 rfl) ?_
            refine v_getR 9 8 h (by decide) rfl qfX9_49 dX9_rooted_91 (fun r10 h => ?_)
            refine v_iconst (0 : Int32) dX9_rooted_94 (by decide) ?_
            refine v_iald dX9_rooted_95 h (fun v11 h => ?_)
            refine k_X9_ones h qmX9_140 (by decide) hl.1 (Nat.le_of_ble_eq_true rfl) dX9_rooted_96 (fun v12 s h => ?_)
            exact v_iret dX9_rooted_99 h
          · refine v_tswc (3 : Int32) 100 dX9_rooted_19 (by decide) (by decide) (by rfl) (by decide) h (fun h => ?_) (fun h3 h => ?_)
            · refine v_aload_n dX9_rooted_100 rfl (lv_at hl 0 rfl) ?_
              refine v_iload_n dX9_rooted_101 rfl (lv_at hl 1 rfl) ?_
              refine k_X9_plainOf h qmX9_221 (by decide) hl.1 (Nat.le_of_ble_eq_true rfl) dX9_rooted_102 (fun v4 s h => ?_)
              exact v_iret dX9_rooted_105 h
            · have g0 := tsw_ne (c := (0 : Int32)) (i := 0) rfl h0
              have g1 := tsw_ne (c := (1 : Int32)) (i := 1) rfl h1
              have g2 := tsw_ne (c := (2 : Int32)) (i := 2) rfl h2
              have g3 := tsw_ne (c := (3 : Int32)) (i := 3) rfl h3
              refine v_tswd 106 dX9_rooted_19 (by omega) (by decide) ?_
              refine v_aload_n dX9_rooted_106 rfl (lv_at hl 0 rfl) ?_
              refine v_iload_n dX9_rooted_107 rfl (lv_at hl 1 rfl) ?_
              refine k_X9_rootsOf h qmX9_224 (by decide) hl.1 (Nat.le_of_ble_eq_true rfl) dX9_rooted_108 (fun v3 s h => ?_)
              exact v_iret dX9_rooted_111 h
    · exact L_X9_rooted_16 N  s ls (lv_sub hl [] rfl) h
theorem k_X9_rooted {X : VX} {cc : ByteArray} {own : String} {nL fr lo : Nat} {ini : Bool} {E : VX → Prop} {sF s : vS} {ρ : Type} {res : ρ} {pc : Nat} {ls : Array Slot} {rest : List Value} {N index : Nat} {a0 : Nat} {l1 : Int32} {l2 : Int32} {f : Int32 → vS → Option ρ} (h : bnd (F_X9_rooted N a0 l1 l2 s) f = some res) (hlink : Cond.methodLink own index yX9_rooted ∈ TT) (hR : 4 + 1 ≤ fr ∧ 8 + (3 + 11) + 94 ≤ lo) (hls : ls.size = nL) (hr : (rest.map fun v => v.category).sum ≤ 8) (hdg : decode cc pc = .ok (.invokevirtual index, 3)) (kk : ∀ r s', f r s' = some res → V X (cc, own, nL, fr, lo, ini) E sF s' (G0 X (pc + 3) ls (.int r :: rest))) : V X (cc, own, nL, fr, lo, ini) E sF s (G0 X pc ls (.int l2 :: .int l1 :: .ref (xb X + a0) :: rest)) := by
  obtain ⟨r, s', e, h⟩ := bnd_some h
  exact v_callV (b := a0) (ci := 9) (As := [.int l1, .int l2]) (rest := rest) (c_X9_rooted X N a0 l1 l2 s s' r e).2 (c_X9_rooted (l := xl X) (D := xD X) (ka := xka X) X N a0 l1 l2 s s' r e).1 rfl vl_X9_rooted qi_X9_rooted qe_X9_rooted hlink hR rfl rfl hls hr hdg (kk r s' h)
set_option maxHeartbeats 4000000 in
set_option maxRecDepth 100000 in
theorem L_X9_alike_66 {X : VX} {sF : vS} {r : Int32} (N : Nat) (k0 : Int32) (s : vS) (ls : Array Slot) (hl : lv_has ls 4 []) (h : J_X9_alike_66 N k0 s = some (r, sF)) : V X (cX9_alike, RX9, 4, 1, 22, false) (vRet sF (some (.int r)) (some .int)) sF s (G0 X 66 ls [.int k0]) := by
  unfold J_X9_alike_66 at h
  exact v_iret dX9_alike_66 h
set_option maxHeartbeats 4000000 in
set_option maxRecDepth 100000 in
theorem L_X9_alike_18 {X : VX} {sF : vS} {r : Int32} (N : Nat) (s : vS) (ls : Array Slot) (hl : lv_has ls 4 []) (h : J_X9_alike_18 N  s = some (r, sF)) : V X (cX9_alike, RX9, 4, 1, 22, false) (vRet sF (some (.int r)) (some .int)) sF s (G0 X 18 ls []) := by
  unfold J_X9_alike_18 at h
  refine v_iconst (-1 : Int32) dX9_alike_18 (by decide) ?_
  exact v_iret dX9_alike_19 h
theorem vl_X9_alike : vCl yX9_alike cX9_alike 4 (some .int) 3 := ⟨qy_X9_alike, qjX9, by decide +kernel, by decide +kernel, by decide +kernel⟩
set_option maxHeartbeats 4000000 in
set_option maxRecDepth 100000 in
theorem c_X9_alike {l : Launch} {D : va_G} {ka : Nat → ClassId} (X0 : VX) (N : Nat) (a0 : Nat) (l1 : Int32) (l2 : Int32) (l3 : Int32) (s sF : vS) (r : Int32) (h : F_X9_alike N a0 l1 l2 l3 s = some (r, sF)) : isO s a0 9 = true ∧ vMet l D ka (xb X0) yX9_alike cX9_alike 4 (some .int) 1 22 [.ref (xb X0 + a0), .int l1, .int l2, .int l3] s sF (some (.int r)) := by
  unfold F_X9_alike at h
  unfold rcv at h
  obtain ⟨hO, h⟩ := v_chk h
  refine ⟨hO, vMet.of (ini := false) X0 (plainFor_of_name (by decide +kernel)) (Nat.le_of_ble_eq_true rfl) (fun h => by cases h) (fun X ls hb hl => ?_) rfl⟩
  show V X (cX9_alike, RX9, 4, 1, 22, false) (vRet sF (some (.int r)) (some .int)) sF s (G0 X 0 ls [])
  rw [← hb] at hl
  have hl : lv_has ls 4 [(0, .ref (xb X + a0)), (1, .int l1), (2, .int l2), (3, .int l3)] := hl
  refine v_iload_n dX9_alike_0 rfl (lv_at hl 1 rfl) ?_
  refine v_iconst (0 : Int32) dX9_alike_1 (by decide) ?_
  refine v_iconst (1 : Int32) dX9_alike_2 (by decide) ?_
  refine k_X9_in h qmX9_129 (by decide) hl.1 (Nat.le_of_ble_eq_true rfl) dX9_alike_3 (fun v1 s h => ?_)
  refine v_if_eq 18 dX9_alike_6 (by decide) h (fun h => ?_) (fun h => ?_)
  · exact L_X9_alike_18 N  s ls (lv_sub hl [] rfl) h
  · refine v_iload_n dX9_alike_9 rfl (lv_at hl 2 rfl) ?_
    refine v_iload_n dX9_alike_10 rfl (lv_at hl 1 rfl) ?_
    refine v_iconst (4 : Int32) dX9_alike_11 (by decide) ?_
    refine k_X9_in h qmX9_129 (by decide) hl.1 (Nat.le_of_ble_eq_true rfl) dX9_alike_12 (fun v2 s h => ?_)
    refine v_if_ne 20 dX9_alike_15 (by decide) h (fun h => ?_) (fun h => ?_)
    · refine v_iload_n dX9_alike_20 rfl (lv_at hl 3 rfl) ?_
      refine v_iconst (0 : Int32) dX9_alike_21 (by decide) ?_
      refine v_iload_n dX9_alike_22 rfl (lv_at hl 2 rfl) ?_
      refine k_X9_codes h qmX9_20 (by decide) hl.1 (Nat.le_of_ble_eq_true rfl) dX9_alike_23 (fun v3 s h => ?_)
      refine v_iconst (1 : Int32) dX9_alike_26 (by decide) ?_
      refine v_isub dX9_alike_27 ?_
      refine k_X9_in h qmX9_129 (by decide) hl.1 (Nat.le_of_ble_eq_true rfl) dX9_alike_28 (fun v4 s h => ?_)
      refine v_if_ne 37 dX9_alike_31 (by decide) h (fun h => ?_) (fun h => ?_)
      · refine v_iload_n dX9_alike_37 rfl (lv_at hl 1 rfl) ?_
        refine v_if_ne 55 dX9_alike_38 (by decide) h (fun h => ?_) (fun h => ?_)
        · refine v_aload_n dX9_alike_55 rfl (lv_at hl 0 rfl) ?_
          refine v_getR 9 3 h (by decide) rfl qfX9_37 dX9_alike_56 (fun r5 h => ?_)
          refine v_bipush (64 : Int32) dX9_alike_59 (by decide) ?_
          refine v_iload_n dX9_alike_61 rfl (lv_at hl 2 rfl) ?_
          refine v_imul dX9_alike_62 ?_
          refine v_iload_n dX9_alike_63 rfl (lv_at hl 3 rfl) ?_
          refine v_iadd dX9_alike_64 ?_
          refine v_iald dX9_alike_65 h (fun v6 h => ?_)
          exact L_X9_alike_66 N v6 s ls (lv_sub hl [] rfl) h
        · refine v_aload_n dX9_alike_41 rfl (lv_at hl 0 rfl) ?_
          refine v_getR 9 2 h (by decide) rfl qfX9_34 dX9_alike_42 (fun r7 h => ?_)
          refine v_bipush (64 : Int32) dX9_alike_45 (by decide) ?_
          refine v_iload_n dX9_alike_47 rfl (lv_at hl 2 rfl) ?_
          refine v_imul dX9_alike_48 ?_
          refine v_iload_n dX9_alike_49 rfl (lv_at hl 3 rfl) ?_
          refine v_iadd dX9_alike_50 ?_
          refine v_iald dX9_alike_51 h (fun v8 h => ?_)
          refine v_goto 66 dX9_alike_52 (by decide) ?_
          exact L_X9_alike_66 N v8 s ls (lv_sub hl [] rfl) h
      · refine v_bipush (-2 : Int32) dX9_alike_34 (by decide) ?_
        exact v_iret dX9_alike_36 h
    · exact L_X9_alike_18 N  s ls (lv_sub hl [] rfl) h
theorem k_X9_alike {X : VX} {cc : ByteArray} {own : String} {nL fr lo : Nat} {ini : Bool} {E : VX → Prop} {sF s : vS} {ρ : Type} {res : ρ} {pc : Nat} {ls : Array Slot} {rest : List Value} {N index : Nat} {a0 : Nat} {l1 : Int32} {l2 : Int32} {l3 : Int32} {f : Int32 → vS → Option ρ} (h : bnd (F_X9_alike N a0 l1 l2 l3 s) f = some res) (hlink : Cond.methodLink own index yX9_alike ∈ TT) (hR : 1 + 1 ≤ fr ∧ 8 + (4 + 11) + 22 ≤ lo) (hls : ls.size = nL) (hr : (rest.map fun v => v.category).sum ≤ 8) (hdg : decode cc pc = .ok (.invokevirtual index, 3)) (kk : ∀ r s', f r s' = some res → V X (cc, own, nL, fr, lo, ini) E sF s' (G0 X (pc + 3) ls (.int r :: rest))) : V X (cc, own, nL, fr, lo, ini) E sF s (G0 X pc ls (.int l3 :: .int l2 :: .int l1 :: .ref (xb X + a0) :: rest)) := by
  obtain ⟨r, s', e, h⟩ := bnd_some h
  exact v_callV (b := a0) (ci := 9) (As := [.int l1, .int l2, .int l3]) (rest := rest) (c_X9_alike X N a0 l1 l2 l3 s s' r e).2 (c_X9_alike (l := xl X) (D := xD X) (ka := xka X) X N a0 l1 l2 l3 s s' r e).1 rfl vl_X9_alike qi_X9_alike qe_X9_alike hlink hR rfl rfl hls hr hdg (kk r s' h)
set_option maxHeartbeats 4000000 in
set_option maxRecDepth 100000 in
theorem L_X9_inside_38 {X : VX} {sF : vS} {r : Int64} (N : Nat) (s : vS) (ls : Array Slot) (hl : lv_has ls 4 []) (h : J_X9_inside_38 N  s = some (r, sF)) : V X (cX9_inside, RX9, 4, 4, 98, false) (vRet sF (some (.long r)) (some .long)) sF s (G0 X 38 ls []) := by
  unfold J_X9_inside_38 at h
  refine v_ldc2 qkX9_166 dX9_inside_38 ?_
  exact v_lret dX9_inside_41 h
theorem vl_X9_inside : vCl yX9_inside cX9_inside 4 (some .long) 3 := ⟨qy_X9_inside, qjX9, by decide +kernel, by decide +kernel, by decide +kernel⟩
set_option maxHeartbeats 4000000 in
set_option maxRecDepth 100000 in
theorem c_X9_inside {l : Launch} {D : va_G} {ka : Nat → ClassId} (X0 : VX) (N : Nat) (a0 : Nat) (l1 : Int32) (l2 : Int32) (l3 : Int32) (s sF : vS) (r : Int64) (h : F_X9_inside N a0 l1 l2 l3 s = some (r, sF)) : isO s a0 9 = true ∧ vMet l D ka (xb X0) yX9_inside cX9_inside 4 (some .long) 4 98 [.ref (xb X0 + a0), .int l1, .int l2, .int l3] s sF (some (.long r)) := by
  unfold F_X9_inside at h
  unfold rcv at h
  obtain ⟨hO, h⟩ := v_chk h
  refine ⟨hO, vMet.of (ini := false) X0 (plainFor_of_name (by decide +kernel)) (Nat.le_of_ble_eq_true rfl) (fun h => by cases h) (fun X ls hb hl => ?_) rfl⟩
  show V X (cX9_inside, RX9, 4, 4, 98, false) (vRet sF (some (.long r)) (some .long)) sF s (G0 X 0 ls [])
  rw [← hb] at hl
  have hl : lv_has ls 4 [(0, .ref (xb X + a0)), (1, .int l1), (2, .int l2), (3, .int l3)] := hl
  refine v_iload_n dX9_inside_0 rfl (lv_at hl 1 rfl) ?_
  refine k_X9_isFlag h qmX9_227 (by decide) hl.1 (Nat.le_of_ble_eq_true rfl) dX9_inside_1 (fun v1 s h => ?_)
  refine v_if_eq 38 dX9_inside_4 (by decide) h (fun h => ?_) (fun h => ?_)
  · exact L_X9_inside_38 N  s ls (lv_sub hl [] rfl) h
  · refine v_iload_n dX9_inside_7 rfl (lv_at hl 2 rfl) ?_
    refine k_X9_isFlag h qmX9_227 (by decide) hl.1 (Nat.le_of_ble_eq_true rfl) dX9_inside_8 (fun v2 s h => ?_)
    refine v_if_eq 38 dX9_inside_11 (by decide) h (fun h => ?_) (fun h => ?_)
    · exact L_X9_inside_38 N  s ls (lv_sub hl [] rfl) h
    · refine v_iload_n dX9_inside_14 rfl (lv_at hl 3 rfl) ?_
      refine v_iconst (0 : Int32) dX9_inside_15 (by decide) ?_
      refine v_iconst (1 : Int32) dX9_inside_16 (by decide) ?_
      refine k_X9_in h qmX9_129 (by decide) hl.1 (Nat.le_of_ble_eq_true rfl) dX9_inside_17 (fun v3 s h => ?_)
      refine v_if_eq 38 dX9_inside_20 (by decide) h (fun h => ?_) (fun h => ?_)
      · exact L_X9_inside_38 N  s ls (lv_sub hl [] rfl) h
      · refine v_aload_n dX9_inside_23 rfl (lv_at hl 0 rfl) ?_
        refine v_getR 9 0 h (by decide) rfl qfX9_28 dX9_inside_24 (fun r4 h => ?_)
        refine v_iload_n dX9_inside_27 rfl (lv_at hl 2 rfl) ?_
        refine v_iald dX9_inside_28 h (fun v5 h => ?_)
        refine v_aload_n dX9_inside_29 rfl (lv_at hl 0 rfl) ?_
        refine v_getR 9 0 h (by decide) rfl qfX9_28 dX9_inside_30 (fun r6 h => ?_)
        refine v_iload_n dX9_inside_33 rfl (lv_at hl 1 rfl) ?_
        refine v_iald dX9_inside_34 h (fun v7 h => ?_)
        refine v_icmp_ge 42 dX9_inside_35 (by decide) h (fun h => ?_) (fun h => ?_)
        · refine v_aload_n dX9_inside_42 rfl (lv_at hl 0 rfl) ?_
          refine v_aload_n dX9_inside_43 rfl (lv_at hl 0 rfl) ?_
          refine v_getR 9 0 h (by decide) rfl qfX9_28 dX9_inside_44 (fun r8 h => ?_)
          refine v_iload_n dX9_inside_47 rfl (lv_at hl 2 rfl) ?_
          refine v_iald dX9_inside_48 h (fun v9 h => ?_)
          refine v_aload_n dX9_inside_49 rfl (lv_at hl 0 rfl) ?_
          refine v_getR 9 1 h (by decide) rfl qfX9_31 dX9_inside_50 (fun r10 h => ?_)
          refine v_iload_n dX9_inside_53 rfl (lv_at hl 2 rfl) ?_
          refine v_iald dX9_inside_54 h (fun v11 h => ?_)
          refine k_X9_lookInto h qmX9_203 (by decide) hl.1 (Nat.le_of_ble_eq_true rfl) dX9_inside_55 (fun v12 s h => ?_)
          refine v_aload_n dX9_inside_58 rfl (lv_at hl 0 rfl) ?_
          refine v_iload_n dX9_inside_59 rfl (lv_at hl 1 rfl) ?_
          refine v_aload_n dX9_inside_60 rfl (lv_at hl 0 rfl) ?_
          refine v_getR 9 0 h (by decide) rfl qfX9_28 dX9_inside_61 (fun r13 h => ?_)
          refine v_iload_n dX9_inside_64 rfl (lv_at hl 1 rfl) ?_
          refine v_iald dX9_inside_65 h (fun v14 h => ?_)
          refine v_iconst (-1 : Int32) dX9_inside_66 (by decide) ?_
          refine k_X9_insideOf h qmX9_217 (by decide) hl.1 (Nat.le_of_ble_eq_true rfl) dX9_inside_67 (fun v15 s h => ?_)
          refine v_aload_n dX9_inside_70 rfl (lv_at hl 0 rfl) ?_
          refine v_iload_n dX9_inside_71 rfl (lv_at hl 3 rfl) ?_
          refine k_X9_part h qmX9_234 (by decide) hl.1 (Nat.le_of_ble_eq_true rfl) dX9_inside_72 (fun v16 s h => ?_)
          exact v_lret dX9_inside_75 h
        · exact L_X9_inside_38 N  s ls (lv_sub hl [] rfl) h
theorem k_X9_inside {X : VX} {cc : ByteArray} {own : String} {nL fr lo : Nat} {ini : Bool} {E : VX → Prop} {sF s : vS} {ρ : Type} {res : ρ} {pc : Nat} {ls : Array Slot} {rest : List Value} {N index : Nat} {a0 : Nat} {l1 : Int32} {l2 : Int32} {l3 : Int32} {f : Int64 → vS → Option ρ} (h : bnd (F_X9_inside N a0 l1 l2 l3 s) f = some res) (hlink : Cond.methodLink own index yX9_inside ∈ TT) (hR : 4 + 1 ≤ fr ∧ 8 + (4 + 11) + 98 ≤ lo) (hls : ls.size = nL) (hr : (rest.map fun v => v.category).sum ≤ 8) (hdg : decode cc pc = .ok (.invokevirtual index, 3)) (kk : ∀ r s', f r s' = some res → V X (cc, own, nL, fr, lo, ini) E sF s' (G0 X (pc + 3) ls (.long r :: rest))) : V X (cc, own, nL, fr, lo, ini) E sF s (G0 X pc ls (.int l3 :: .int l2 :: .int l1 :: .ref (xb X + a0) :: rest)) := by
  obtain ⟨r, s', e, h⟩ := bnd_some h
  exact v_callV (b := a0) (ci := 9) (As := [.int l1, .int l2, .int l3]) (rest := rest) (c_X9_inside X N a0 l1 l2 l3 s s' r e).2 (c_X9_inside (l := xl X) (D := xD X) (ka := xka X) X N a0 l1 l2 l3 s s' r e).1 rfl vl_X9_inside qi_X9_inside qe_X9_inside hlink hR rfl rfl hls hr hdg (kk r s' h)
set_option maxHeartbeats 4000000 in
set_option maxRecDepth 100000 in
theorem L_X9_joint_53 {X : VX} {sF : vS} {r : Int64} (N : Nat) (s : vS) (ls : Array Slot) (hl : lv_has ls 5 []) (h : J_X9_joint_53 N  s = some (r, sF)) : V X (cX9_joint, RX9, 5, 4, 102, false) (vRet sF (some (.long r)) (some .long)) sF s (G0 X 53 ls []) := by
  unfold J_X9_joint_53 at h
  refine v_ldc2 qkX9_166 dX9_joint_53 ?_
  exact v_lret dX9_joint_56 h
theorem vl_X9_joint : vCl yX9_joint cX9_joint 5 (some .long) 4 := ⟨qy_X9_joint, qjX9, by decide +kernel, by decide +kernel, by decide +kernel⟩
set_option maxHeartbeats 4000000 in
set_option maxRecDepth 100000 in
theorem c_X9_joint {l : Launch} {D : va_G} {ka : Nat → ClassId} (X0 : VX) (N : Nat) (a0 : Nat) (l1 : Int32) (l2 : Int32) (l3 : Int32) (l4 : Int32) (s sF : vS) (r : Int64) (h : F_X9_joint N a0 l1 l2 l3 l4 s = some (r, sF)) : isO s a0 9 = true ∧ vMet l D ka (xb X0) yX9_joint cX9_joint 5 (some .long) 4 102 [.ref (xb X0 + a0), .int l1, .int l2, .int l3, .int l4] s sF (some (.long r)) := by
  unfold F_X9_joint at h
  unfold rcv at h
  obtain ⟨hO, h⟩ := v_chk h
  refine ⟨hO, vMet.of (ini := false) X0 (plainFor_of_name (by decide +kernel)) (Nat.le_of_ble_eq_true rfl) (fun h => by cases h) (fun X ls hb hl => ?_) rfl⟩
  show V X (cX9_joint, RX9, 5, 4, 102, false) (vRet sF (some (.long r)) (some .long)) sF s (G0 X 0 ls [])
  rw [← hb] at hl
  have hl : lv_has ls 5 [(0, .ref (xb X + a0)), (1, .int l1), (2, .int l2), (3, .int l3), (4, .int l4)] := hl
  refine v_iload_n dX9_joint_0 rfl (lv_at hl 1 rfl) ?_
  refine k_X9_isFlag h qmX9_227 (by decide) hl.1 (Nat.le_of_ble_eq_true rfl) dX9_joint_1 (fun v1 s h => ?_)
  refine v_if_eq 53 dX9_joint_4 (by decide) h (fun h => ?_) (fun h => ?_)
  · exact L_X9_joint_53 N  s ls (lv_sub hl [] rfl) h
  · refine v_iload_n dX9_joint_7 rfl (lv_at hl 2 rfl) ?_
    refine k_X9_isFlag h qmX9_227 (by decide) hl.1 (Nat.le_of_ble_eq_true rfl) dX9_joint_8 (fun v2 s h => ?_)
    refine v_if_eq 53 dX9_joint_11 (by decide) h (fun h => ?_) (fun h => ?_)
    · exact L_X9_joint_53 N  s ls (lv_sub hl [] rfl) h
    · refine v_iload_n dX9_joint_14 rfl (lv_at hl 3 rfl) ?_
      refine k_X9_isFlag h qmX9_227 (by decide) hl.1 (Nat.le_of_ble_eq_true rfl) dX9_joint_15 (fun v3 s h => ?_)
      refine v_if_eq 53 dX9_joint_18 (by decide) h (fun h => ?_) (fun h => ?_)
      · exact L_X9_joint_53 N  s ls (lv_sub hl [] rfl) h
      · refine v_iload dX9_joint_21 (lv_at hl 4 rfl) ?_
        refine v_iconst (0 : Int32) dX9_joint_23 (by decide) ?_
        refine v_iconst (1 : Int32) dX9_joint_24 (by decide) ?_
        refine k_X9_in h qmX9_129 (by decide) hl.1 (Nat.le_of_ble_eq_true rfl) dX9_joint_25 (fun v4 s h => ?_)
        refine v_if_eq 53 dX9_joint_28 (by decide) h (fun h => ?_) (fun h => ?_)
        · exact L_X9_joint_53 N  s ls (lv_sub hl [] rfl) h
        · refine v_aload_n dX9_joint_31 rfl (lv_at hl 0 rfl) ?_
          refine v_getR 9 0 h (by decide) rfl qfX9_28 dX9_joint_32 (fun r5 h => ?_)
          refine v_iload_n dX9_joint_35 rfl (lv_at hl 3 rfl) ?_
          refine v_iald dX9_joint_36 h (fun v6 h => ?_)
          refine v_aload_n dX9_joint_37 rfl (lv_at hl 0 rfl) ?_
          refine v_getR 9 0 h (by decide) rfl qfX9_28 dX9_joint_38 (fun r7 h => ?_)
          refine v_iload_n dX9_joint_41 rfl (lv_at hl 1 rfl) ?_
          refine v_iald dX9_joint_42 h (fun v8 h => ?_)
          refine v_aload_n dX9_joint_43 rfl (lv_at hl 0 rfl) ?_
          refine v_getR 9 0 h (by decide) rfl qfX9_28 dX9_joint_44 (fun r9 h => ?_)
          refine v_iload_n dX9_joint_47 rfl (lv_at hl 2 rfl) ?_
          refine v_iald dX9_joint_48 h (fun v10 h => ?_)
          refine v_iadd dX9_joint_49 ?_
          refine v_icmp_ge 57 dX9_joint_50 (by decide) h (fun h => ?_) (fun h => ?_)
          · refine v_aload_n dX9_joint_57 rfl (lv_at hl 0 rfl) ?_
            refine v_aload_n dX9_joint_58 rfl (lv_at hl 0 rfl) ?_
            refine v_getR 9 0 h (by decide) rfl qfX9_28 dX9_joint_59 (fun r11 h => ?_)
            refine v_iload_n dX9_joint_62 rfl (lv_at hl 3 rfl) ?_
            refine v_iald dX9_joint_63 h (fun v12 h => ?_)
            refine v_aload_n dX9_joint_64 rfl (lv_at hl 0 rfl) ?_
            refine v_getR 9 1 h (by decide) rfl qfX9_31 dX9_joint_65 (fun r13 h => ?_)
            refine v_iload_n dX9_joint_68 rfl (lv_at hl 3 rfl) ?_
            refine v_iald dX9_joint_69 h (fun v14 h => ?_)
            refine k_X9_lookInto h qmX9_203 (by decide) hl.1 (Nat.le_of_ble_eq_true rfl) dX9_joint_70 (fun v15 s h => ?_)
            refine v_aload_n dX9_joint_73 rfl (lv_at hl 0 rfl) ?_
            refine v_iload_n dX9_joint_74 rfl (lv_at hl 1 rfl) ?_
            refine v_aload_n dX9_joint_75 rfl (lv_at hl 0 rfl) ?_
            refine v_getR 9 0 h (by decide) rfl qfX9_28 dX9_joint_76 (fun r16 h => ?_)
            refine v_iload_n dX9_joint_79 rfl (lv_at hl 1 rfl) ?_
            refine v_iald dX9_joint_80 h (fun v17 h => ?_)
            refine v_iload_n dX9_joint_81 rfl (lv_at hl 2 rfl) ?_
            refine v_aload_n dX9_joint_82 rfl (lv_at hl 0 rfl) ?_
            refine v_getR 9 0 h (by decide) rfl qfX9_28 dX9_joint_83 (fun r18 h => ?_)
            refine v_iload_n dX9_joint_86 rfl (lv_at hl 2 rfl) ?_
            refine v_iald dX9_joint_87 h (fun v19 h => ?_)
            refine v_iconst (-1 : Int32) dX9_joint_88 (by decide) ?_
            refine k_X9_jointOf h qmX9_206 (by decide) hl.1 (Nat.le_of_ble_eq_true rfl) dX9_joint_89 (fun v20 s h => ?_)
            refine v_aload_n dX9_joint_92 rfl (lv_at hl 0 rfl) ?_
            refine v_iload dX9_joint_93 (lv_at hl 4 rfl) ?_
            refine k_X9_part h qmX9_234 (by decide) hl.1 (Nat.le_of_ble_eq_true rfl) dX9_joint_95 (fun v21 s h => ?_)
            exact v_lret dX9_joint_98 h
          · exact L_X9_joint_53 N  s ls (lv_sub hl [] rfl) h
theorem k_X9_joint {X : VX} {cc : ByteArray} {own : String} {nL fr lo : Nat} {ini : Bool} {E : VX → Prop} {sF s : vS} {ρ : Type} {res : ρ} {pc : Nat} {ls : Array Slot} {rest : List Value} {N index : Nat} {a0 : Nat} {l1 : Int32} {l2 : Int32} {l3 : Int32} {l4 : Int32} {f : Int64 → vS → Option ρ} (h : bnd (F_X9_joint N a0 l1 l2 l3 l4 s) f = some res) (hlink : Cond.methodLink own index yX9_joint ∈ TT) (hR : 4 + 1 ≤ fr ∧ 8 + (5 + 11) + 102 ≤ lo) (hls : ls.size = nL) (hr : (rest.map fun v => v.category).sum ≤ 8) (hdg : decode cc pc = .ok (.invokevirtual index, 3)) (kk : ∀ r s', f r s' = some res → V X (cc, own, nL, fr, lo, ini) E sF s' (G0 X (pc + 3) ls (.long r :: rest))) : V X (cc, own, nL, fr, lo, ini) E sF s (G0 X pc ls (.int l4 :: .int l3 :: .int l2 :: .int l1 :: .ref (xb X + a0) :: rest)) := by
  obtain ⟨r, s', e, h⟩ := bnd_some h
  exact v_callV (b := a0) (ci := 9) (As := [.int l1, .int l2, .int l3, .int l4]) (rest := rest) (c_X9_joint X N a0 l1 l2 l3 l4 s s' r e).2 (c_X9_joint (l := xl X) (D := xD X) (ka := xka X) X N a0 l1 l2 l3 l4 s s' r e).1 rfl vl_X9_joint qi_X9_joint qe_X9_joint hlink hR rfl rfl hls hr hdg (kk r s' h)
set_option maxHeartbeats 4000000 in
set_option maxRecDepth 100000 in
theorem L_X9_jointRooted_64 {X : VX} {sF : vS} {r : Int64} (N : Nat) (s : vS) (ls : Array Slot) (hl : lv_has ls 5 []) (h : J_X9_jointRooted_64 N  s = some (r, sF)) : V X (cX9_jointRooted, RX9, 5, 4, 102, false) (vRet sF (some (.long r)) (some .long)) sF s (G0 X 64 ls []) := by
  unfold J_X9_jointRooted_64 at h
  refine v_ldc2 qkX9_166 dX9_jointRooted_64 ?_
  exact v_lret dX9_jointRooted_67 h
theorem vl_X9_jointRooted : vCl yX9_jointRooted cX9_jointRooted 5 (some .long) 4 := ⟨qy_X9_jointRooted, qjX9, by decide +kernel, by decide +kernel, by decide +kernel⟩
set_option maxHeartbeats 4000000 in
set_option maxRecDepth 100000 in
theorem c_X9_jointRooted {l : Launch} {D : va_G} {ka : Nat → ClassId} (X0 : VX) (N : Nat) (a0 : Nat) (l1 : Int32) (l2 : Int32) (l3 : Int32) (l4 : Int32) (s sF : vS) (r : Int64) (h : F_X9_jointRooted N a0 l1 l2 l3 l4 s = some (r, sF)) : isO s a0 9 = true ∧ vMet l D ka (xb X0) yX9_jointRooted cX9_jointRooted 5 (some .long) 4 102 [.ref (xb X0 + a0), .int l1, .int l2, .int l3, .int l4] s sF (some (.long r)) := by
  unfold F_X9_jointRooted at h
  unfold rcv at h
  obtain ⟨hO, h⟩ := v_chk h
  refine ⟨hO, vMet.of (ini := false) X0 (plainFor_of_name (by decide +kernel)) (Nat.le_of_ble_eq_true rfl) (fun h => by cases h) (fun X ls hb hl => ?_) rfl⟩
  show V X (cX9_jointRooted, RX9, 5, 4, 102, false) (vRet sF (some (.long r)) (some .long)) sF s (G0 X 0 ls [])
  rw [← hb] at hl
  have hl : lv_has ls 5 [(0, .ref (xb X + a0)), (1, .int l1), (2, .int l2), (3, .int l3), (4, .int l4)] := hl
  refine v_iload_n dX9_jointRooted_0 rfl (lv_at hl 1 rfl) ?_
  refine k_X9_isRooted h qmX9_231 (by decide) hl.1 (Nat.le_of_ble_eq_true rfl) dX9_jointRooted_1 (fun v1 s h => ?_)
  refine v_if_eq 64 dX9_jointRooted_4 (by decide) h (fun h => ?_) (fun h => ?_)
  · exact L_X9_jointRooted_64 N  s ls (lv_sub hl [] rfl) h
  · refine v_iload_n dX9_jointRooted_7 rfl (lv_at hl 2 rfl) ?_
    refine k_X9_isRooted h qmX9_231 (by decide) hl.1 (Nat.le_of_ble_eq_true rfl) dX9_jointRooted_8 (fun v2 s h => ?_)
    refine v_if_eq 64 dX9_jointRooted_11 (by decide) h (fun h => ?_) (fun h => ?_)
    · exact L_X9_jointRooted_64 N  s ls (lv_sub hl [] rfl) h
    · refine v_iload_n dX9_jointRooted_14 rfl (lv_at hl 3 rfl) ?_
      refine k_X9_isRooted h qmX9_231 (by decide) hl.1 (Nat.le_of_ble_eq_true rfl) dX9_jointRooted_15 (fun v3 s h => ?_)
      refine v_if_eq 64 dX9_jointRooted_18 (by decide) h (fun h => ?_) (fun h => ?_)
      · exact L_X9_jointRooted_64 N  s ls (lv_sub hl [] rfl) h
      · refine v_iload dX9_jointRooted_21 (lv_at hl 4 rfl) ?_
        refine v_iconst (0 : Int32) dX9_jointRooted_23 (by decide) ?_
        refine v_iconst (1 : Int32) dX9_jointRooted_24 (by decide) ?_
        refine k_X9_in h qmX9_129 (by decide) hl.1 (Nat.le_of_ble_eq_true rfl) dX9_jointRooted_25 (fun v4 s h => ?_)
        refine v_if_eq 64 dX9_jointRooted_28 (by decide) h (fun h => ?_) (fun h => ?_)
        · exact L_X9_jointRooted_64 N  s ls (lv_sub hl [] rfl) h
        · refine v_aload_n dX9_jointRooted_31 rfl (lv_at hl 0 rfl) ?_
          refine v_getR 9 0 h (by decide) rfl qfX9_28 dX9_jointRooted_32 (fun r5 h => ?_)
          refine v_bipush (19 : Int32) dX9_jointRooted_35 (by decide) ?_
          refine v_iload_n dX9_jointRooted_37 rfl (lv_at hl 3 rfl) ?_
          refine v_iadd dX9_jointRooted_38 ?_
          refine v_iald dX9_jointRooted_39 h (fun v6 h => ?_)
          refine v_aload_n dX9_jointRooted_40 rfl (lv_at hl 0 rfl) ?_
          refine v_getR 9 0 h (by decide) rfl qfX9_28 dX9_jointRooted_41 (fun r7 h => ?_)
          refine v_bipush (19 : Int32) dX9_jointRooted_44 (by decide) ?_
          refine v_iload_n dX9_jointRooted_46 rfl (lv_at hl 1 rfl) ?_
          refine v_iadd dX9_jointRooted_47 ?_
          refine v_iald dX9_jointRooted_48 h (fun v8 h => ?_)
          refine v_aload_n dX9_jointRooted_49 rfl (lv_at hl 0 rfl) ?_
          refine v_getR 9 0 h (by decide) rfl qfX9_28 dX9_jointRooted_50 (fun r9 h => ?_)
          refine v_bipush (19 : Int32) dX9_jointRooted_53 (by decide) ?_
          refine v_iload_n dX9_jointRooted_55 rfl (lv_at hl 2 rfl) ?_
          refine v_iadd dX9_jointRooted_56 ?_
          refine v_iald dX9_jointRooted_57 h (fun v10 h => ?_)
          refine v_iadd dX9_jointRooted_58 ?_
          refine v_iconst (1 : Int32) dX9_jointRooted_59 (by decide) ?_
          refine v_isub dX9_jointRooted_60 ?_
          refine v_icmp_ge 68 dX9_jointRooted_61 (by decide) h (fun h => ?_) (fun h => ?_)
          · refine v_aload_n dX9_jointRooted_68 rfl (lv_at hl 0 rfl) ?_
            refine v_aload_n dX9_jointRooted_69 rfl (lv_at hl 0 rfl) ?_
            refine v_getR 9 0 h (by decide) rfl qfX9_28 dX9_jointRooted_70 (fun r11 h => ?_)
            refine v_bipush (19 : Int32) dX9_jointRooted_73 (by decide) ?_
            refine v_iload_n dX9_jointRooted_75 rfl (lv_at hl 3 rfl) ?_
            refine v_iadd dX9_jointRooted_76 ?_
            refine v_iald dX9_jointRooted_77 h (fun v12 h => ?_)
            refine v_aload_n dX9_jointRooted_78 rfl (lv_at hl 0 rfl) ?_
            refine v_getR 9 1 h (by decide) rfl qfX9_31 dX9_jointRooted_79 (fun r13 h => ?_)
            refine v_bipush (19 : Int32) dX9_jointRooted_82 (by decide) ?_
            refine v_iload_n dX9_jointRooted_84 rfl (lv_at hl 3 rfl) ?_
            refine v_iadd dX9_jointRooted_85 ?_
            refine v_iald dX9_jointRooted_86 h (fun v14 h => ?_)
            refine k_X9_lookInto h qmX9_203 (by decide) hl.1 (Nat.le_of_ble_eq_true rfl) dX9_jointRooted_87 (fun v15 s h => ?_)
            refine v_aload_n dX9_jointRooted_90 rfl (lv_at hl 0 rfl) ?_
            refine v_iload_n dX9_jointRooted_91 rfl (lv_at hl 1 rfl) ?_
            refine v_aload_n dX9_jointRooted_92 rfl (lv_at hl 0 rfl) ?_
            refine v_getR 9 0 h (by decide) rfl qfX9_28 dX9_jointRooted_93 (fun r16 h => ?_)
            refine v_bipush (19 : Int32) dX9_jointRooted_96 (by decide) ?_
            refine v_iload_n dX9_jointRooted_98 rfl (lv_at hl 1 rfl) ?_
            refine v_iadd dX9_jointRooted_99 ?_
            refine v_iald dX9_jointRooted_100 h (fun v17 h => ?_)
            refine v_iload_n dX9_jointRooted_101 rfl (lv_at hl 2 rfl) ?_
            refine v_aload_n dX9_jointRooted_102 rfl (lv_at hl 0 rfl) ?_
            refine v_getR 9 0 h (by decide) rfl qfX9_28 dX9_jointRooted_103 (fun r18 h => ?_)
            refine v_bipush (19 : Int32) dX9_jointRooted_106 (by decide) ?_
            refine v_iload_n dX9_jointRooted_108 rfl (lv_at hl 2 rfl) ?_
            refine v_iadd dX9_jointRooted_109 ?_
            refine v_iald dX9_jointRooted_110 h (fun v19 h => ?_)
            refine v_iconst (0 : Int32) dX9_jointRooted_111 (by decide) ?_
            refine k_X9_jointOf h qmX9_206 (by decide) hl.1 (Nat.le_of_ble_eq_true rfl) dX9_jointRooted_112 (fun v20 s h => ?_)
            refine v_aload_n dX9_jointRooted_115 rfl (lv_at hl 0 rfl) ?_
            refine v_iload dX9_jointRooted_116 (lv_at hl 4 rfl) ?_
            refine k_X9_part h qmX9_234 (by decide) hl.1 (Nat.le_of_ble_eq_true rfl) dX9_jointRooted_118 (fun v21 s h => ?_)
            exact v_lret dX9_jointRooted_121 h
          · exact L_X9_jointRooted_64 N  s ls (lv_sub hl [] rfl) h
theorem k_X9_jointRooted {X : VX} {cc : ByteArray} {own : String} {nL fr lo : Nat} {ini : Bool} {E : VX → Prop} {sF s : vS} {ρ : Type} {res : ρ} {pc : Nat} {ls : Array Slot} {rest : List Value} {N index : Nat} {a0 : Nat} {l1 : Int32} {l2 : Int32} {l3 : Int32} {l4 : Int32} {f : Int64 → vS → Option ρ} (h : bnd (F_X9_jointRooted N a0 l1 l2 l3 l4 s) f = some res) (hlink : Cond.methodLink own index yX9_jointRooted ∈ TT) (hR : 4 + 1 ≤ fr ∧ 8 + (5 + 11) + 102 ≤ lo) (hls : ls.size = nL) (hr : (rest.map fun v => v.category).sum ≤ 8) (hdg : decode cc pc = .ok (.invokevirtual index, 3)) (kk : ∀ r s', f r s' = some res → V X (cc, own, nL, fr, lo, ini) E sF s' (G0 X (pc + 3) ls (.long r :: rest))) : V X (cc, own, nL, fr, lo, ini) E sF s (G0 X pc ls (.int l4 :: .int l3 :: .int l2 :: .int l1 :: .ref (xb X + a0) :: rest)) := by
  obtain ⟨r, s', e, h⟩ := bnd_some h
  exact v_callV (b := a0) (ci := 9) (As := [.int l1, .int l2, .int l3, .int l4]) (rest := rest) (c_X9_jointRooted X N a0 l1 l2 l3 l4 s s' r e).2 (c_X9_jointRooted (l := xl X) (D := xD X) (ka := xka X) X N a0 l1 l2 l3 l4 s s' r e).1 rfl vl_X9_jointRooted qi_X9_jointRooted qe_X9_jointRooted hlink hR rfl rfl hls hr hdg (kk r s' h)
set_option maxHeartbeats 4000000 in
set_option maxRecDepth 100000 in
theorem L_X9_points_25 {X : VX} {sF : vS} {r : Int32} (N : Nat) : ∀ (n : Nat) (a0 : Nat) (l1 : Int32) (l2 : Int32) (l3 : Int32) (s : vS) (ls : Array Slot), lv_has ls 4 [(0, .ref (xb X + a0)), (1, .int l1), (2, .int l2), (3, .int l3)] → H_X9_points_25 N n a0 l1 l2 l3 s = some (r, sF) → V X (cX9_points, RX9, 4, 1, 22, false) (vRet sF (some (.int r)) (some .int)) sF s (G0 X 25 ls []) := by
  intro n
  induction n with
  | zero => intro a0 l1 l2 l3 s ls hl h; cases h
  | succ n ih =>
   intro a0 l1 l2 l3 s ls hl h
   unfold H_X9_points_25 at h
   refine v_iload_n dX9_points_25 rfl (lv_at hl 3 rfl) ?_
   refine v_iload_n dX9_points_26 rfl (lv_at hl 1 rfl) ?_
   refine v_icmp_ge 43 dX9_points_27 (by decide) h (fun h => ?_) (fun h => ?_)
   · refine v_iload_n dX9_points_43 rfl (lv_at hl 2 rfl) ?_
     exact v_iret dX9_points_44 h
   · refine v_aload_n dX9_points_30 rfl (lv_at hl 0 rfl) ?_
     refine v_getR 9 6 h (by decide) rfl qfX9_46 dX9_points_31 (fun r3 h => ?_)
     refine v_iload_n dX9_points_34 rfl (lv_at hl 3 rfl) ?_
     refine v_iconst (0 : Int32) dX9_points_35 (by decide) ?_
     refine v_iast dX9_points_36 h (fun s h => ?_)
     refine v_inc (fun z => [(3, .int z), (0, .ref (xb X + a0)), (1, .int l1), (2, .int l2)]) dX9_points_37 h hl (k := 3) rfl (by rfl) (by decide) (fun _ => rfl) (fun l3_4 ls hl h => ?_)
     refine v_goto 25 dX9_points_40 (by decide) ?_
     exact ih a0 l1 l2 l3_4 s ls (lv_sub hl [1, 2, 3, 0] rfl) h
theorem vl_X9_points : vCl yX9_points cX9_points 4 (some .int) 1 := ⟨qy_X9_points, qjX9, by decide +kernel, by decide +kernel, by decide +kernel⟩
set_option maxHeartbeats 4000000 in
set_option maxRecDepth 100000 in
theorem c_X9_points {l : Launch} {D : va_G} {ka : Nat → ClassId} (X0 : VX) (N : Nat) (a0 : Nat) (l1 : Int32) (s sF : vS) (r : Int32) (h : F_X9_points N a0 l1 s = some (r, sF)) : isO s a0 9 = true ∧ vMet l D ka (xb X0) yX9_points cX9_points 4 (some .int) 1 22 [.ref (xb X0 + a0), .int l1] s sF (some (.int r)) := by
  unfold F_X9_points at h
  unfold rcv at h
  obtain ⟨hO, h⟩ := v_chk h
  refine ⟨hO, vMet.of (ini := false) X0 (plainFor_of_name (by decide +kernel)) (Nat.le_of_ble_eq_true rfl) (fun h => by cases h) (fun X ls hb hl => ?_) rfl⟩
  show V X (cX9_points, RX9, 4, 1, 22, false) (vRet sF (some (.int r)) (some .int)) sF s (G0 X 0 ls [])
  rw [← hb] at hl
  have hl : lv_has ls 4 [(0, .ref (xb X + a0)), (1, .int l1)] := hl
  refine v_iload_n dX9_points_0 rfl (lv_at hl 1 rfl) ?_
  refine v_iconst (0 : Int32) dX9_points_1 (by decide) ?_
  refine v_bipush (8 : Int32) dX9_points_2 (by decide) ?_
  refine k_X9_in h qmX9_129 (by decide) hl.1 (Nat.le_of_ble_eq_true rfl) dX9_points_4 (fun v1 s h => ?_)
  refine v_if_ne 13 dX9_points_7 (by decide) h (fun h => ?_) (fun h => ?_)
  · refine v_aload_n dX9_points_13 rfl (lv_at hl 0 rfl) ?_
    refine v_getI 9 5 h (by decide) (Or.inl rfl) qfX9_137 dX9_points_14 (fun v2 h => ?_)
    refine v_istore_n [(2, .int v2), (0, .ref (xb X + a0)), (1, .int l1)] dX9_points_17 rfl hl (by decide) rfl (fun ls hl => ?_)
    refine v_aload_n dX9_points_18 rfl (lv_at hl 1 rfl) ?_
    refine v_iload_n dX9_points_19 rfl (lv_at hl 2 rfl) ?_
    refine v_putI 9 5 h (by decide) rfl (Or.inl rfl) qfX9_137 dX9_points_20 (fun s h => ?_)
    refine v_iconst (0 : Int32) dX9_points_23 (by decide) ?_
    refine v_istore_n [(3, .int (0 : Int32)), (2, .int v2), (0, .ref (xb X + a0)), (1, .int l1)] dX9_points_24 rfl hl (by decide) rfl (fun ls hl => ?_)
    exact L_X9_points_25 N N a0 l1 v2 (0 : Int32) s ls (lv_sub hl [2, 3, 1, 0] rfl) h
  · refine v_bipush (-2 : Int32) dX9_points_10 (by decide) ?_
    exact v_iret dX9_points_12 h
theorem k_X9_points {X : VX} {cc : ByteArray} {own : String} {nL fr lo : Nat} {ini : Bool} {E : VX → Prop} {sF s : vS} {ρ : Type} {res : ρ} {pc : Nat} {ls : Array Slot} {rest : List Value} {N index : Nat} {a0 : Nat} {l1 : Int32} {f : Int32 → vS → Option ρ} (h : bnd (F_X9_points N a0 l1 s) f = some res) (hlink : Cond.methodLink own index yX9_points ∈ TT) (hR : 1 + 1 ≤ fr ∧ 8 + (4 + 11) + 22 ≤ lo) (hls : ls.size = nL) (hr : (rest.map fun v => v.category).sum ≤ 8) (hdg : decode cc pc = .ok (.invokevirtual index, 3)) (kk : ∀ r s', f r s' = some res → V X (cc, own, nL, fr, lo, ini) E sF s' (G0 X (pc + 3) ls (.int r :: rest))) : V X (cc, own, nL, fr, lo, ini) E sF s (G0 X pc ls (.int l1 :: .ref (xb X + a0) :: rest)) := by
  obtain ⟨r, s', e, h⟩ := bnd_some h
  exact v_callV (b := a0) (ci := 9) (As := [.int l1]) (rest := rest) (c_X9_points X N a0 l1 s s' r e).2 (c_X9_points (l := xl X) (D := xD X) (ka := xka X) X N a0 l1 s s' r e).1 rfl vl_X9_points qi_X9_points qe_X9_points hlink hR rfl rfl hls hr hdg (kk r s' h)
theorem vl_X9_isPoint : vCl yX9_isPoint cX9_isPoint 2 (some .boolean) 1 := ⟨qy_X9_isPoint, qjX9, by decide +kernel, by decide +kernel, by decide +kernel⟩
set_option maxHeartbeats 4000000 in
set_option maxRecDepth 100000 in
theorem c_X9_isPoint {l : Launch} {D : va_G} {ka : Nat → ClassId} (X0 : VX) (N : Nat) (a0 : Nat) (l1 : Int32) (s sF : vS) (r : Int32) (h : F_X9_isPoint N a0 l1 s = some (r, sF)) : isO s a0 9 = true ∧ vMet l D ka (xb X0) yX9_isPoint cX9_isPoint 2 (some .boolean) 1 22 [.ref (xb X0 + a0), .int l1] s sF (some (.int r)) := by
  unfold F_X9_isPoint at h
  unfold rcv at h
  obtain ⟨hO, h⟩ := v_chk h
  refine ⟨hO, vMet.of (ini := false) X0 (plainFor_of_name (by decide +kernel)) (Nat.le_of_ble_eq_true rfl) (fun h => by cases h) (fun X ls hb hl => ?_) rfl⟩
  show V X (cX9_isPoint, RX9, 2, 1, 22, false) (vRet sF (some (.int r)) (some .boolean)) sF s (G0 X 0 ls [])
  rw [← hb] at hl
  have hl : lv_has ls 2 [(0, .ref (xb X + a0)), (1, .int l1)] := hl
  refine v_iload_n dX9_isPoint_0 rfl (lv_at hl 1 rfl) ?_
  refine v_iconst (0 : Int32) dX9_isPoint_1 (by decide) ?_
  refine v_aload_n dX9_isPoint_2 rfl (lv_at hl 0 rfl) ?_
  refine v_getI 9 5 h (by decide) (Or.inl rfl) qfX9_137 dX9_isPoint_3 (fun v1 h => ?_)
  refine v_iconst (1 : Int32) dX9_isPoint_6 (by decide) ?_
  refine v_isub dX9_isPoint_7 ?_
  refine k_X9_in h qmX9_129 (by decide) hl.1 (Nat.le_of_ble_eq_true rfl) dX9_isPoint_8 (fun v2 s h => ?_)
  exact v_zret dX9_isPoint_11 h
theorem k_X9_isPoint {X : VX} {cc : ByteArray} {own : String} {nL fr lo : Nat} {ini : Bool} {E : VX → Prop} {sF s : vS} {ρ : Type} {res : ρ} {pc : Nat} {ls : Array Slot} {rest : List Value} {N index : Nat} {a0 : Nat} {l1 : Int32} {f : Int32 → vS → Option ρ} (h : bnd (F_X9_isPoint N a0 l1 s) f = some res) (hlink : Cond.methodLink own index yX9_isPoint ∈ TT) (hR : 1 + 1 ≤ fr ∧ 8 + (2 + 11) + 22 ≤ lo) (hls : ls.size = nL) (hr : (rest.map fun v => v.category).sum ≤ 8) (hdg : decode cc pc = .ok (.invokevirtual index, 3)) (kk : ∀ r s', f r s' = some res → V X (cc, own, nL, fr, lo, ini) E sF s' (G0 X (pc + 3) ls (.int r :: rest))) : V X (cc, own, nL, fr, lo, ini) E sF s (G0 X pc ls (.int l1 :: .ref (xb X + a0) :: rest)) := by
  obtain ⟨r, s', e, h⟩ := bnd_some h
  exact v_callV (b := a0) (ci := 9) (As := [.int l1]) (rest := rest) (c_X9_isPoint X N a0 l1 s s' r e).2 (c_X9_isPoint (l := xl X) (D := xD X) (ka := xka X) X N a0 l1 s s' r e).1 rfl vl_X9_isPoint qi_X9_isPoint qe_X9_isPoint hlink hR rfl rfl hls hr hdg (kk r s' h)
set_option maxHeartbeats 4000000 in
set_option maxRecDepth 100000 in
theorem L_X9_line_77 {X : VX} {sF : vS} {r : Int32} (N : Nat) (l4 : Int32) (s : vS) (ls : Array Slot) (hl : lv_has ls 5 [(4, .int l4)]) (h : J_X9_line_77 N l4 s = some (r, sF)) : V X (cX9_line, RX9, 5, 2, 43, false) (vRet sF (some (.int r)) (some .int)) sF s (G0 X 77 ls []) := by
  unfold J_X9_line_77 at h
  refine v_iload dX9_line_77 (lv_at hl 0 rfl) ?_
  exact v_iret dX9_line_79 h
set_option maxHeartbeats 4000000 in
set_option maxRecDepth 100000 in
theorem L_X9_line_32 {X : VX} {sF : vS} {r : Int32} (N : Nat) (s : vS) (ls : Array Slot) (hl : lv_has ls 5 []) (h : J_X9_line_32 N  s = some (r, sF)) : V X (cX9_line, RX9, 5, 2, 43, false) (vRet sF (some (.int r)) (some .int)) sF s (G0 X 32 ls []) := by
  unfold J_X9_line_32 at h
  refine v_bipush (-2 : Int32) dX9_line_32 (by decide) ?_
  exact v_iret dX9_line_34 h
set_option maxHeartbeats 4000000 in
set_option maxRecDepth 100000 in
theorem L_X9_line_16 {X : VX} {sF : vS} {r : Int32} (N : Nat) (s : vS) (ls : Array Slot) (hl : lv_has ls 5 []) (h : J_X9_line_16 N  s = some (r, sF)) : V X (cX9_line, RX9, 5, 2, 43, false) (vRet sF (some (.int r)) (some .int)) sF s (G0 X 16 ls []) := by
  unfold J_X9_line_16 at h
  refine v_iconst (-1 : Int32) dX9_line_16 (by decide) ?_
  exact v_iret dX9_line_17 h
theorem vl_X9_line : vCl yX9_line cX9_line 5 (some .int) 3 := ⟨qy_X9_line, qjX9, by decide +kernel, by decide +kernel, by decide +kernel⟩
set_option maxHeartbeats 4000000 in
set_option maxRecDepth 100000 in
theorem c_X9_line {l : Launch} {D : va_G} {ka : Nat → ClassId} (X0 : VX) (N : Nat) (a0 : Nat) (l1 : Int32) (l2 : Int32) (l3 : Int32) (s sF : vS) (r : Int32) (h : F_X9_line N a0 l1 l2 l3 s = some (r, sF)) : isO s a0 9 = true ∧ vMet l D ka (xb X0) yX9_line cX9_line 5 (some .int) 2 43 [.ref (xb X0 + a0), .int l1, .int l2, .int l3] s sF (some (.int r)) := by
  unfold F_X9_line at h
  unfold rcv at h
  obtain ⟨hO, h⟩ := v_chk h
  refine ⟨hO, vMet.of (ini := false) X0 (plainFor_of_name (by decide +kernel)) (Nat.le_of_ble_eq_true rfl) (fun h => by cases h) (fun X ls hb hl => ?_) rfl⟩
  show V X (cX9_line, RX9, 5, 2, 43, false) (vRet sF (some (.int r)) (some .int)) sF s (G0 X 0 ls [])
  rw [← hb] at hl
  have hl : lv_has ls 5 [(0, .ref (xb X + a0)), (1, .int l1), (2, .int l2), (3, .int l3)] := hl
  refine v_aload_n dX9_line_0 rfl (lv_at hl 0 rfl) ?_
  refine v_iload_n dX9_line_1 rfl (lv_at hl 1 rfl) ?_
  refine k_X9_isPoint h qmX9_238 (by decide) hl.1 (Nat.le_of_ble_eq_true rfl) dX9_line_2 (fun v1 s h => ?_)
  refine v_if_eq 16 dX9_line_5 (by decide) h (fun h => ?_) (fun h => ?_)
  · exact L_X9_line_16 N  s ls (lv_sub hl [] rfl) h
  · refine v_aload_n dX9_line_8 rfl (lv_at hl 0 rfl) ?_
    refine v_iload_n dX9_line_9 rfl (lv_at hl 2 rfl) ?_
    refine k_X9_isPoint h qmX9_238 (by decide) hl.1 (Nat.le_of_ble_eq_true rfl) dX9_line_10 (fun v2 s h => ?_)
    refine v_if_ne 18 dX9_line_13 (by decide) h (fun h => ?_) (fun h => ?_)
    · refine v_iload_n dX9_line_18 rfl (lv_at hl 3 rfl) ?_
      refine v_iconst (0 : Int32) dX9_line_19 (by decide) ?_
      refine v_iconst (1 : Int32) dX9_line_20 (by decide) ?_
      refine k_X9_in h qmX9_129 (by decide) hl.1 (Nat.le_of_ble_eq_true rfl) dX9_line_21 (fun v3 s h => ?_)
      refine v_if_eq 32 dX9_line_24 (by decide) h (fun h => ?_) (fun h => ?_)
      · exact L_X9_line_32 N  s ls (lv_sub hl [] rfl) h
      · refine v_iload_n dX9_line_27 rfl (lv_at hl 1 rfl) ?_
        refine v_iload_n dX9_line_28 rfl (lv_at hl 2 rfl) ?_
        refine v_icmp_ne 35 dX9_line_29 (by decide) h (fun h => ?_) (fun h => ?_)
        · refine v_aload_n dX9_line_35 rfl (lv_at hl 0 rfl) ?_
          refine v_getR 9 6 h (by decide) rfl qfX9_46 dX9_line_36 (fun r4 h => ?_)
          refine v_iload_n dX9_line_39 rfl (lv_at hl 1 rfl) ?_
          refine v_iald dX9_line_40 h (fun v5 h => ?_)
          refine v_iload_n dX9_line_41 rfl (lv_at hl 2 rfl) ?_
          refine v_ishr dX9_line_42 ?_
          refine v_iconst (1 : Int32) dX9_line_43 (by decide) ?_
          refine v_iand dX9_line_44 ?_
          refine v_nmI h (fun l4_6 h => ?_)
          refine v_istore [(4, .int l4_6), (0, .ref (xb X + a0)), (1, .int l1), (2, .int l2), (3, .int l3)] dX9_line_45 hl (by decide) rfl (fun ls hl => ?_)
          refine v_iload dX9_line_47 (lv_at hl 0 rfl) ?_
          refine v_iload_n dX9_line_49 rfl (lv_at hl 4 rfl) ?_
          refine v_icmp_eq 77 dX9_line_50 (by decide) h (fun h => ?_) (fun h => ?_)
          · exact L_X9_line_77 N l4_6 s ls (lv_sub hl [0] rfl) h
          · refine v_aload_n dX9_line_53 rfl (lv_at hl 1 rfl) ?_
            refine v_getR 9 6 h (by decide) rfl qfX9_46 dX9_line_54 (fun r7 h => ?_)
            refine v_iload_n dX9_line_57 rfl (lv_at hl 2 rfl) ?_
            refine v_dup2 dX9_line_58 rfl rfl ?_
            refine v_iald dX9_line_59 h (fun v8 h => ?_)
            refine v_iconst (1 : Int32) dX9_line_60 (by decide) ?_
            refine v_iload_n dX9_line_61 rfl (lv_at hl 3 rfl) ?_
            refine v_ishl dX9_line_62 ?_
            refine v_ixor dX9_line_63 ?_
            refine v_iast dX9_line_64 h (fun s h => ?_)
            refine v_aload_n dX9_line_65 rfl (lv_at hl 1 rfl) ?_
            refine v_getR 9 6 h (by decide) rfl qfX9_46 dX9_line_66 (fun r9 h => ?_)
            refine v_iload_n dX9_line_69 rfl (lv_at hl 3 rfl) ?_
            refine v_dup2 dX9_line_70 rfl rfl ?_
            refine v_iald dX9_line_71 h (fun v10 h => ?_)
            refine v_iconst (1 : Int32) dX9_line_72 (by decide) ?_
            refine v_iload_n dX9_line_73 rfl (lv_at hl 2 rfl) ?_
            refine v_ishl dX9_line_74 ?_
            refine v_ixor dX9_line_75 ?_
            refine v_iast dX9_line_76 h (fun s h => ?_)
            exact L_X9_line_77 N l4_6 s ls (lv_sub hl [0] rfl) h
        · exact L_X9_line_32 N  s ls (lv_sub hl [] rfl) h
    · exact L_X9_line_16 N  s ls (lv_sub hl [] rfl) h
theorem k_X9_line {X : VX} {cc : ByteArray} {own : String} {nL fr lo : Nat} {ini : Bool} {E : VX → Prop} {sF s : vS} {ρ : Type} {res : ρ} {pc : Nat} {ls : Array Slot} {rest : List Value} {N index : Nat} {a0 : Nat} {l1 : Int32} {l2 : Int32} {l3 : Int32} {f : Int32 → vS → Option ρ} (h : bnd (F_X9_line N a0 l1 l2 l3 s) f = some res) (hlink : Cond.methodLink own index yX9_line ∈ TT) (hR : 2 + 1 ≤ fr ∧ 8 + (5 + 11) + 43 ≤ lo) (hls : ls.size = nL) (hr : (rest.map fun v => v.category).sum ≤ 8) (hdg : decode cc pc = .ok (.invokevirtual index, 3)) (kk : ∀ r s', f r s' = some res → V X (cc, own, nL, fr, lo, ini) E sF s' (G0 X (pc + 3) ls (.int r :: rest))) : V X (cc, own, nL, fr, lo, ini) E sF s (G0 X pc ls (.int l3 :: .int l2 :: .int l1 :: .ref (xb X + a0) :: rest)) := by
  obtain ⟨r, s', e, h⟩ := bnd_some h
  exact v_callV (b := a0) (ci := 9) (As := [.int l1, .int l2, .int l3]) (rest := rest) (c_X9_line X N a0 l1 l2 l3 s s' r e).2 (c_X9_line (l := xl X) (D := xD X) (ka := xka X) X N a0 l1 l2 l3 s s' r e).1 rfl vl_X9_line qi_X9_line qe_X9_line hlink hR rfl rfl hls hr hdg (kk r s' h)
set_option maxHeartbeats 4000000 in
set_option maxRecDepth 100000 in
theorem L_X9_told_188 {X : VX} {sF : vS} {r : Int32} (N : Nat) (k0 : Int32) (s : vS) (ls : Array Slot) (hl : lv_has ls 10 []) (h : J_X9_told_188 N k0 s = some (r, sF)) : V X (cX9_told, RX9, 10, 1, 22, false) (vRet sF (some (.int r)) (some .int)) sF s (G0 X 188 ls [.int k0]) := by
  unfold J_X9_told_188 at h
  exact v_iret dX9_told_188 h
set_option maxHeartbeats 4000000 in
set_option maxRecDepth 100000 in
theorem L_X9_told_134 {X : VX} {sF : vS} {r : Int32} (N : Nat) (k21 : Nat → Int32 → Int32 → Int32 → Int32 → Int32 → vS → Option (Int32 × vS)) (k63 : Nat → Int32 → Int32 → Int32 → Int32 → Int32 → Int32 → vS → Option (Int32 × vS)) (k73 : Nat → Int32 → Int32 → Int32 → Int32 → Int32 → Int32 → Int32 → vS → Option (Int32 × vS)) (hk21 : ∀ (a0 : Nat) (l1 : Int32) (l2 : Int32) (l3 : Int32) (l4 : Int32) (l5 : Int32) (s : vS) (ls : Array Slot), lv_has ls 10 [(0, .ref (xb X + a0)), (1, .int l1), (2, .int l2), (3, .int l3), (4, .int l4), (5, .int l5)] → k21 a0 l1 l2 l3 l4 l5 s = some (r, sF) → V X (cX9_told, RX9, 10, 1, 22, false) (vRet sF (some (.int r)) (some .int)) sF s (G0 X 21 ls [])) (hk63 : ∀ (a0 : Nat) (l1 : Int32) (l2 : Int32) (l3 : Int32) (l4 : Int32) (l5 : Int32) (l7 : Int32) (s : vS) (ls : Array Slot), lv_has ls 10 [(0, .ref (xb X + a0)), (1, .int l1), (2, .int l2), (3, .int l3), (4, .int l4), (5, .int l5), (7, .int l7)] → k63 a0 l1 l2 l3 l4 l5 l7 s = some (r, sF) → V X (cX9_told, RX9, 10, 1, 22, false) (vRet sF (some (.int r)) (some .int)) sF s (G0 X 63 ls [])) (hk73 : ∀ (a0 : Nat) (l1 : Int32) (l2 : Int32) (l3 : Int32) (l4 : Int32) (l5 : Int32) (l7 : Int32) (l8 : Int32) (s : vS) (ls : Array Slot), lv_has ls 10 [(0, .ref (xb X + a0)), (1, .int l1), (2, .int l2), (3, .int l3), (4, .int l4), (5, .int l5), (7, .int l7), (8, .int l8)] → k73 a0 l1 l2 l3 l4 l5 l7 l8 s = some (r, sF) → V X (cX9_told, RX9, 10, 1, 22, false) (vRet sF (some (.int r)) (some .int)) sF s (G0 X 73 ls [])) (a0 : Nat) (l1 : Int32) (l2 : Int32) (l3 : Int32) (l5 : Int32) (l7 : Int32) (l8 : Int32) (k0 : Int32) (k1 : Int32) (s : vS) (ls : Array Slot) (hl : lv_has ls 10 [(0, .ref (xb X + a0)), (1, .int l1), (2, .int l2), (3, .int l3), (5, .int l5), (7, .int l7), (8, .int l8)]) (h : J_X9_told_134 N k21 k63 k73 a0 l1 l2 l3 l5 l7 l8 k0 k1 s = some (r, sF)) : V X (cX9_told, RX9, 10, 1, 22, false) (vRet sF (some (.int r)) (some .int)) sF s (G0 X 134 ls [.int k1, .int k0]) := by
  unfold J_X9_told_134 at h
  refine v_iadd dX9_told_134 ?_
  refine v_nmI h (fun l4_17 h => ?_)
  refine v_istore [(4, .int l4_17), (0, .ref (xb X + a0)), (1, .int l1), (2, .int l2), (3, .int l3), (5, .int l5), (7, .int l7), (8, .int l8)] dX9_told_135 hl (by decide) rfl (fun ls hl => ?_)
  refine v_inc (fun z => [(8, .int z), (4, .int l4_17), (0, .ref (xb X + a0)), (1, .int l1), (2, .int l2), (3, .int l3), (5, .int l5), (7, .int l7)]) dX9_told_137 h hl (k := 7) rfl (by rfl) (by decide) (fun _ => rfl) (fun l8_18 ls hl h => ?_)
  refine v_goto 73 dX9_told_140 (by decide) ?_
  exact hk73 a0 l1 l2 l3 l4_17 l5 l7 l8_18 s ls (lv_sub hl [2, 3, 4, 5, 1, 6, 7, 0] rfl) h
set_option maxHeartbeats 4000000 in
set_option maxRecDepth 100000 in
theorem L_X9_told_73 {X : VX} {sF : vS} {r : Int32} (N : Nat) (k21 : Nat → Int32 → Int32 → Int32 → Int32 → Int32 → vS → Option (Int32 × vS)) (k63 : Nat → Int32 → Int32 → Int32 → Int32 → Int32 → Int32 → vS → Option (Int32 × vS)) (hk21 : ∀ (a0 : Nat) (l1 : Int32) (l2 : Int32) (l3 : Int32) (l4 : Int32) (l5 : Int32) (s : vS) (ls : Array Slot), lv_has ls 10 [(0, .ref (xb X + a0)), (1, .int l1), (2, .int l2), (3, .int l3), (4, .int l4), (5, .int l5)] → k21 a0 l1 l2 l3 l4 l5 s = some (r, sF) → V X (cX9_told, RX9, 10, 1, 22, false) (vRet sF (some (.int r)) (some .int)) sF s (G0 X 21 ls [])) (hk63 : ∀ (a0 : Nat) (l1 : Int32) (l2 : Int32) (l3 : Int32) (l4 : Int32) (l5 : Int32) (l7 : Int32) (s : vS) (ls : Array Slot), lv_has ls 10 [(0, .ref (xb X + a0)), (1, .int l1), (2, .int l2), (3, .int l3), (4, .int l4), (5, .int l5), (7, .int l7)] → k63 a0 l1 l2 l3 l4 l5 l7 s = some (r, sF) → V X (cX9_told, RX9, 10, 1, 22, false) (vRet sF (some (.int r)) (some .int)) sF s (G0 X 63 ls [])) : ∀ (n : Nat) (a0 : Nat) (l1 : Int32) (l2 : Int32) (l3 : Int32) (l4 : Int32) (l5 : Int32) (l7 : Int32) (l8 : Int32) (s : vS) (ls : Array Slot), lv_has ls 10 [(0, .ref (xb X + a0)), (1, .int l1), (2, .int l2), (3, .int l3), (4, .int l4), (5, .int l5), (7, .int l7), (8, .int l8)] → H_X9_told_73 N k21 k63 n a0 l1 l2 l3 l4 l5 l7 l8 s = some (r, sF) → V X (cX9_told, RX9, 10, 1, 22, false) (vRet sF (some (.int r)) (some .int)) sF s (G0 X 73 ls []) := by
  intro n
  induction n with
  | zero => intro a0 l1 l2 l3 l4 l5 l7 l8 s ls hl h; cases h
  | succ n ih =>
   intro a0 l1 l2 l3 l4 l5 l7 l8 s ls hl h
   unfold H_X9_told_73 at h
   refine v_iload dX9_told_73 (lv_at hl 7 rfl) ?_
   refine v_iload dX9_told_75 (lv_at hl 6 rfl) ?_
   refine v_icmp_ge 143 dX9_told_77 (by decide) h (fun h => ?_) (fun h => ?_)
   · refine v_inc (fun z => [(7, .int z), (0, .ref (xb X + a0)), (1, .int l1), (2, .int l2), (3, .int l3), (4, .int l4), (5, .int l5), (8, .int l8)]) dX9_told_143 h hl (k := 6) rfl (by rfl) (by decide) (fun _ => rfl) (fun l7_9 ls hl h => ?_)
     refine v_goto 63 dX9_told_146 (by decide) ?_
     exact hk63 a0 l1 l2 l3 l4 l5 l7_9 s ls (lv_sub hl [1, 2, 3, 4, 5, 6, 0] rfl) h
   · refine v_aload_n dX9_told_80 rfl (lv_at hl 0 rfl) ?_
     refine v_getR 9 6 h (by decide) rfl qfX9_46 dX9_told_81 (fun r10 h => ?_)
     refine v_iload dX9_told_84 (lv_at hl 5 rfl) ?_
     refine v_iald dX9_told_86 h (fun v11 h => ?_)
     refine v_iload dX9_told_87 (lv_at hl 6 rfl) ?_
     refine v_ishr dX9_told_89 ?_
     refine v_iconst (1 : Int32) dX9_told_90 (by decide) ?_
     refine v_iand dX9_told_91 ?_
     refine v_aload_n dX9_told_92 rfl (lv_at hl 0 rfl) ?_
     refine v_getR 9 6 h (by decide) rfl qfX9_46 dX9_told_93 (fun r12 h => ?_)
     refine v_iload dX9_told_96 (lv_at hl 5 rfl) ?_
     refine v_iald dX9_told_98 h (fun v13 h => ?_)
     refine v_iload dX9_told_99 (lv_at hl 7 rfl) ?_
     refine v_ishr dX9_told_101 ?_
     refine v_iconst (1 : Int32) dX9_told_102 (by decide) ?_
     refine v_iand dX9_told_103 ?_
     refine v_iadd dX9_told_104 ?_
     refine v_aload_n dX9_told_105 rfl (lv_at hl 0 rfl) ?_
     refine v_getR 9 6 h (by decide) rfl qfX9_46 dX9_told_106 (fun r14 h => ?_)
     refine v_iload dX9_told_109 (lv_at hl 6 rfl) ?_
     refine v_iald dX9_told_111 h (fun v15 h => ?_)
     refine v_iload dX9_told_112 (lv_at hl 7 rfl) ?_
     refine v_ishr dX9_told_114 ?_
     refine v_iconst (1 : Int32) dX9_told_115 (by decide) ?_
     refine v_iand dX9_told_116 ?_
     refine v_iadd dX9_told_117 ?_
     refine v_nmI h (fun l9_16 h => ?_)
     refine v_istore [(9, .int l9_16), (0, .ref (xb X + a0)), (1, .int l1), (2, .int l2), (3, .int l3), (4, .int l4), (5, .int l5), (7, .int l7), (8, .int l8)] dX9_told_118 hl (by decide) rfl (fun ls hl => ?_)
     refine v_iload dX9_told_120 (lv_at hl 5 rfl) ?_
     refine v_iload dX9_told_122 (lv_at hl 0 rfl) ?_
     refine v_iconst (3 : Int32) dX9_told_124 (by decide) ?_
     refine v_irem dX9_told_125 h (fun h => ?_)
     refine v_if_ne 133 dX9_told_126 (by decide) h (fun h => ?_) (fun h => ?_)
     · refine v_iconst (0 : Int32) dX9_told_133 (by decide) ?_
       exact L_X9_told_134 N k21 k63 (H_X9_told_73 N k21 k63 n) hk21 hk63 ih a0 l1 l2 l3 l5 l7 l8 l4 (0 : Int32) s ls (lv_sub hl [1, 2, 3, 4, 6, 7, 8] rfl) h
     · refine v_iconst (1 : Int32) dX9_told_129 (by decide) ?_
       refine v_goto 134 dX9_told_130 (by decide) ?_
       exact L_X9_told_134 N k21 k63 (H_X9_told_73 N k21 k63 n) hk21 hk63 ih a0 l1 l2 l3 l5 l7 l8 l4 (1 : Int32) s ls (lv_sub hl [1, 2, 3, 4, 6, 7, 8] rfl) h
set_option maxHeartbeats 4000000 in
set_option maxRecDepth 100000 in
theorem L_X9_told_63 {X : VX} {sF : vS} {r : Int32} (N : Nat) (k21 : Nat → Int32 → Int32 → Int32 → Int32 → Int32 → vS → Option (Int32 × vS)) (hk21 : ∀ (a0 : Nat) (l1 : Int32) (l2 : Int32) (l3 : Int32) (l4 : Int32) (l5 : Int32) (s : vS) (ls : Array Slot), lv_has ls 10 [(0, .ref (xb X + a0)), (1, .int l1), (2, .int l2), (3, .int l3), (4, .int l4), (5, .int l5)] → k21 a0 l1 l2 l3 l4 l5 s = some (r, sF) → V X (cX9_told, RX9, 10, 1, 22, false) (vRet sF (some (.int r)) (some .int)) sF s (G0 X 21 ls [])) : ∀ (n : Nat) (a0 : Nat) (l1 : Int32) (l2 : Int32) (l3 : Int32) (l4 : Int32) (l5 : Int32) (l7 : Int32) (s : vS) (ls : Array Slot), lv_has ls 10 [(0, .ref (xb X + a0)), (1, .int l1), (2, .int l2), (3, .int l3), (4, .int l4), (5, .int l5), (7, .int l7)] → H_X9_told_63 N k21 n a0 l1 l2 l3 l4 l5 l7 s = some (r, sF) → V X (cX9_told, RX9, 10, 1, 22, false) (vRet sF (some (.int r)) (some .int)) sF s (G0 X 63 ls []) := by
  intro n
  induction n with
  | zero => intro a0 l1 l2 l3 l4 l5 l7 s ls hl h; cases h
  | succ n ih =>
   intro a0 l1 l2 l3 l4 l5 l7 s ls hl h
   unfold H_X9_told_63 at h
   refine v_iload dX9_told_63 (lv_at hl 6 rfl) ?_
   refine v_iload dX9_told_65 (lv_at hl 5 rfl) ?_
   refine v_icmp_ge 149 dX9_told_67 (by decide) h (fun h => ?_) (fun h => ?_)
   · refine v_inc (fun z => [(5, .int z), (0, .ref (xb X + a0)), (1, .int l1), (2, .int l2), (3, .int l3), (4, .int l4), (7, .int l7)]) dX9_told_149 h hl (k := 5) rfl (by rfl) (by decide) (fun _ => rfl) (fun l5_8 ls hl h => ?_)
     refine v_goto 21 dX9_told_152 (by decide) ?_
     exact hk21 a0 l1 l2 l3 l4 l5_8 s ls (lv_sub hl [1, 2, 3, 4, 5, 0] rfl) h
   · refine v_iconst (0 : Int32) dX9_told_70 (by decide) ?_
     refine v_istore [(8, .int (0 : Int32)), (0, .ref (xb X + a0)), (1, .int l1), (2, .int l2), (3, .int l3), (4, .int l4), (5, .int l5), (7, .int l7)] dX9_told_71 hl (by decide) rfl (fun ls hl => ?_)
     exact L_X9_told_73 N k21 (H_X9_told_63 N k21 n) hk21 ih N a0 l1 l2 l3 l4 l5 l7 (0 : Int32) s ls (lv_sub hl [1, 2, 3, 4, 5, 6, 7, 0] rfl) h
set_option maxHeartbeats 4000000 in
set_option maxRecDepth 100000 in
theorem L_X9_told_59 {X : VX} {sF : vS} {r : Int32} (N : Nat) (k21 : Nat → Int32 → Int32 → Int32 → Int32 → Int32 → vS → Option (Int32 × vS)) (hk21 : ∀ (a0 : Nat) (l1 : Int32) (l2 : Int32) (l3 : Int32) (l4 : Int32) (l5 : Int32) (s : vS) (ls : Array Slot), lv_has ls 10 [(0, .ref (xb X + a0)), (1, .int l1), (2, .int l2), (3, .int l3), (4, .int l4), (5, .int l5)] → k21 a0 l1 l2 l3 l4 l5 s = some (r, sF) → V X (cX9_told, RX9, 10, 1, 22, false) (vRet sF (some (.int r)) (some .int)) sF s (G0 X 21 ls [])) (a0 : Nat) (l1 : Int32) (l2 : Int32) (l4 : Int32) (l5 : Int32) (k0 : Int32) (s : vS) (ls : Array Slot) (hl : lv_has ls 10 [(0, .ref (xb X + a0)), (1, .int l1), (2, .int l2), (4, .int l4), (5, .int l5)]) (h : J_X9_told_59 N k21 a0 l1 l2 l4 l5 k0 s = some (r, sF)) : V X (cX9_told, RX9, 10, 1, 22, false) (vRet sF (some (.int r)) (some .int)) sF s (G0 X 59 ls [.int k0]) := by
  unfold J_X9_told_59 at h
  refine v_istore_n [(3, .int k0), (0, .ref (xb X + a0)), (1, .int l1), (2, .int l2), (4, .int l4), (5, .int l5)] dX9_told_59 rfl hl (by decide) rfl (fun ls hl => ?_)
  refine v_iconst (0 : Int32) dX9_told_60 (by decide) ?_
  refine v_istore [(7, .int (0 : Int32)), (3, .int k0), (0, .ref (xb X + a0)), (1, .int l1), (2, .int l2), (4, .int l4), (5, .int l5)] dX9_told_61 hl (by decide) rfl (fun ls hl => ?_)
  exact L_X9_told_63 N k21 hk21 N a0 l1 l2 k0 l4 l5 (0 : Int32) s ls (lv_sub hl [2, 3, 4, 1, 5, 6, 0] rfl) h
set_option maxHeartbeats 4000000 in
set_option maxRecDepth 100000 in
theorem L_X9_told_21 {X : VX} {sF : vS} {r : Int32} (N : Nat) : ∀ (n : Nat) (a0 : Nat) (l1 : Int32) (l2 : Int32) (l3 : Int32) (l4 : Int32) (l5 : Int32) (s : vS) (ls : Array Slot), lv_has ls 10 [(0, .ref (xb X + a0)), (1, .int l1), (2, .int l2), (3, .int l3), (4, .int l4), (5, .int l5)] → H_X9_told_21 N n a0 l1 l2 l3 l4 l5 s = some (r, sF) → V X (cX9_told, RX9, 10, 1, 22, false) (vRet sF (some (.int r)) (some .int)) sF s (G0 X 21 ls []) := by
  intro n
  induction n with
  | zero => intro a0 l1 l2 l3 l4 l5 s ls hl h; cases h
  | succ n ih =>
   intro a0 l1 l2 l3 l4 l5 s ls hl h
   unfold H_X9_told_21 at h
   refine v_iload dX9_told_21 (lv_at hl 5 rfl) ?_
   refine v_aload_n dX9_told_23 rfl (lv_at hl 0 rfl) ?_
   refine v_getI 9 5 h (by decide) (Or.inl rfl) qfX9_137 dX9_told_24 (fun v2 h => ?_)
   refine v_icmp_ge 155 dX9_told_27 (by decide) h (fun h => ?_) (fun h => ?_)
   · refine v_iload_n dX9_told_155 rfl (lv_at hl 1 rfl) ?_
     refine v_if_ne 166 dX9_told_156 (by decide) h (fun h => ?_) (fun h => ?_)
     · refine v_iload_n dX9_told_166 rfl (lv_at hl 1 rfl) ?_
       refine v_iconst (1 : Int32) dX9_told_167 (by decide) ?_
       refine v_icmp_ne 177 dX9_told_168 (by decide) h (fun h => ?_) (fun h => ?_)
       · refine v_iload_n dX9_told_177 rfl (lv_at hl 1 rfl) ?_
         refine v_iconst (2 : Int32) dX9_told_178 (by decide) ?_
         refine v_icmp_ne 186 dX9_told_179 (by decide) h (fun h => ?_) (fun h => ?_)
         · refine v_iload dX9_told_186 (lv_at hl 4 rfl) ?_
           exact L_X9_told_188 N l4 s ls (lv_sub hl [] rfl) h
         · refine v_iload_n dX9_told_182 rfl (lv_at hl 3 rfl) ?_
           refine v_goto 188 dX9_told_183 (by decide) ?_
           exact L_X9_told_188 N l3 s ls (lv_sub hl [] rfl) h
       · refine v_iload_n dX9_told_171 rfl (lv_at hl 2 rfl) ?_
         refine v_iconst (2 : Int32) dX9_told_172 (by decide) ?_
         refine v_idiv dX9_told_173 h (fun h => ?_)
         refine v_goto 188 dX9_told_174 (by decide) ?_
         exact L_X9_told_188 N (l2 / (2 : Int32)) s ls (lv_sub hl [] rfl) h
     · refine v_aload_n dX9_told_159 rfl (lv_at hl 0 rfl) ?_
       refine v_getI 9 5 h (by decide) (Or.inl rfl) qfX9_137 dX9_told_160 (fun v3 h => ?_)
       refine v_goto 188 dX9_told_163 (by decide) ?_
       exact L_X9_told_188 N v3 s ls (lv_sub hl [] rfl) h
   · refine v_aload_n dX9_told_30 rfl (lv_at hl 0 rfl) ?_
     refine v_getR 9 6 h (by decide) rfl qfX9_46 dX9_told_31 (fun r4 h => ?_)
     refine v_iload dX9_told_34 (lv_at hl 5 rfl) ?_
     refine v_iald dX9_told_36 h (fun v5 h => ?_)
     refine k_X9_ones h qmX9_140 (by decide) hl.1 (Nat.le_of_ble_eq_true rfl) dX9_told_37 (fun v6 s h => ?_)
     refine v_istore [(6, .int v6), (0, .ref (xb X + a0)), (1, .int l1), (2, .int l2), (3, .int l3), (4, .int l4), (5, .int l5)] dX9_told_40 hl (by decide) rfl (fun ls hl => ?_)
     refine v_iload_n dX9_told_42 rfl (lv_at hl 3 rfl) ?_
     refine v_iload dX9_told_43 (lv_at hl 0 rfl) ?_
     refine v_iadd dX9_told_45 ?_
     refine v_nmI h (fun l2_7 h => ?_)
     refine v_istore_n [(2, .int l2_7), (6, .int v6), (0, .ref (xb X + a0)), (1, .int l1), (3, .int l3), (4, .int l4), (5, .int l5)] dX9_told_46 rfl hl (by decide) rfl (fun ls hl => ?_)
     refine v_iload dX9_told_47 (lv_at hl 1 rfl) ?_
     refine v_iload_n dX9_told_49 rfl (lv_at hl 4 rfl) ?_
     refine v_icmp_le 58 dX9_told_50 (by decide) h (fun h => ?_) (fun h => ?_)
     · refine v_iload_n dX9_told_58 rfl (lv_at hl 4 rfl) ?_
       exact L_X9_told_59 N (H_X9_told_21 N n) ih a0 l1 l2_7 l4 l5 l3 s ls (lv_sub hl [2, 3, 0, 5, 6] rfl) h
     · refine v_iload dX9_told_53 (lv_at hl 1 rfl) ?_
       refine v_goto 59 dX9_told_55 (by decide) ?_
       exact L_X9_told_59 N (H_X9_told_21 N n) ih a0 l1 l2_7 l4 l5 v6 s ls (lv_sub hl [2, 3, 0, 5, 6] rfl) h
theorem vl_X9_told : vCl yX9_told cX9_told 10 (some .int) 1 := ⟨qy_X9_told, qjX9, by decide +kernel, by decide +kernel, by decide +kernel⟩
set_option maxHeartbeats 4000000 in
set_option maxRecDepth 100000 in
theorem c_X9_told {l : Launch} {D : va_G} {ka : Nat → ClassId} (X0 : VX) (N : Nat) (a0 : Nat) (l1 : Int32) (s sF : vS) (r : Int32) (h : F_X9_told N a0 l1 s = some (r, sF)) : isO s a0 9 = true ∧ vMet l D ka (xb X0) yX9_told cX9_told 10 (some .int) 1 22 [.ref (xb X0 + a0), .int l1] s sF (some (.int r)) := by
  unfold F_X9_told at h
  unfold rcv at h
  obtain ⟨hO, h⟩ := v_chk h
  refine ⟨hO, vMet.of (ini := false) X0 (plainFor_of_name (by decide +kernel)) (Nat.le_of_ble_eq_true rfl) (fun h => by cases h) (fun X ls hb hl => ?_) rfl⟩
  show V X (cX9_told, RX9, 10, 1, 22, false) (vRet sF (some (.int r)) (some .int)) sF s (G0 X 0 ls [])
  rw [← hb] at hl
  have hl : lv_has ls 10 [(0, .ref (xb X + a0)), (1, .int l1)] := hl
  refine v_iload_n dX9_told_0 rfl (lv_at hl 1 rfl) ?_
  refine v_iconst (0 : Int32) dX9_told_1 (by decide) ?_
  refine v_iconst (3 : Int32) dX9_told_2 (by decide) ?_
  refine k_X9_in h qmX9_129 (by decide) hl.1 (Nat.le_of_ble_eq_true rfl) dX9_told_3 (fun v1 s h => ?_)
  refine v_if_ne 11 dX9_told_6 (by decide) h (fun h => ?_) (fun h => ?_)
  · refine v_iconst (0 : Int32) dX9_told_11 (by decide) ?_
    refine v_istore_n [(2, .int (0 : Int32)), (0, .ref (xb X + a0)), (1, .int l1)] dX9_told_12 rfl hl (by decide) rfl (fun ls hl => ?_)
    refine v_iconst (0 : Int32) dX9_told_13 (by decide) ?_
    refine v_istore_n [(3, .int (0 : Int32)), (2, .int (0 : Int32)), (0, .ref (xb X + a0)), (1, .int l1)] dX9_told_14 rfl hl (by decide) rfl (fun ls hl => ?_)
    refine v_iconst (0 : Int32) dX9_told_15 (by decide) ?_
    refine v_istore [(4, .int (0 : Int32)), (3, .int (0 : Int32)), (2, .int (0 : Int32)), (0, .ref (xb X + a0)), (1, .int l1)] dX9_told_16 hl (by decide) rfl (fun ls hl => ?_)
    refine v_iconst (0 : Int32) dX9_told_18 (by decide) ?_
    refine v_istore [(5, .int (0 : Int32)), (4, .int (0 : Int32)), (3, .int (0 : Int32)), (2, .int (0 : Int32)), (0, .ref (xb X + a0)), (1, .int l1)] dX9_told_19 hl (by decide) rfl (fun ls hl => ?_)
    exact L_X9_told_21 N N a0 l1 (0 : Int32) (0 : Int32) (0 : Int32) (0 : Int32) s ls (lv_sub hl [4, 5, 3, 2, 1, 0] rfl) h
  · refine v_iconst (-1 : Int32) dX9_told_9 (by decide) ?_
    exact v_iret dX9_told_10 h
theorem k_X9_told {X : VX} {cc : ByteArray} {own : String} {nL fr lo : Nat} {ini : Bool} {E : VX → Prop} {sF s : vS} {ρ : Type} {res : ρ} {pc : Nat} {ls : Array Slot} {rest : List Value} {N index : Nat} {a0 : Nat} {l1 : Int32} {f : Int32 → vS → Option ρ} (h : bnd (F_X9_told N a0 l1 s) f = some res) (hlink : Cond.methodLink own index yX9_told ∈ TT) (hR : 1 + 1 ≤ fr ∧ 8 + (10 + 11) + 22 ≤ lo) (hls : ls.size = nL) (hr : (rest.map fun v => v.category).sum ≤ 8) (hdg : decode cc pc = .ok (.invokevirtual index, 3)) (kk : ∀ r s', f r s' = some res → V X (cc, own, nL, fr, lo, ini) E sF s' (G0 X (pc + 3) ls (.int r :: rest))) : V X (cc, own, nL, fr, lo, ini) E sF s (G0 X pc ls (.int l1 :: .ref (xb X + a0) :: rest)) := by
  obtain ⟨r, s', e, h⟩ := bnd_some h
  exact v_callV (b := a0) (ci := 9) (As := [.int l1]) (rest := rest) (c_X9_told X N a0 l1 s s' r e).2 (c_X9_told (l := xl X) (D := xD X) (ka := xka X) X N a0 l1 s s' r e).1 rfl vl_X9_told qi_X9_told qe_X9_told hlink hR rfl rfl hls hr hdg (kk r s' h)
set_option maxHeartbeats 4000000 in
set_option maxRecDepth 100000 in
theorem L_X9_beside_18 {X : VX} {sF : vS} {r : Int32} (N : Nat) (k0 : Int32) (s : vS) (ls : Array Slot) (hl : lv_has ls 2 []) (h : J_X9_beside_18 N k0 s = some (r, sF)) : V X (cX9_beside, RX9, 2, 2, 43, false) (vRet sF (some (.int r)) (some .int)) sF s (G0 X 18 ls [.int k0]) := by
  unfold J_X9_beside_18 at h
  exact v_iret dX9_beside_18 h
theorem vl_X9_beside : vCl yX9_beside cX9_beside 2 (some .int) 1 := ⟨qy_X9_beside, qjX9, by decide +kernel, by decide +kernel, by decide +kernel⟩
set_option maxHeartbeats 4000000 in
set_option maxRecDepth 100000 in
theorem c_X9_beside {l : Launch} {D : va_G} {ka : Nat → ClassId} (X0 : VX) (N : Nat) (a0 : Nat) (l1 : Int32) (s sF : vS) (r : Int32) (h : F_X9_beside N a0 l1 s = some (r, sF)) : isO s a0 9 = true ∧ vMet l D ka (xb X0) yX9_beside cX9_beside 2 (some .int) 2 43 [.ref (xb X0 + a0), .int l1] s sF (some (.int r)) := by
  unfold F_X9_beside at h
  unfold rcv at h
  obtain ⟨hO, h⟩ := v_chk h
  refine ⟨hO, vMet.of (ini := false) X0 (plainFor_of_name (by decide +kernel)) (Nat.le_of_ble_eq_true rfl) (fun h => by cases h) (fun X ls hb hl => ?_) rfl⟩
  show V X (cX9_beside, RX9, 2, 2, 43, false) (vRet sF (some (.int r)) (some .int)) sF s (G0 X 0 ls [])
  rw [← hb] at hl
  have hl : lv_has ls 2 [(0, .ref (xb X + a0)), (1, .int l1)] := hl
  refine v_aload_n dX9_beside_0 rfl (lv_at hl 0 rfl) ?_
  refine v_iload_n dX9_beside_1 rfl (lv_at hl 1 rfl) ?_
  refine k_X9_isPoint h qmX9_238 (by decide) hl.1 (Nat.le_of_ble_eq_true rfl) dX9_beside_2 (fun v1 s h => ?_)
  refine v_if_eq 17 dX9_beside_5 (by decide) h (fun h => ?_) (fun h => ?_)
  · refine v_iconst (-1 : Int32) dX9_beside_17 (by decide) ?_
    exact L_X9_beside_18 N (-1 : Int32) s ls (lv_sub hl [] rfl) h
  · refine v_aload_n dX9_beside_8 rfl (lv_at hl 0 rfl) ?_
    refine v_getR 9 6 h (by decide) rfl qfX9_46 dX9_beside_9 (fun r2 h => ?_)
    refine v_iload_n dX9_beside_12 rfl (lv_at hl 1 rfl) ?_
    refine v_iald dX9_beside_13 h (fun v3 h => ?_)
    refine v_goto 18 dX9_beside_14 (by decide) ?_
    exact L_X9_beside_18 N v3 s ls (lv_sub hl [] rfl) h
theorem k_X9_beside {X : VX} {cc : ByteArray} {own : String} {nL fr lo : Nat} {ini : Bool} {E : VX → Prop} {sF s : vS} {ρ : Type} {res : ρ} {pc : Nat} {ls : Array Slot} {rest : List Value} {N index : Nat} {a0 : Nat} {l1 : Int32} {f : Int32 → vS → Option ρ} (h : bnd (F_X9_beside N a0 l1 s) f = some res) (hlink : Cond.methodLink own index yX9_beside ∈ TT) (hR : 2 + 1 ≤ fr ∧ 8 + (2 + 11) + 43 ≤ lo) (hls : ls.size = nL) (hr : (rest.map fun v => v.category).sum ≤ 8) (hdg : decode cc pc = .ok (.invokevirtual index, 3)) (kk : ∀ r s', f r s' = some res → V X (cc, own, nL, fr, lo, ini) E sF s' (G0 X (pc + 3) ls (.int r :: rest))) : V X (cc, own, nL, fr, lo, ini) E sF s (G0 X pc ls (.int l1 :: .ref (xb X + a0) :: rest)) := by
  obtain ⟨r, s', e, h⟩ := bnd_some h
  exact v_callV (b := a0) (ci := 9) (As := [.int l1]) (rest := rest) (c_X9_beside X N a0 l1 s s' r e).2 (c_X9_beside (l := xl X) (D := xD X) (ka := xka X) X N a0 l1 s s' r e).1 rfl vl_X9_beside qi_X9_beside qe_X9_beside hlink hR rfl rfl hls hr hdg (kk r s' h)
set_option maxHeartbeats 4000000 in
set_option maxRecDepth 100000 in
theorem L_X9_share_29 {X : VX} {sF : vS} {r : Int64} (N : Nat) (s : vS) (ls : Array Slot) (hl : lv_has ls 3 []) (h : J_X9_share_29 N  s = some (r, sF)) : V X (cX9_share, RX9, 3, 4, 98, false) (vRet sF (some (.long r)) (some .long)) sF s (G0 X 29 ls []) := by
  unfold J_X9_share_29 at h
  refine v_ldc2 qkX9_166 dX9_share_29 ?_
  exact v_lret dX9_share_32 h
theorem vl_X9_share : vCl yX9_share cX9_share 3 (some .long) 2 := ⟨qy_X9_share, qjX9, by decide +kernel, by decide +kernel, by decide +kernel⟩
set_option maxHeartbeats 4000000 in
set_option maxRecDepth 100000 in
theorem c_X9_share {l : Launch} {D : va_G} {ka : Nat → ClassId} (X0 : VX) (N : Nat) (a0 : Nat) (l1 : Int32) (l2 : Int32) (s sF : vS) (r : Int64) (h : F_X9_share N a0 l1 l2 s = some (r, sF)) : isO s a0 9 = true ∧ vMet l D ka (xb X0) yX9_share cX9_share 3 (some .long) 4 98 [.ref (xb X0 + a0), .int l1, .int l2] s sF (some (.long r)) := by
  unfold F_X9_share at h
  unfold rcv at h
  obtain ⟨hO, h⟩ := v_chk h
  refine ⟨hO, vMet.of (ini := false) X0 (plainFor_of_name (by decide +kernel)) (Nat.le_of_ble_eq_true rfl) (fun h => by cases h) (fun X ls hb hl => ?_) rfl⟩
  show V X (cX9_share, RX9, 3, 4, 98, false) (vRet sF (some (.long r)) (some .long)) sF s (G0 X 0 ls [])
  rw [← hb] at hl
  have hl : lv_has ls 3 [(0, .ref (xb X + a0)), (1, .int l1), (2, .int l2)] := hl
  refine v_iload_n dX9_share_0 rfl (lv_at hl 1 rfl) ?_
  refine k_X9_isFlag h qmX9_227 (by decide) hl.1 (Nat.le_of_ble_eq_true rfl) dX9_share_1 (fun v1 s h => ?_)
  refine v_if_eq 29 dX9_share_4 (by decide) h (fun h => ?_) (fun h => ?_)
  · exact L_X9_share_29 N  s ls (lv_sub hl [] rfl) h
  · refine v_iload_n dX9_share_7 rfl (lv_at hl 2 rfl) ?_
    refine v_iconst (0 : Int32) dX9_share_8 (by decide) ?_
    refine v_iconst (1 : Int32) dX9_share_9 (by decide) ?_
    refine k_X9_in h qmX9_129 (by decide) hl.1 (Nat.le_of_ble_eq_true rfl) dX9_share_10 (fun v2 s h => ?_)
    refine v_if_eq 29 dX9_share_13 (by decide) h (fun h => ?_) (fun h => ?_)
    · exact L_X9_share_29 N  s ls (lv_sub hl [] rfl) h
    · refine v_aload_n dX9_share_16 rfl (lv_at hl 0 rfl) ?_
      refine v_getR 9 0 h (by decide) rfl qfX9_28 dX9_share_17 (fun r3 h => ?_)
      refine v_iload_n dX9_share_20 rfl (lv_at hl 1 rfl) ?_
      refine v_iald dX9_share_21 h (fun v4 h => ?_)
      refine v_aload_n dX9_share_22 rfl (lv_at hl 0 rfl) ?_
      refine v_getI 9 5 h (by decide) (Or.inl rfl) qfX9_137 dX9_share_23 (fun v5 h => ?_)
      refine v_icmp_le 33 dX9_share_26 (by decide) h (fun h => ?_) (fun h => ?_)
      · refine v_aload_n dX9_share_33 rfl (lv_at hl 0 rfl) ?_
        refine k_X9_lookInHand h qmX9_241 (by decide) hl.1 (Nat.le_of_ble_eq_true rfl) dX9_share_34 (fun v6 s h => ?_)
        refine v_aload_n dX9_share_37 rfl (lv_at hl 0 rfl) ?_
        refine v_iload_n dX9_share_38 rfl (lv_at hl 1 rfl) ?_
        refine v_aload_n dX9_share_39 rfl (lv_at hl 0 rfl) ?_
        refine v_getR 9 0 h (by decide) rfl qfX9_28 dX9_share_40 (fun r7 h => ?_)
        refine v_iload_n dX9_share_43 rfl (lv_at hl 1 rfl) ?_
        refine v_iald dX9_share_44 h (fun v8 h => ?_)
        refine v_iconst (-1 : Int32) dX9_share_45 (by decide) ?_
        refine k_X9_insideOf h qmX9_217 (by decide) hl.1 (Nat.le_of_ble_eq_true rfl) dX9_share_46 (fun v9 s h => ?_)
        refine v_aload_n dX9_share_49 rfl (lv_at hl 0 rfl) ?_
        refine v_iload_n dX9_share_50 rfl (lv_at hl 2 rfl) ?_
        refine k_X9_part h qmX9_234 (by decide) hl.1 (Nat.le_of_ble_eq_true rfl) dX9_share_51 (fun v10 s h => ?_)
        exact v_lret dX9_share_54 h
      · exact L_X9_share_29 N  s ls (lv_sub hl [] rfl) h
theorem k_X9_share {X : VX} {cc : ByteArray} {own : String} {nL fr lo : Nat} {ini : Bool} {E : VX → Prop} {sF s : vS} {ρ : Type} {res : ρ} {pc : Nat} {ls : Array Slot} {rest : List Value} {N index : Nat} {a0 : Nat} {l1 : Int32} {l2 : Int32} {f : Int64 → vS → Option ρ} (h : bnd (F_X9_share N a0 l1 l2 s) f = some res) (hlink : Cond.methodLink own index yX9_share ∈ TT) (hR : 4 + 1 ≤ fr ∧ 8 + (3 + 11) + 98 ≤ lo) (hls : ls.size = nL) (hr : (rest.map fun v => v.category).sum ≤ 8) (hdg : decode cc pc = .ok (.invokevirtual index, 3)) (kk : ∀ r s', f r s' = some res → V X (cc, own, nL, fr, lo, ini) E sF s' (G0 X (pc + 3) ls (.long r :: rest))) : V X (cc, own, nL, fr, lo, ini) E sF s (G0 X pc ls (.int l2 :: .int l1 :: .ref (xb X + a0) :: rest)) := by
  obtain ⟨r, s', e, h⟩ := bnd_some h
  exact v_callV (b := a0) (ci := 9) (As := [.int l1, .int l2]) (rest := rest) (c_X9_share X N a0 l1 l2 s s' r e).2 (c_X9_share (l := xl X) (D := xD X) (ka := xka X) X N a0 l1 l2 s s' r e).1 rfl vl_X9_share qi_X9_share qe_X9_share hlink hR rfl rfl hls hr hdg (kk r s' h)
set_option maxHeartbeats 4000000 in
set_option maxRecDepth 100000 in
theorem L_X9_shareAt_40 {X : VX} {sF : vS} {r : Int64} (N : Nat) (s : vS) (ls : Array Slot) (hl : lv_has ls 4 []) (h : J_X9_shareAt_40 N  s = some (r, sF)) : V X (cX9_shareAt, RX9, 4, 4, 98, false) (vRet sF (some (.long r)) (some .long)) sF s (G0 X 40 ls []) := by
  unfold J_X9_shareAt_40 at h
  refine v_ldc2 qkX9_166 dX9_shareAt_40 ?_
  exact v_lret dX9_shareAt_43 h
theorem vl_X9_shareAt : vCl yX9_shareAt cX9_shareAt 4 (some .long) 3 := ⟨qy_X9_shareAt, qjX9, by decide +kernel, by decide +kernel, by decide +kernel⟩
set_option maxHeartbeats 4000000 in
set_option maxRecDepth 100000 in
theorem c_X9_shareAt {l : Launch} {D : va_G} {ka : Nat → ClassId} (X0 : VX) (N : Nat) (a0 : Nat) (l1 : Int32) (l2 : Int32) (l3 : Int32) (s sF : vS) (r : Int64) (h : F_X9_shareAt N a0 l1 l2 l3 s = some (r, sF)) : isO s a0 9 = true ∧ vMet l D ka (xb X0) yX9_shareAt cX9_shareAt 4 (some .long) 4 98 [.ref (xb X0 + a0), .int l1, .int l2, .int l3] s sF (some (.long r)) := by
  unfold F_X9_shareAt at h
  unfold rcv at h
  obtain ⟨hO, h⟩ := v_chk h
  refine ⟨hO, vMet.of (ini := false) X0 (plainFor_of_name (by decide +kernel)) (Nat.le_of_ble_eq_true rfl) (fun h => by cases h) (fun X ls hb hl => ?_) rfl⟩
  show V X (cX9_shareAt, RX9, 4, 4, 98, false) (vRet sF (some (.long r)) (some .long)) sF s (G0 X 0 ls [])
  rw [← hb] at hl
  have hl : lv_has ls 4 [(0, .ref (xb X + a0)), (1, .int l1), (2, .int l2), (3, .int l3)] := hl
  refine v_aload_n dX9_shareAt_0 rfl (lv_at hl 0 rfl) ?_
  refine v_iload_n dX9_shareAt_1 rfl (lv_at hl 1 rfl) ?_
  refine k_X9_isPoint h qmX9_238 (by decide) hl.1 (Nat.le_of_ble_eq_true rfl) dX9_shareAt_2 (fun v1 s h => ?_)
  refine v_if_eq 40 dX9_shareAt_5 (by decide) h (fun h => ?_) (fun h => ?_)
  · exact L_X9_shareAt_40 N  s ls (lv_sub hl [] rfl) h
  · refine v_iload_n dX9_shareAt_8 rfl (lv_at hl 2 rfl) ?_
    refine k_X9_isRooted h qmX9_231 (by decide) hl.1 (Nat.le_of_ble_eq_true rfl) dX9_shareAt_9 (fun v2 s h => ?_)
    refine v_if_eq 40 dX9_shareAt_12 (by decide) h (fun h => ?_) (fun h => ?_)
    · exact L_X9_shareAt_40 N  s ls (lv_sub hl [] rfl) h
    · refine v_iload_n dX9_shareAt_15 rfl (lv_at hl 3 rfl) ?_
      refine v_iconst (0 : Int32) dX9_shareAt_16 (by decide) ?_
      refine v_iconst (1 : Int32) dX9_shareAt_17 (by decide) ?_
      refine k_X9_in h qmX9_129 (by decide) hl.1 (Nat.le_of_ble_eq_true rfl) dX9_shareAt_18 (fun v3 s h => ?_)
      refine v_if_eq 40 dX9_shareAt_21 (by decide) h (fun h => ?_) (fun h => ?_)
      · exact L_X9_shareAt_40 N  s ls (lv_sub hl [] rfl) h
      · refine v_aload_n dX9_shareAt_24 rfl (lv_at hl 0 rfl) ?_
        refine v_getR 9 0 h (by decide) rfl qfX9_28 dX9_shareAt_25 (fun r4 h => ?_)
        refine v_bipush (19 : Int32) dX9_shareAt_28 (by decide) ?_
        refine v_iload_n dX9_shareAt_30 rfl (lv_at hl 2 rfl) ?_
        refine v_iadd dX9_shareAt_31 ?_
        refine v_iald dX9_shareAt_32 h (fun v5 h => ?_)
        refine v_aload_n dX9_shareAt_33 rfl (lv_at hl 0 rfl) ?_
        refine v_getI 9 5 h (by decide) (Or.inl rfl) qfX9_137 dX9_shareAt_34 (fun v6 h => ?_)
        refine v_icmp_le 44 dX9_shareAt_37 (by decide) h (fun h => ?_) (fun h => ?_)
        · refine v_aload_n dX9_shareAt_44 rfl (lv_at hl 0 rfl) ?_
          refine k_X9_lookInHand h qmX9_241 (by decide) hl.1 (Nat.le_of_ble_eq_true rfl) dX9_shareAt_45 (fun v7 s h => ?_)
          refine v_aload_n dX9_shareAt_48 rfl (lv_at hl 0 rfl) ?_
          refine v_iload_n dX9_shareAt_49 rfl (lv_at hl 2 rfl) ?_
          refine v_aload_n dX9_shareAt_50 rfl (lv_at hl 0 rfl) ?_
          refine v_getR 9 0 h (by decide) rfl qfX9_28 dX9_shareAt_51 (fun r8 h => ?_)
          refine v_bipush (19 : Int32) dX9_shareAt_54 (by decide) ?_
          refine v_iload_n dX9_shareAt_56 rfl (lv_at hl 2 rfl) ?_
          refine v_iadd dX9_shareAt_57 ?_
          refine v_iald dX9_shareAt_58 h (fun v9 h => ?_)
          refine v_iload_n dX9_shareAt_59 rfl (lv_at hl 1 rfl) ?_
          refine k_X9_insideOf h qmX9_217 (by decide) hl.1 (Nat.le_of_ble_eq_true rfl) dX9_shareAt_60 (fun v10 s h => ?_)
          refine v_aload_n dX9_shareAt_63 rfl (lv_at hl 0 rfl) ?_
          refine v_iload_n dX9_shareAt_64 rfl (lv_at hl 3 rfl) ?_
          refine k_X9_part h qmX9_234 (by decide) hl.1 (Nat.le_of_ble_eq_true rfl) dX9_shareAt_65 (fun v11 s h => ?_)
          exact v_lret dX9_shareAt_68 h
        · exact L_X9_shareAt_40 N  s ls (lv_sub hl [] rfl) h
theorem k_X9_shareAt {X : VX} {cc : ByteArray} {own : String} {nL fr lo : Nat} {ini : Bool} {E : VX → Prop} {sF s : vS} {ρ : Type} {res : ρ} {pc : Nat} {ls : Array Slot} {rest : List Value} {N index : Nat} {a0 : Nat} {l1 : Int32} {l2 : Int32} {l3 : Int32} {f : Int64 → vS → Option ρ} (h : bnd (F_X9_shareAt N a0 l1 l2 l3 s) f = some res) (hlink : Cond.methodLink own index yX9_shareAt ∈ TT) (hR : 4 + 1 ≤ fr ∧ 8 + (4 + 11) + 98 ≤ lo) (hls : ls.size = nL) (hr : (rest.map fun v => v.category).sum ≤ 8) (hdg : decode cc pc = .ok (.invokevirtual index, 3)) (kk : ∀ r s', f r s' = some res → V X (cc, own, nL, fr, lo, ini) E sF s' (G0 X (pc + 3) ls (.long r :: rest))) : V X (cc, own, nL, fr, lo, ini) E sF s (G0 X pc ls (.int l3 :: .int l2 :: .int l1 :: .ref (xb X + a0) :: rest)) := by
  obtain ⟨r, s', e, h⟩ := bnd_some h
  exact v_callV (b := a0) (ci := 9) (As := [.int l1, .int l2, .int l3]) (rest := rest) (c_X9_shareAt X N a0 l1 l2 l3 s s' r e).2 (c_X9_shareAt (l := xl X) (D := xD X) (ka := xka X) X N a0 l1 l2 l3 s s' r e).1 rfl vl_X9_shareAt qi_X9_shareAt qe_X9_shareAt hlink hR rfl rfl hls hr hdg (kk r s' h)
set_option maxHeartbeats 4000000 in
set_option maxRecDepth 100000 in
theorem L_X9_isMap_125 {X : VX} {sF : vS} {r : Int32} (N : Nat) (k57 : Nat → Int32 → Int32 → vS → Option (Int32 × vS)) (k71 : Nat → Int32 → Int32 → Int32 → vS → Option (Int32 × vS)) (hk57 : ∀ (a0 : Nat) (l1 : Int32) (l4 : Int32) (s : vS) (ls : Array Slot), lv_has ls 6 [(0, .ref (xb X + a0)), (1, .int l1), (4, .int l4)] → k57 a0 l1 l4 s = some (r, sF) → V X (cX9_isMap, RX9, 6, 1, 21, false) (vRet sF (some (.int r)) (some .boolean)) sF s (G0 X 57 ls [])) (hk71 : ∀ (a0 : Nat) (l1 : Int32) (l4 : Int32) (l5 : Int32) (s : vS) (ls : Array Slot), lv_has ls 6 [(0, .ref (xb X + a0)), (1, .int l1), (4, .int l4), (5, .int l5)] → k71 a0 l1 l4 l5 s = some (r, sF) → V X (cX9_isMap, RX9, 6, 1, 21, false) (vRet sF (some (.int r)) (some .boolean)) sF s (G0 X 71 ls [])) (a0 : Nat) (l1 : Int32) (l4 : Int32) (l5 : Int32) (s : vS) (ls : Array Slot) (hl : lv_has ls 6 [(0, .ref (xb X + a0)), (1, .int l1), (4, .int l4), (5, .int l5)]) (h : J_X9_isMap_125 N k57 k71 a0 l1 l4 l5 s = some (r, sF)) : V X (cX9_isMap, RX9, 6, 1, 21, false) (vRet sF (some (.int r)) (some .boolean)) sF s (G0 X 125 ls []) := by
  unfold J_X9_isMap_125 at h
  refine v_inc (fun z => [(5, .int z), (0, .ref (xb X + a0)), (1, .int l1), (4, .int l4)]) dX9_isMap_125 h hl (k := 3) rfl (by rfl) (by decide) (fun _ => rfl) (fun l5_21 ls hl h => ?_)
  refine v_goto 71 dX9_isMap_128 (by decide) ?_
  exact hk71 a0 l1 l4 l5_21 s ls (lv_sub hl [1, 2, 3, 0] rfl) h
set_option maxHeartbeats 4000000 in
set_option maxRecDepth 100000 in
theorem L_X9_isMap_71 {X : VX} {sF : vS} {r : Int32} (N : Nat) (k57 : Nat → Int32 → Int32 → vS → Option (Int32 × vS)) (hk57 : ∀ (a0 : Nat) (l1 : Int32) (l4 : Int32) (s : vS) (ls : Array Slot), lv_has ls 6 [(0, .ref (xb X + a0)), (1, .int l1), (4, .int l4)] → k57 a0 l1 l4 s = some (r, sF) → V X (cX9_isMap, RX9, 6, 1, 21, false) (vRet sF (some (.int r)) (some .boolean)) sF s (G0 X 57 ls [])) : ∀ (n : Nat) (a0 : Nat) (l1 : Int32) (l4 : Int32) (l5 : Int32) (s : vS) (ls : Array Slot), lv_has ls 6 [(0, .ref (xb X + a0)), (1, .int l1), (4, .int l4), (5, .int l5)] → H_X9_isMap_71 N k57 n a0 l1 l4 l5 s = some (r, sF) → V X (cX9_isMap, RX9, 6, 1, 21, false) (vRet sF (some (.int r)) (some .boolean)) sF s (G0 X 71 ls []) := by
  intro n
  induction n with
  | zero => intro a0 l1 l4 l5 s ls hl h; cases h
  | succ n ih =>
   intro a0 l1 l4 l5 s ls hl h
   unfold H_X9_isMap_71 at h
   refine v_iload dX9_isMap_71 (lv_at hl 3 rfl) ?_
   refine v_iload dX9_isMap_73 (lv_at hl 2 rfl) ?_
   refine v_icmp_ge 131 dX9_isMap_75 (by decide) h (fun h => ?_) (fun h => ?_)
   · refine v_inc (fun z => [(4, .int z), (0, .ref (xb X + a0)), (1, .int l1), (5, .int l5)]) dX9_isMap_131 h hl (k := 2) rfl (by rfl) (by decide) (fun _ => rfl) (fun l4_11 ls hl h => ?_)
     refine v_goto 57 dX9_isMap_134 (by decide) ?_
     exact hk57 a0 l1 l4_11 s ls (lv_sub hl [1, 2, 0] rfl) h
   · refine v_aload_n dX9_isMap_78 rfl (lv_at hl 0 rfl) ?_
     refine v_getR 9 1 h (by decide) rfl qfX9_31 dX9_isMap_79 (fun r12 h => ?_)
     refine v_iload_n dX9_isMap_82 rfl (lv_at hl 1 rfl) ?_
     refine v_iald dX9_isMap_83 h (fun v13 h => ?_)
     refine v_iload dX9_isMap_84 (lv_at hl 3 rfl) ?_
     refine v_iload dX9_isMap_86 (lv_at hl 2 rfl) ?_
     refine k_X9_bit h qmX9_9 (by decide) hl.1 (Nat.le_of_ble_eq_true rfl) dX9_isMap_88 (fun v14 s h => ?_)
     refine v_ishr dX9_isMap_91 ?_
     refine v_iconst (1 : Int32) dX9_isMap_92 (by decide) ?_
     refine v_iand dX9_isMap_93 ?_
     refine v_iconst (1 : Int32) dX9_isMap_94 (by decide) ?_
     refine v_icmp_ne 125 dX9_isMap_95 (by decide) h (fun h => ?_) (fun h => ?_)
     · exact L_X9_isMap_125 N k57 (H_X9_isMap_71 N k57 n) hk57 ih a0 l1 l4 l5 s ls (lv_sub hl [0, 1, 2, 3] rfl) h
     · refine v_aload_n dX9_isMap_98 rfl (lv_at hl 0 rfl) ?_
       refine v_getR 9 6 h (by decide) rfl qfX9_46 dX9_isMap_99 (fun r15 h => ?_)
       refine v_aload_n dX9_isMap_102 rfl (lv_at hl 0 rfl) ?_
       refine v_getR 9 22 h (by decide) rfl qfX9_84 dX9_isMap_103 (fun r16 h => ?_)
       refine v_iload dX9_isMap_106 (lv_at hl 3 rfl) ?_
       refine v_iald dX9_isMap_108 h (fun v17 h => ?_)
       refine v_iald dX9_isMap_109 h (fun v18 h => ?_)
       refine v_aload_n dX9_isMap_110 rfl (lv_at hl 0 rfl) ?_
       refine v_getR 9 22 h (by decide) rfl qfX9_84 dX9_isMap_111 (fun r19 h => ?_)
       refine v_iload dX9_isMap_114 (lv_at hl 2 rfl) ?_
       refine v_iald dX9_isMap_116 h (fun v20 h => ?_)
       refine v_ishr dX9_isMap_117 ?_
       refine v_iconst (1 : Int32) dX9_isMap_118 (by decide) ?_
       refine v_iand dX9_isMap_119 ?_
       refine v_if_ne 125 dX9_isMap_120 (by decide) h (fun h => ?_) (fun h => ?_)
       · exact L_X9_isMap_125 N k57 (H_X9_isMap_71 N k57 n) hk57 ih a0 l1 l4 l5 s ls (lv_sub hl [0, 1, 2, 3] rfl) h
       · refine v_iconst (0 : Int32) dX9_isMap_123 (by decide) ?_
         exact v_zret dX9_isMap_124 h
set_option maxHeartbeats 4000000 in
set_option maxRecDepth 100000 in
theorem L_X9_isMap_57 {X : VX} {sF : vS} {r : Int32} (N : Nat) : ∀ (n : Nat) (a0 : Nat) (l1 : Int32) (l4 : Int32) (s : vS) (ls : Array Slot), lv_has ls 6 [(0, .ref (xb X + a0)), (1, .int l1), (4, .int l4)] → H_X9_isMap_57 N n a0 l1 l4 s = some (r, sF) → V X (cX9_isMap, RX9, 6, 1, 21, false) (vRet sF (some (.int r)) (some .boolean)) sF s (G0 X 57 ls []) := by
  intro n
  induction n with
  | zero => intro a0 l1 l4 s ls hl h; cases h
  | succ n ih =>
   intro a0 l1 l4 s ls hl h
   unfold H_X9_isMap_57 at h
   refine v_iload dX9_isMap_57 (lv_at hl 2 rfl) ?_
   refine v_aload_n dX9_isMap_59 rfl (lv_at hl 0 rfl) ?_
   refine v_getR 9 0 h (by decide) rfl qfX9_28 dX9_isMap_60 (fun r9 h => ?_)
   refine v_iload_n dX9_isMap_63 rfl (lv_at hl 1 rfl) ?_
   refine v_iald dX9_isMap_64 h (fun v10 h => ?_)
   refine v_icmp_ge 137 dX9_isMap_65 (by decide) h (fun h => ?_) (fun h => ?_)
   · refine v_iconst (1 : Int32) dX9_isMap_137 (by decide) ?_
     exact v_zret dX9_isMap_138 h
   · refine v_iconst (0 : Int32) dX9_isMap_68 (by decide) ?_
     refine v_istore [(5, .int (0 : Int32)), (0, .ref (xb X + a0)), (1, .int l1), (4, .int l4)] dX9_isMap_69 hl (by decide) rfl (fun ls hl => ?_)
     exact L_X9_isMap_71 N (H_X9_isMap_57 N n) ih N a0 l1 l4 (0 : Int32) s ls (lv_sub hl [1, 2, 3, 0] rfl) h
set_option maxHeartbeats 4000000 in
set_option maxRecDepth 100000 in
theorem L_X9_isMap_5 {X : VX} {sF : vS} {r : Int32} (N : Nat) : ∀ (n : Nat) (a0 : Nat) (l1 : Int32) (l3 : Int32) (l4 : Int32) (s : vS) (ls : Array Slot), lv_has ls 6 [(0, .ref (xb X + a0)), (1, .int l1), (3, .int l3), (4, .int l4)] → H_X9_isMap_5 N n a0 l1 l3 l4 s = some (r, sF) → V X (cX9_isMap, RX9, 6, 1, 21, false) (vRet sF (some (.int r)) (some .boolean)) sF s (G0 X 5 ls []) := by
  intro n
  induction n with
  | zero => intro a0 l1 l3 l4 s ls hl h; cases h
  | succ n ih =>
   intro a0 l1 l3 l4 s ls hl h
   unfold H_X9_isMap_5 at h
   refine v_iload dX9_isMap_5 (lv_at hl 3 rfl) ?_
   refine v_aload_n dX9_isMap_7 rfl (lv_at hl 0 rfl) ?_
   refine v_getR 9 0 h (by decide) rfl qfX9_28 dX9_isMap_8 (fun r1 h => ?_)
   refine v_iload_n dX9_isMap_11 rfl (lv_at hl 1 rfl) ?_
   refine v_iald dX9_isMap_12 h (fun v2 h => ?_)
   refine v_icmp_ge 54 dX9_isMap_13 (by decide) h (fun h => ?_) (fun h => ?_)
   · refine v_iconst (1 : Int32) dX9_isMap_54 (by decide) ?_
     refine v_istore [(4, .int (1 : Int32)), (0, .ref (xb X + a0)), (1, .int l1), (3, .int l3)] dX9_isMap_55 hl (by decide) rfl (fun ls hl => ?_)
     exact L_X9_isMap_57 N N a0 l1 (1 : Int32) s ls (lv_sub hl [1, 2, 0] rfl) h
   · refine v_aload_n dX9_isMap_16 rfl (lv_at hl 0 rfl) ?_
     refine v_getR 9 22 h (by decide) rfl qfX9_84 dX9_isMap_17 (fun r3 h => ?_)
     refine v_iload dX9_isMap_20 (lv_at hl 3 rfl) ?_
     refine v_iload_n dX9_isMap_22 rfl (lv_at hl 2 rfl) ?_
     refine v_bipush (8 : Int32) dX9_isMap_23 (by decide) ?_
     refine v_irem dX9_isMap_25 h (fun h => ?_)
     refine v_iast dX9_isMap_26 h (fun s h => ?_)
     refine v_iload_n dX9_isMap_27 rfl (lv_at hl 2 rfl) ?_
     refine v_bipush (8 : Int32) dX9_isMap_28 (by decide) ?_
     refine v_idiv dX9_isMap_30 h (fun h => ?_)
     refine v_nmI h (fun l3_4 h => ?_)
     refine v_istore_n [(3, .int l3_4), (0, .ref (xb X + a0)), (1, .int l1), (4, .int l4)] dX9_isMap_31 rfl hl (by decide) rfl (fun ls hl => ?_)
     refine v_aload_n dX9_isMap_32 rfl (lv_at hl 1 rfl) ?_
     refine v_getR 9 22 h (by decide) rfl qfX9_84 dX9_isMap_33 (fun r5 h => ?_)
     refine v_iload dX9_isMap_36 (lv_at hl 3 rfl) ?_
     refine v_iald dX9_isMap_38 h (fun v6 h => ?_)
     refine v_aload_n dX9_isMap_39 rfl (lv_at hl 1 rfl) ?_
     refine v_getI 9 5 h (by decide) (Or.inl rfl) qfX9_137 dX9_isMap_40 (fun v7 h => ?_)
     refine v_icmp_lt 48 dX9_isMap_43 (by decide) h (fun h => ?_) (fun h => ?_)
     · refine v_inc (fun z => [(4, .int z), (3, .int l3_4), (0, .ref (xb X + a0)), (1, .int l1)]) dX9_isMap_48 h hl (k := 3) rfl (by rfl) (by decide) (fun _ => rfl) (fun l4_8 ls hl h => ?_)
       refine v_goto 5 dX9_isMap_51 (by decide) ?_
       exact ih a0 l1 l3_4 l4_8 s ls (lv_sub hl [2, 3, 1, 0] rfl) h
     · refine v_iconst (0 : Int32) dX9_isMap_46 (by decide) ?_
       exact v_zret dX9_isMap_47 h
