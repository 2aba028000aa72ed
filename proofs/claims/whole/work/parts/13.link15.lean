set_option maxHeartbeats 4000000 in
set_option maxRecDepth 100000 in
theorem L_X9_film_16 {X : VX} {sF : vS} {r : Int32} (N : Nat) (s : vS) (ls : Array Slot) (hl : lv_has ls 5 []) (h : J_X9_film_16 N  s = some (r, sF)) : V X (cX9_film, RX9, 5, 4, 98, false) (vRet sF (some (.int r)) (some .int)) sF s (G0 X 16 ls []) := by
  unfold J_X9_film_16 at h
  refine v_iconst (-1 : Int32) dX9_film_16 (by decide) ?_
  exact v_iret dX9_film_17 h
theorem vl_X9_film : vCl yX9_film cX9_film 5 (some .int) 2 := ⟨qy_X9_film, qjX9, by decide +kernel, by decide +kernel, by decide +kernel⟩
set_option maxHeartbeats 4000000 in
set_option maxRecDepth 100000 in
theorem c_X9_film {l : Launch} {D : va_G} {ka : Nat → ClassId} (X0 : VX) (N : Nat) (a0 : Nat) (l1 : Int32) (l2 : Int32) (s sF : vS) (r : Int32) (h : F_X9_film N a0 l1 l2 s = some (r, sF)) : isO s a0 9 = true ∧ vMet l D ka (xb X0) yX9_film cX9_film 5 (some .int) 4 98 [.ref (xb X0 + a0), .int l1, .int l2] s sF (some (.int r)) := by
  unfold F_X9_film at h
  unfold rcv at h
  obtain ⟨hO, h⟩ := v_chk h
  refine ⟨hO, vMet.of (ini := false) X0 (plainFor_of_name (by decide +kernel)) (Nat.le_of_ble_eq_true rfl) (fun h => by cases h) (fun X ls hb hl => ?_) rfl⟩
  show V X (cX9_film, RX9, 5, 4, 98, false) (vRet sF (some (.int r)) (some .int)) sF s (G0 X 0 ls [])
  rw [← hb] at hl
  have hl : lv_has ls 5 [(0, .ref (xb X + a0)), (1, .int l1), (2, .int l2)] := hl
  refine v_iload_n dX9_film_0 rfl (lv_at hl 1 rfl) ?_
  refine k_X9_isStore h qmX9_335 (by decide) hl.1 (Nat.le_of_ble_eq_true rfl) dX9_film_1 (fun v1 s h => ?_)
  refine v_if_eq 16 dX9_film_4 (by decide) h (fun h => ?_) (fun h => ?_)
  · exact L_X9_film_16 N  s ls (lv_sub hl [] rfl) h
  · refine v_iload_n dX9_film_7 rfl (lv_at hl 2 rfl) ?_
    refine v_iconst (0 : Int32) dX9_film_8 (by decide) ?_
    refine v_iconst (4 : Int32) dX9_film_9 (by decide) ?_
    refine k_X9_in h qmX9_129 (by decide) hl.1 (Nat.le_of_ble_eq_true rfl) dX9_film_10 (fun v2 s h => ?_)
    refine v_if_ne 18 dX9_film_13 (by decide) h (fun h => ?_) (fun h => ?_)
    · refine v_aload_n dX9_film_18 rfl (lv_at hl 0 rfl) ?_
      refine v_getI 9 5 h (by decide) (Or.inl rfl) qfX9_137 dX9_film_19 (fun v3 h => ?_)
      refine v_iload_n dX9_film_22 rfl (lv_at hl 2 rfl) ?_
      refine v_icmp_ge 29 dX9_film_23 (by decide) h (fun h => ?_) (fun h => ?_)
      · refine v_aload_n dX9_film_29 rfl (lv_at hl 0 rfl) ?_
        refine v_iload_n dX9_film_30 rfl (lv_at hl 1 rfl) ?_
        refine k_X9_empty h qmX9_210 (by decide) hl.1 (Nat.le_of_ble_eq_true rfl) dX9_film_31 (fun v4 s h => ?_)
        refine v_aload_n dX9_film_34 rfl (lv_at hl 0 rfl) ?_
        refine v_getR 9 10 h (by decide) rfl qfX9_56 dX9_film_35 (fun r5 h => ?_)
        refine v_iload_n dX9_film_38 rfl (lv_at hl 1 rfl) ?_
        refine v_iconst (0 : Int32) dX9_film_39 (by decide) ?_
        refine v_iast dX9_film_40 h (fun s h => ?_)
        refine v_aload_n dX9_film_41 rfl (lv_at hl 0 rfl) ?_
        refine v_getR 9 9 h (by decide) rfl qfX9_52 dX9_film_42 (fun r6 h => ?_)
        refine v_iload_n dX9_film_45 rfl (lv_at hl 1 rfl) ?_
        refine v_iconst (1 : Int32) dX9_film_46 (by decide) ?_
        refine v_zast dX9_film_47 h (fun s h => ?_)
        refine v_aload_n dX9_film_48 rfl (lv_at hl 0 rfl) ?_
        refine v_iload_n dX9_film_49 rfl (lv_at hl 2 rfl) ?_
        refine k_X9_foundAll h qmX9_250 (by decide) hl.1 (Nat.le_of_ble_eq_true rfl) dX9_film_50 (fun v7 s h => ?_)
        refine v_istore_n [(3, .int v7), (0, .ref (xb X + a0)), (1, .int l1), (2, .int l2)] dX9_film_53 rfl hl (by decide) rfl (fun ls hl => ?_)
        refine v_iconst (0 : Int32) dX9_film_54 (by decide) ?_
        refine v_istore [(4, .int (0 : Int32)), (3, .int v7), (0, .ref (xb X + a0)), (1, .int l1), (2, .int l2)] dX9_film_55 hl (by decide) rfl (fun ls hl => ?_)
        exact L_X9_film_57 N N a0 l1 l2 v7 (0 : Int32) s ls (lv_sub hl [2, 3, 4, 1, 0] rfl) h
      · refine v_bipush (-3 : Int32) dX9_film_26 (by decide) ?_
        exact v_iret dX9_film_28 h
    · exact L_X9_film_16 N  s ls (lv_sub hl [] rfl) h
theorem k_X9_film {X : VX} {cc : ByteArray} {own : String} {nL fr lo : Nat} {ini : Bool} {E : VX → Prop} {sF s : vS} {ρ : Type} {res : ρ} {pc : Nat} {ls : Array Slot} {rest : List Value} {N index : Nat} {a0 : Nat} {l1 : Int32} {l2 : Int32} {f : Int32 → vS → Option ρ} (h : bnd (F_X9_film N a0 l1 l2 s) f = some res) (hlink : Cond.methodLink own index yX9_film ∈ TT) (hR : 4 + 1 ≤ fr ∧ 8 + (5 + 11) + 98 ≤ lo) (hls : ls.size = nL) (hr : (rest.map fun v => v.category).sum ≤ 8) (hdg : decode cc pc = .ok (.invokevirtual index, 3)) (kk : ∀ r s', f r s' = some res → V X (cc, own, nL, fr, lo, ini) E sF s' (G0 X (pc + 3) ls (.int r :: rest))) : V X (cc, own, nL, fr, lo, ini) E sF s (G0 X pc ls (.int l2 :: .int l1 :: .ref (xb X + a0) :: rest)) := by
  obtain ⟨r, s', e, h⟩ := bnd_some h
  exact v_callV (b := a0) (ci := 9) (As := [.int l1, .int l2]) (rest := rest) (c_X9_film X N a0 l1 l2 s s' r e).2 (c_X9_film (l := xl X) (D := xD X) (ka := xka X) X N a0 l1 l2 s s' r e).1 rfl vl_X9_film qi_X9_film qe_X9_film hlink hR rfl rfl hls hr hdg (kk r s' h)
set_option maxHeartbeats 4000000 in
set_option maxRecDepth 100000 in
theorem L_X9_image_80 {X : VX} {sF : vS} {r : Int32} (N : Nat) : ∀ (n : Nat) (a0 : Nat) (l1 : Int32) (s : vS) (ls : Array Slot), lv_has ls 2 [(0, .ref (xb X + a0)), (1, .int l1)] → H_X9_image_80 N n a0 l1 s = some (r, sF) → V X (cX9_image, RX9, 2, 0, 0, false) (vRet sF (some (.int r)) (some .int)) sF s (G0 X 80 ls []) := by
  intro n
  induction n with
  | zero => intro a0 l1 s ls hl h; cases h
  | succ n ih =>
   intro a0 l1 s ls hl h
   unfold H_X9_image_80 at h
   refine v_iload_n dX9_image_80 rfl (lv_at hl 1 rfl) ?_
   refine v_bipush (116 : Int32) dX9_image_81 (by decide) ?_
   refine v_icmp_ge 116 dX9_image_83 (by decide) h (fun h => ?_) (fun h => ?_)
   · refine v_aload_n dX9_image_116 rfl (lv_at hl 0 rfl) ?_
     refine v_getI 9 5 h (by decide) (Or.inl rfl) qfX9_137 dX9_image_117 (fun v14 h => ?_)
     exact v_iret dX9_image_120 h
   · refine v_aload_n dX9_image_86 rfl (lv_at hl 0 rfl) ?_
     refine v_getR 9 20 h (by decide) rfl qfX9_78 dX9_image_87 (fun r15 h => ?_)
     refine v_iload_n dX9_image_90 rfl (lv_at hl 1 rfl) ?_
     refine v_aload_n dX9_image_91 rfl (lv_at hl 0 rfl) ?_
     refine v_getR 9 11 h (by decide) rfl qfX9_59 dX9_image_92 (fun r16 h => ?_)
     refine v_iload_n dX9_image_95 rfl (lv_at hl 1 rfl) ?_
     refine v_lald dX9_image_96 h (fun v17 h => ?_)
     refine v_last dX9_image_97 h (fun s h => ?_)
     refine v_aload_n dX9_image_98 rfl (lv_at hl 0 rfl) ?_
     refine v_getR 9 21 h (by decide) rfl qfX9_81 dX9_image_99 (fun r18 h => ?_)
     refine v_iload_n dX9_image_102 rfl (lv_at hl 1 rfl) ?_
     refine v_aload_n dX9_image_103 rfl (lv_at hl 0 rfl) ?_
     refine v_getR 9 12 h (by decide) rfl qfX9_63 dX9_image_104 (fun r19 h => ?_)
     refine v_iload_n dX9_image_107 rfl (lv_at hl 1 rfl) ?_
     refine v_lald dX9_image_108 h (fun v20 h => ?_)
     refine v_last dX9_image_109 h (fun s h => ?_)
     refine v_inc (fun z => [(1, .int z), (0, .ref (xb X + a0))]) dX9_image_110 h hl (k := 1) rfl (by rfl) (by decide) (fun _ => rfl) (fun l1_21 ls hl h => ?_)
     refine v_goto 80 dX9_image_113 (by decide) ?_
     exact ih a0 l1_21 s ls (lv_sub hl [1, 0] rfl) h
set_option maxHeartbeats 4000000 in
set_option maxRecDepth 100000 in
theorem L_X9_image_43 {X : VX} {sF : vS} {r : Int32} (N : Nat) : ∀ (n : Nat) (a0 : Nat) (l1 : Int32) (s : vS) (ls : Array Slot), lv_has ls 2 [(0, .ref (xb X + a0)), (1, .int l1)] → H_X9_image_43 N n a0 l1 s = some (r, sF) → V X (cX9_image, RX9, 2, 0, 0, false) (vRet sF (some (.int r)) (some .int)) sF s (G0 X 43 ls []) := by
  intro n
  induction n with
  | zero => intro a0 l1 s ls hl h; cases h
  | succ n ih =>
   intro a0 l1 s ls hl h
   unfold H_X9_image_43 at h
   refine v_iload_n dX9_image_43 rfl (lv_at hl 1 rfl) ?_
   refine v_iconst (4 : Int32) dX9_image_44 (by decide) ?_
   refine v_icmp_ge 78 dX9_image_45 (by decide) h (fun h => ?_) (fun h => ?_)
   · refine v_iconst (0 : Int32) dX9_image_78 (by decide) ?_
     refine v_istore_n [(1, .int (0 : Int32)), (0, .ref (xb X + a0))] dX9_image_79 rfl hl (by decide) rfl (fun ls hl => ?_)
     exact L_X9_image_80 N N a0 (0 : Int32) s ls (lv_sub hl [1, 0] rfl) h
   · refine v_aload_n dX9_image_48 rfl (lv_at hl 0 rfl) ?_
     refine v_getR 9 18 h (by decide) rfl qfX9_72 dX9_image_49 (fun r7 h => ?_)
     refine v_iload_n dX9_image_52 rfl (lv_at hl 1 rfl) ?_
     refine v_aload_n dX9_image_53 rfl (lv_at hl 0 rfl) ?_
     refine v_getR 9 9 h (by decide) rfl qfX9_52 dX9_image_54 (fun r8 h => ?_)
     refine v_iload_n dX9_image_57 rfl (lv_at hl 1 rfl) ?_
     refine v_zald dX9_image_58 h (fun v9 h => ?_)
     refine v_zast dX9_image_59 h (fun s h => ?_)
     refine v_aload_n dX9_image_60 rfl (lv_at hl 0 rfl) ?_
     refine v_getR 9 19 h (by decide) rfl qfX9_75 dX9_image_61 (fun r10 h => ?_)
     refine v_iload_n dX9_image_64 rfl (lv_at hl 1 rfl) ?_
     refine v_aload_n dX9_image_65 rfl (lv_at hl 0 rfl) ?_
     refine v_getR 9 10 h (by decide) rfl qfX9_56 dX9_image_66 (fun r11 h => ?_)
     refine v_iload_n dX9_image_69 rfl (lv_at hl 1 rfl) ?_
     refine v_iald dX9_image_70 h (fun v12 h => ?_)
     refine v_iast dX9_image_71 h (fun s h => ?_)
     refine v_inc (fun z => [(1, .int z), (0, .ref (xb X + a0))]) dX9_image_72 h hl (k := 1) rfl (by rfl) (by decide) (fun _ => rfl) (fun l1_13 ls hl h => ?_)
     refine v_goto 43 dX9_image_75 (by decide) ?_
     exact ih a0 l1_13 s ls (lv_sub hl [1, 0] rfl) h
set_option maxHeartbeats 4000000 in
set_option maxRecDepth 100000 in
theorem L_X9_image_15 {X : VX} {sF : vS} {r : Int32} (N : Nat) : ∀ (n : Nat) (a0 : Nat) (l1 : Int32) (s : vS) (ls : Array Slot), lv_has ls 2 [(0, .ref (xb X + a0)), (1, .int l1)] → H_X9_image_15 N n a0 l1 s = some (r, sF) → V X (cX9_image, RX9, 2, 0, 0, false) (vRet sF (some (.int r)) (some .int)) sF s (G0 X 15 ls []) := by
  intro n
  induction n with
  | zero => intro a0 l1 s ls hl h; cases h
  | succ n ih =>
   intro a0 l1 s ls hl h
   unfold H_X9_image_15 at h
   refine v_iload_n dX9_image_15 rfl (lv_at hl 1 rfl) ?_
   refine v_aload_n dX9_image_16 rfl (lv_at hl 0 rfl) ?_
   refine v_getI 9 5 h (by decide) (Or.inl rfl) qfX9_137 dX9_image_17 (fun v2 h => ?_)
   refine v_icmp_ge 41 dX9_image_20 (by decide) h (fun h => ?_) (fun h => ?_)
   · refine v_iconst (0 : Int32) dX9_image_41 (by decide) ?_
     refine v_istore_n [(1, .int (0 : Int32)), (0, .ref (xb X + a0))] dX9_image_42 rfl hl (by decide) rfl (fun ls hl => ?_)
     exact L_X9_image_43 N N a0 (0 : Int32) s ls (lv_sub hl [1, 0] rfl) h
   · refine v_aload_n dX9_image_23 rfl (lv_at hl 0 rfl) ?_
     refine v_getR 9 17 h (by decide) rfl qfX9_69 dX9_image_24 (fun r3 h => ?_)
     refine v_iload_n dX9_image_27 rfl (lv_at hl 1 rfl) ?_
     refine v_aload_n dX9_image_28 rfl (lv_at hl 0 rfl) ?_
     refine v_getR 9 6 h (by decide) rfl qfX9_46 dX9_image_29 (fun r4 h => ?_)
     refine v_iload_n dX9_image_32 rfl (lv_at hl 1 rfl) ?_
     refine v_iald dX9_image_33 h (fun v5 h => ?_)
     refine v_iast dX9_image_34 h (fun s h => ?_)
     refine v_inc (fun z => [(1, .int z), (0, .ref (xb X + a0))]) dX9_image_35 h hl (k := 1) rfl (by rfl) (by decide) (fun _ => rfl) (fun l1_6 ls hl h => ?_)
     refine v_goto 15 dX9_image_38 (by decide) ?_
     exact ih a0 l1_6 s ls (lv_sub hl [1, 0] rfl) h
theorem vl_X9_image : vCl yX9_image cX9_image 2 (some .int) 0 := ⟨qy_X9_image, qjX9, by decide +kernel, by decide +kernel, by decide +kernel⟩
set_option maxHeartbeats 4000000 in
set_option maxRecDepth 100000 in
theorem c_X9_image {l : Launch} {D : va_G} {ka : Nat → ClassId} (X0 : VX) (N : Nat) (a0 : Nat) (s sF : vS) (r : Int32) (h : F_X9_image N a0 s = some (r, sF)) : isO s a0 9 = true ∧ vMet l D ka (xb X0) yX9_image cX9_image 2 (some .int) 0 0 [.ref (xb X0 + a0)] s sF (some (.int r)) := by
  unfold F_X9_image at h
  unfold rcv at h
  obtain ⟨hO, h⟩ := v_chk h
  refine ⟨hO, vMet.of (ini := false) X0 (plainFor_of_name (by decide +kernel)) (Nat.le_of_ble_eq_true rfl) (fun h => by cases h) (fun X ls hb hl => ?_) rfl⟩
  show V X (cX9_image, RX9, 2, 0, 0, false) (vRet sF (some (.int r)) (some .int)) sF s (G0 X 0 ls [])
  rw [← hb] at hl
  have hl : lv_has ls 2 [(0, .ref (xb X + a0))] := hl
  refine v_aload_n dX9_image_0 rfl (lv_at hl 0 rfl) ?_
  refine v_iconst (1 : Int32) dX9_image_1 (by decide) ?_
  refine v_putZ 9 15 h (by decide) rfl (Or.inl rfl) qfX9_365 dX9_image_2 (fun s h => ?_)
  refine v_aload_n dX9_image_5 rfl (lv_at hl 0 rfl) ?_
  refine v_aload_n dX9_image_6 rfl (lv_at hl 0 rfl) ?_
  refine v_getI 9 5 h (by decide) (Or.inl rfl) qfX9_137 dX9_image_7 (fun v1 h => ?_)
  refine v_putI 9 16 h (by decide) rfl (Or.inl rfl) qfX9_368 dX9_image_10 (fun s h => ?_)
  refine v_iconst (0 : Int32) dX9_image_13 (by decide) ?_
  refine v_istore_n [(1, .int (0 : Int32)), (0, .ref (xb X + a0))] dX9_image_14 rfl hl (by decide) rfl (fun ls hl => ?_)
  exact L_X9_image_15 N N a0 (0 : Int32) s ls (lv_sub hl [1, 0] rfl) h
theorem k_X9_image {X : VX} {cc : ByteArray} {own : String} {nL fr lo : Nat} {ini : Bool} {E : VX → Prop} {sF s : vS} {ρ : Type} {res : ρ} {pc : Nat} {ls : Array Slot} {rest : List Value} {N index : Nat} {a0 : Nat} {f : Int32 → vS → Option ρ} (h : bnd (F_X9_image N a0 s) f = some res) (hlink : Cond.methodLink own index yX9_image ∈ TT) (hR : 0 + 1 ≤ fr ∧ 8 + (2 + 11) + 0 ≤ lo) (hls : ls.size = nL) (hr : (rest.map fun v => v.category).sum ≤ 8) (hdg : decode cc pc = .ok (.invokevirtual index, 3)) (kk : ∀ r s', f r s' = some res → V X (cc, own, nL, fr, lo, ini) E sF s' (G0 X (pc + 3) ls (.int r :: rest))) : V X (cc, own, nL, fr, lo, ini) E sF s (G0 X pc ls (.ref (xb X + a0) :: rest)) := by
  obtain ⟨r, s', e, h⟩ := bnd_some h
  exact v_callV (b := a0) (ci := 9) (As := []) (rest := rest) (c_X9_image X N a0 s s' r e).2 (c_X9_image (l := xl X) (D := xD X) (ka := xka X) X N a0 s s' r e).1 rfl vl_X9_image qi_X9_image qe_X9_image hlink hR rfl rfl hls hr hdg (kk r s' h)
set_option maxHeartbeats 4000000 in
set_option maxRecDepth 100000 in
theorem L_X9_back_85 {X : VX} {sF : vS} {r : Int32} (N : Nat) : ∀ (n : Nat) (a0 : Nat) (l1 : Int32) (s : vS) (ls : Array Slot), lv_has ls 2 [(0, .ref (xb X + a0)), (1, .int l1)] → H_X9_back_85 N n a0 l1 s = some (r, sF) → V X (cX9_back, RX9, 2, 0, 0, false) (vRet sF (some (.int r)) (some .int)) sF s (G0 X 85 ls []) := by
  intro n
  induction n with
  | zero => intro a0 l1 s ls hl h; cases h
  | succ n ih =>
   intro a0 l1 s ls hl h
   unfold H_X9_back_85 at h
   refine v_iload_n dX9_back_85 rfl (lv_at hl 1 rfl) ?_
   refine v_bipush (116 : Int32) dX9_back_86 (by decide) ?_
   refine v_icmp_ge 121 dX9_back_88 (by decide) h (fun h => ?_) (fun h => ?_)
   · refine v_aload_n dX9_back_121 rfl (lv_at hl 0 rfl) ?_
     refine v_getI 9 5 h (by decide) (Or.inl rfl) qfX9_137 dX9_back_122 (fun v15 h => ?_)
     exact v_iret dX9_back_125 h
   · refine v_aload_n dX9_back_91 rfl (lv_at hl 0 rfl) ?_
     refine v_getR 9 11 h (by decide) rfl qfX9_59 dX9_back_92 (fun r16 h => ?_)
     refine v_iload_n dX9_back_95 rfl (lv_at hl 1 rfl) ?_
     refine v_aload_n dX9_back_96 rfl (lv_at hl 0 rfl) ?_
     refine v_getR 9 20 h (by decide) rfl qfX9_78 dX9_back_97 (fun r17 h => ?_)
     refine v_iload_n dX9_back_100 rfl (lv_at hl 1 rfl) ?_
     refine v_lald dX9_back_101 h (fun v18 h => ?_)
     refine v_last dX9_back_102 h (fun s h => ?_)
     refine v_aload_n dX9_back_103 rfl (lv_at hl 0 rfl) ?_
     refine v_getR 9 12 h (by decide) rfl qfX9_63 dX9_back_104 (fun r19 h => ?_)
     refine v_iload_n dX9_back_107 rfl (lv_at hl 1 rfl) ?_
     refine v_aload_n dX9_back_108 rfl (lv_at hl 0 rfl) ?_
     refine v_getR 9 21 h (by decide) rfl qfX9_81 dX9_back_109 (fun r20 h => ?_)
     refine v_iload_n dX9_back_112 rfl (lv_at hl 1 rfl) ?_
     refine v_lald dX9_back_113 h (fun v21 h => ?_)
     refine v_last dX9_back_114 h (fun s h => ?_)
     refine v_inc (fun z => [(1, .int z), (0, .ref (xb X + a0))]) dX9_back_115 h hl (k := 1) rfl (by rfl) (by decide) (fun _ => rfl) (fun l1_22 ls hl h => ?_)
     refine v_goto 85 dX9_back_118 (by decide) ?_
     exact ih a0 l1_22 s ls (lv_sub hl [1, 0] rfl) h
set_option maxHeartbeats 4000000 in
set_option maxRecDepth 100000 in
theorem L_X9_back_48 {X : VX} {sF : vS} {r : Int32} (N : Nat) : ∀ (n : Nat) (a0 : Nat) (l1 : Int32) (s : vS) (ls : Array Slot), lv_has ls 2 [(0, .ref (xb X + a0)), (1, .int l1)] → H_X9_back_48 N n a0 l1 s = some (r, sF) → V X (cX9_back, RX9, 2, 0, 0, false) (vRet sF (some (.int r)) (some .int)) sF s (G0 X 48 ls []) := by
  intro n
  induction n with
  | zero => intro a0 l1 s ls hl h; cases h
  | succ n ih =>
   intro a0 l1 s ls hl h
   unfold H_X9_back_48 at h
   refine v_iload_n dX9_back_48 rfl (lv_at hl 1 rfl) ?_
   refine v_iconst (4 : Int32) dX9_back_49 (by decide) ?_
   refine v_icmp_ge 83 dX9_back_50 (by decide) h (fun h => ?_) (fun h => ?_)
   · refine v_iconst (0 : Int32) dX9_back_83 (by decide) ?_
     refine v_istore_n [(1, .int (0 : Int32)), (0, .ref (xb X + a0))] dX9_back_84 rfl hl (by decide) rfl (fun ls hl => ?_)
     exact L_X9_back_85 N N a0 (0 : Int32) s ls (lv_sub hl [1, 0] rfl) h
   · refine v_aload_n dX9_back_53 rfl (lv_at hl 0 rfl) ?_
     refine v_getR 9 9 h (by decide) rfl qfX9_52 dX9_back_54 (fun r8 h => ?_)
     refine v_iload_n dX9_back_57 rfl (lv_at hl 1 rfl) ?_
     refine v_aload_n dX9_back_58 rfl (lv_at hl 0 rfl) ?_
     refine v_getR 9 18 h (by decide) rfl qfX9_72 dX9_back_59 (fun r9 h => ?_)
     refine v_iload_n dX9_back_62 rfl (lv_at hl 1 rfl) ?_
     refine v_zald dX9_back_63 h (fun v10 h => ?_)
     refine v_zast dX9_back_64 h (fun s h => ?_)
     refine v_aload_n dX9_back_65 rfl (lv_at hl 0 rfl) ?_
     refine v_getR 9 10 h (by decide) rfl qfX9_56 dX9_back_66 (fun r11 h => ?_)
     refine v_iload_n dX9_back_69 rfl (lv_at hl 1 rfl) ?_
     refine v_aload_n dX9_back_70 rfl (lv_at hl 0 rfl) ?_
     refine v_getR 9 19 h (by decide) rfl qfX9_75 dX9_back_71 (fun r12 h => ?_)
     refine v_iload_n dX9_back_74 rfl (lv_at hl 1 rfl) ?_
     refine v_iald dX9_back_75 h (fun v13 h => ?_)
     refine v_iast dX9_back_76 h (fun s h => ?_)
     refine v_inc (fun z => [(1, .int z), (0, .ref (xb X + a0))]) dX9_back_77 h hl (k := 1) rfl (by rfl) (by decide) (fun _ => rfl) (fun l1_14 ls hl h => ?_)
     refine v_goto 48 dX9_back_80 (by decide) ?_
     exact ih a0 l1_14 s ls (lv_sub hl [1, 0] rfl) h
set_option maxHeartbeats 4000000 in
set_option maxRecDepth 100000 in
theorem L_X9_back_20 {X : VX} {sF : vS} {r : Int32} (N : Nat) : ∀ (n : Nat) (a0 : Nat) (l1 : Int32) (s : vS) (ls : Array Slot), lv_has ls 2 [(0, .ref (xb X + a0)), (1, .int l1)] → H_X9_back_20 N n a0 l1 s = some (r, sF) → V X (cX9_back, RX9, 2, 0, 0, false) (vRet sF (some (.int r)) (some .int)) sF s (G0 X 20 ls []) := by
  intro n
  induction n with
  | zero => intro a0 l1 s ls hl h; cases h
  | succ n ih =>
   intro a0 l1 s ls hl h
   unfold H_X9_back_20 at h
   refine v_iload_n dX9_back_20 rfl (lv_at hl 1 rfl) ?_
   refine v_aload_n dX9_back_21 rfl (lv_at hl 0 rfl) ?_
   refine v_getI 9 5 h (by decide) (Or.inl rfl) qfX9_137 dX9_back_22 (fun v3 h => ?_)
   refine v_icmp_ge 46 dX9_back_25 (by decide) h (fun h => ?_) (fun h => ?_)
   · refine v_iconst (0 : Int32) dX9_back_46 (by decide) ?_
     refine v_istore_n [(1, .int (0 : Int32)), (0, .ref (xb X + a0))] dX9_back_47 rfl hl (by decide) rfl (fun ls hl => ?_)
     exact L_X9_back_48 N N a0 (0 : Int32) s ls (lv_sub hl [1, 0] rfl) h
   · refine v_aload_n dX9_back_28 rfl (lv_at hl 0 rfl) ?_
     refine v_getR 9 6 h (by decide) rfl qfX9_46 dX9_back_29 (fun r4 h => ?_)
     refine v_iload_n dX9_back_32 rfl (lv_at hl 1 rfl) ?_
     refine v_aload_n dX9_back_33 rfl (lv_at hl 0 rfl) ?_
     refine v_getR 9 17 h (by decide) rfl qfX9_69 dX9_back_34 (fun r5 h => ?_)
     refine v_iload_n dX9_back_37 rfl (lv_at hl 1 rfl) ?_
     refine v_iald dX9_back_38 h (fun v6 h => ?_)
     refine v_iast dX9_back_39 h (fun s h => ?_)
     refine v_inc (fun z => [(1, .int z), (0, .ref (xb X + a0))]) dX9_back_40 h hl (k := 1) rfl (by rfl) (by decide) (fun _ => rfl) (fun l1_7 ls hl h => ?_)
     refine v_goto 20 dX9_back_43 (by decide) ?_
     exact ih a0 l1_7 s ls (lv_sub hl [1, 0] rfl) h
theorem vl_X9_back : vCl yX9_back cX9_back 2 (some .int) 0 := ⟨qy_X9_back, qjX9, by decide +kernel, by decide +kernel, by decide +kernel⟩
set_option maxHeartbeats 4000000 in
set_option maxRecDepth 100000 in
theorem c_X9_back {l : Launch} {D : va_G} {ka : Nat → ClassId} (X0 : VX) (N : Nat) (a0 : Nat) (s sF : vS) (r : Int32) (h : F_X9_back N a0 s = some (r, sF)) : isO s a0 9 = true ∧ vMet l D ka (xb X0) yX9_back cX9_back 2 (some .int) 0 0 [.ref (xb X0 + a0)] s sF (some (.int r)) := by
  unfold F_X9_back at h
  unfold rcv at h
  obtain ⟨hO, h⟩ := v_chk h
  refine ⟨hO, vMet.of (ini := false) X0 (plainFor_of_name (by decide +kernel)) (Nat.le_of_ble_eq_true rfl) (fun h => by cases h) (fun X ls hb hl => ?_) rfl⟩
  show V X (cX9_back, RX9, 2, 0, 0, false) (vRet sF (some (.int r)) (some .int)) sF s (G0 X 0 ls [])
  rw [← hb] at hl
  have hl : lv_has ls 2 [(0, .ref (xb X + a0))] := hl
  refine v_aload_n dX9_back_0 rfl (lv_at hl 0 rfl) ?_
  refine v_getI 9 15 h (by decide) (Or.inr rfl) qfX9_365 dX9_back_1 (fun v1 h => ?_)
  refine v_if_ne 10 dX9_back_4 (by decide) h (fun h => ?_) (fun h => ?_)
  · refine v_aload_n dX9_back_10 rfl (lv_at hl 0 rfl) ?_
    refine v_aload_n dX9_back_11 rfl (lv_at hl 0 rfl) ?_
    refine v_getI 9 16 h (by decide) (Or.inl rfl) qfX9_368 dX9_back_12 (fun v2 h => ?_)
    refine v_putI 9 5 h (by decide) rfl (Or.inl rfl) qfX9_137 dX9_back_15 (fun s h => ?_)
    refine v_iconst (0 : Int32) dX9_back_18 (by decide) ?_
    refine v_istore_n [(1, .int (0 : Int32)), (0, .ref (xb X + a0))] dX9_back_19 rfl hl (by decide) rfl (fun ls hl => ?_)
    exact L_X9_back_20 N N a0 (0 : Int32) s ls (lv_sub hl [1, 0] rfl) h
  · refine v_bipush (-3 : Int32) dX9_back_7 (by decide) ?_
    exact v_iret dX9_back_9 h
theorem k_X9_back {X : VX} {cc : ByteArray} {own : String} {nL fr lo : Nat} {ini : Bool} {E : VX → Prop} {sF s : vS} {ρ : Type} {res : ρ} {pc : Nat} {ls : Array Slot} {rest : List Value} {N index : Nat} {a0 : Nat} {f : Int32 → vS → Option ρ} (h : bnd (F_X9_back N a0 s) f = some res) (hlink : Cond.methodLink own index yX9_back ∈ TT) (hR : 0 + 1 ≤ fr ∧ 8 + (2 + 11) + 0 ≤ lo) (hls : ls.size = nL) (hr : (rest.map fun v => v.category).sum ≤ 8) (hdg : decode cc pc = .ok (.invokevirtual index, 3)) (kk : ∀ r s', f r s' = some res → V X (cc, own, nL, fr, lo, ini) E sF s' (G0 X (pc + 3) ls (.int r :: rest))) : V X (cc, own, nL, fr, lo, ini) E sF s (G0 X pc ls (.ref (xb X + a0) :: rest)) := by
  obtain ⟨r, s', e, h⟩ := bnd_some h
  exact v_callV (b := a0) (ci := 9) (As := []) (rest := rest) (c_X9_back X N a0 s s' r e).2 (c_X9_back (l := xl X) (D := xD X) (ka := xka X) X N a0 s s' r e).1 rfl vl_X9_back qi_X9_back qe_X9_back hlink hR rfl rfl hls hr hdg (kk r s' h)
set_option maxHeartbeats 4000000 in
set_option maxRecDepth 100000 in
theorem L_X9_count_78 {X : VX} {sF : vS} {r : Int32} (N : Nat) (k0 : Int32) (s : vS) (ls : Array Slot) (hl : lv_has ls 5 []) (h : J_X9_count_78 N k0 s = some (r, sF)) : V X (cX9_count, RX9, 5, 3, 66, false) (vRet sF (some (.int r)) (some .int)) sF s (G0 X 78 ls [.int k0]) := by
  unfold J_X9_count_78 at h
  exact v_iret dX9_count_78 h
set_option maxHeartbeats 4000000 in
set_option maxRecDepth 100000 in
theorem L_X9_count_40 {X : VX} {sF : vS} {r : Int32} (N : Nat) (k18 : Nat → Int32 → Int32 → Int32 → Int32 → vS → Option (Int32 × vS)) (hk18 : ∀ (a0 : Nat) (l1 : Int32) (l2 : Int32) (l3 : Int32) (l4 : Int32) (s : vS) (ls : Array Slot), lv_has ls 5 [(0, .ref (xb X + a0)), (1, .int l1), (2, .int l2), (3, .int l3), (4, .int l4)] → k18 a0 l1 l2 l3 l4 s = some (r, sF) → V X (cX9_count, RX9, 5, 3, 66, false) (vRet sF (some (.int r)) (some .int)) sF s (G0 X 18 ls [])) (a0 : Nat) (l1 : Int32) (l3 : Int32) (l4 : Int32) (k0 : Int32) (k1 : Int32) (s : vS) (ls : Array Slot) (hl : lv_has ls 5 [(0, .ref (xb X + a0)), (1, .int l1), (3, .int l3), (4, .int l4)]) (h : J_X9_count_40 N k18 a0 l1 l3 l4 k0 k1 s = some (r, sF)) : V X (cX9_count, RX9, 5, 3, 66, false) (vRet sF (some (.int r)) (some .int)) sF s (G0 X 40 ls [.int k1, .int k0]) := by
  unfold J_X9_count_40 at h
  refine v_iadd dX9_count_40 ?_
  refine v_nmI h (fun l2_5 h => ?_)
  refine v_istore_n [(2, .int l2_5), (0, .ref (xb X + a0)), (1, .int l1), (3, .int l3), (4, .int l4)] dX9_count_41 rfl hl (by decide) rfl (fun ls hl => ?_)
  refine v_iload_n dX9_count_42 rfl (lv_at hl 3 rfl) ?_
  refine v_aload_n dX9_count_43 rfl (lv_at hl 1 rfl) ?_
  refine v_iload dX9_count_44 (lv_at hl 4 rfl) ?_
  refine k_X9_termsIn h qmX9_338 (by decide) hl.1 (Nat.le_of_ble_eq_true rfl) dX9_count_46 (fun v6 s h => ?_)
  refine v_iadd dX9_count_49 ?_
  refine v_nmI h (fun l3_7 h => ?_)
  refine v_istore_n [(3, .int l3_7), (2, .int l2_5), (0, .ref (xb X + a0)), (1, .int l1), (4, .int l4)] dX9_count_50 rfl hl (by decide) rfl (fun ls hl => ?_)
  refine v_inc (fun z => [(4, .int z), (3, .int l3_7), (2, .int l2_5), (0, .ref (xb X + a0)), (1, .int l1)]) dX9_count_51 h hl (k := 4) rfl (by rfl) (by decide) (fun _ => rfl) (fun l4_8 ls hl h => ?_)
  refine v_goto 18 dX9_count_54 (by decide) ?_
  exact hk18 a0 l1 l2_5 l3_7 l4_8 s ls (lv_sub hl [3, 4, 2, 1, 0] rfl) h
set_option maxHeartbeats 4000000 in
set_option maxRecDepth 100000 in
theorem L_X9_count_18 {X : VX} {sF : vS} {r : Int32} (N : Nat) : ∀ (n : Nat) (a0 : Nat) (l1 : Int32) (l2 : Int32) (l3 : Int32) (l4 : Int32) (s : vS) (ls : Array Slot), lv_has ls 5 [(0, .ref (xb X + a0)), (1, .int l1), (2, .int l2), (3, .int l3), (4, .int l4)] → H_X9_count_18 N n a0 l1 l2 l3 l4 s = some (r, sF) → V X (cX9_count, RX9, 5, 3, 66, false) (vRet sF (some (.int r)) (some .int)) sF s (G0 X 18 ls []) := by
  intro n
  induction n with
  | zero => intro a0 l1 l2 l3 l4 s ls hl h; cases h
  | succ n ih =>
   intro a0 l1 l2 l3 l4 s ls hl h
   unfold H_X9_count_18 at h
   refine v_iload dX9_count_18 (lv_at hl 4 rfl) ?_
   refine v_iconst (4 : Int32) dX9_count_20 (by decide) ?_
   refine v_icmp_ge 57 dX9_count_21 (by decide) h (fun h => ?_) (fun h => ?_)
   · refine v_iload_n dX9_count_57 rfl (lv_at hl 1 rfl) ?_
     refine v_if_ne 68 dX9_count_58 (by decide) h (fun h => ?_) (fun h => ?_)
     · refine v_iload_n dX9_count_68 rfl (lv_at hl 1 rfl) ?_
       refine v_iconst (1 : Int32) dX9_count_69 (by decide) ?_
       refine v_icmp_ne 77 dX9_count_70 (by decide) h (fun h => ?_) (fun h => ?_)
       · refine v_iload_n dX9_count_77 rfl (lv_at hl 3 rfl) ?_
         exact L_X9_count_78 N l3 s ls (lv_sub hl [] rfl) h
       · refine v_iload_n dX9_count_73 rfl (lv_at hl 2 rfl) ?_
         refine v_goto 78 dX9_count_74 (by decide) ?_
         exact L_X9_count_78 N l2 s ls (lv_sub hl [] rfl) h
     · refine v_aload_n dX9_count_61 rfl (lv_at hl 0 rfl) ?_
       refine v_getI 9 13 h (by decide) (Or.inl rfl) qfX9_253 dX9_count_62 (fun v2 h => ?_)
       refine v_goto 78 dX9_count_65 (by decide) ?_
       exact L_X9_count_78 N v2 s ls (lv_sub hl [] rfl) h
   · refine v_iload_n dX9_count_24 rfl (lv_at hl 2 rfl) ?_
     refine v_aload_n dX9_count_25 rfl (lv_at hl 0 rfl) ?_
     refine v_getR 9 9 h (by decide) rfl qfX9_52 dX9_count_26 (fun r3 h => ?_)
     refine v_iload dX9_count_29 (lv_at hl 4 rfl) ?_
     refine v_zald dX9_count_31 h (fun v4 h => ?_)
     refine v_if_eq 39 dX9_count_32 (by decide) h (fun h => ?_) (fun h => ?_)
     · refine v_iconst (0 : Int32) dX9_count_39 (by decide) ?_
       exact L_X9_count_40 N (H_X9_count_18 N n) ih a0 l1 l3 l4 l2 (0 : Int32) s ls (lv_sub hl [0, 1, 3, 4] rfl) h
     · refine v_iconst (1 : Int32) dX9_count_35 (by decide) ?_
       refine v_goto 40 dX9_count_36 (by decide) ?_
       exact L_X9_count_40 N (H_X9_count_18 N n) ih a0 l1 l3 l4 l2 (1 : Int32) s ls (lv_sub hl [0, 1, 3, 4] rfl) h
theorem vl_X9_count : vCl yX9_count cX9_count 5 (some .int) 1 := ⟨qy_X9_count, qjX9, by decide +kernel, by decide +kernel, by decide +kernel⟩
set_option maxHeartbeats 4000000 in
set_option maxRecDepth 100000 in
theorem c_X9_count {l : Launch} {D : va_G} {ka : Nat → ClassId} (X0 : VX) (N : Nat) (a0 : Nat) (l1 : Int32) (s sF : vS) (r : Int32) (h : F_X9_count N a0 l1 s = some (r, sF)) : isO s a0 9 = true ∧ vMet l D ka (xb X0) yX9_count cX9_count 5 (some .int) 3 66 [.ref (xb X0 + a0), .int l1] s sF (some (.int r)) := by
  unfold F_X9_count at h
  unfold rcv at h
  obtain ⟨hO, h⟩ := v_chk h
  refine ⟨hO, vMet.of (ini := false) X0 (plainFor_of_name (by decide +kernel)) (Nat.le_of_ble_eq_true rfl) (fun h => by cases h) (fun X ls hb hl => ?_) rfl⟩
  show V X (cX9_count, RX9, 5, 3, 66, false) (vRet sF (some (.int r)) (some .int)) sF s (G0 X 0 ls [])
  rw [← hb] at hl
  have hl : lv_has ls 5 [(0, .ref (xb X + a0)), (1, .int l1)] := hl
  refine v_iload_n dX9_count_0 rfl (lv_at hl 1 rfl) ?_
  refine v_iconst (0 : Int32) dX9_count_1 (by decide) ?_
  refine v_iconst (2 : Int32) dX9_count_2 (by decide) ?_
  refine k_X9_in h qmX9_129 (by decide) hl.1 (Nat.le_of_ble_eq_true rfl) dX9_count_3 (fun v1 s h => ?_)
  refine v_if_ne 11 dX9_count_6 (by decide) h (fun h => ?_) (fun h => ?_)
  · refine v_iconst (0 : Int32) dX9_count_11 (by decide) ?_
    refine v_istore_n [(2, .int (0 : Int32)), (0, .ref (xb X + a0)), (1, .int l1)] dX9_count_12 rfl hl (by decide) rfl (fun ls hl => ?_)
    refine v_iconst (0 : Int32) dX9_count_13 (by decide) ?_
    refine v_istore_n [(3, .int (0 : Int32)), (2, .int (0 : Int32)), (0, .ref (xb X + a0)), (1, .int l1)] dX9_count_14 rfl hl (by decide) rfl (fun ls hl => ?_)
    refine v_iconst (0 : Int32) dX9_count_15 (by decide) ?_
    refine v_istore [(4, .int (0 : Int32)), (3, .int (0 : Int32)), (2, .int (0 : Int32)), (0, .ref (xb X + a0)), (1, .int l1)] dX9_count_16 hl (by decide) rfl (fun ls hl => ?_)
    exact L_X9_count_18 N N a0 l1 (0 : Int32) (0 : Int32) (0 : Int32) s ls (lv_sub hl [3, 4, 2, 1, 0] rfl) h
  · refine v_iconst (-1 : Int32) dX9_count_9 (by decide) ?_
    exact v_iret dX9_count_10 h
theorem k_X9_count {X : VX} {cc : ByteArray} {own : String} {nL fr lo : Nat} {ini : Bool} {E : VX → Prop} {sF s : vS} {ρ : Type} {res : ρ} {pc : Nat} {ls : Array Slot} {rest : List Value} {N index : Nat} {a0 : Nat} {l1 : Int32} {f : Int32 → vS → Option ρ} (h : bnd (F_X9_count N a0 l1 s) f = some res) (hlink : Cond.methodLink own index yX9_count ∈ TT) (hR : 3 + 1 ≤ fr ∧ 8 + (5 + 11) + 66 ≤ lo) (hls : ls.size = nL) (hr : (rest.map fun v => v.category).sum ≤ 8) (hdg : decode cc pc = .ok (.invokevirtual index, 3)) (kk : ∀ r s', f r s' = some res → V X (cc, own, nL, fr, lo, ini) E sF s' (G0 X (pc + 3) ls (.int r :: rest))) : V X (cc, own, nL, fr, lo, ini) E sF s (G0 X pc ls (.int l1 :: .ref (xb X + a0) :: rest)) := by
  obtain ⟨r, s', e, h⟩ := bnd_some h
  exact v_callV (b := a0) (ci := 9) (As := [.int l1]) (rest := rest) (c_X9_count X N a0 l1 s s' r e).2 (c_X9_count (l := xl X) (D := xD X) (ka := xka X) X N a0 l1 s s' r e).1 rfl vl_X9_count qi_X9_count qe_X9_count hlink hR rfl rfl hls hr hdg (kk r s' h)
set_option maxHeartbeats 4000000 in
set_option maxRecDepth 100000 in
theorem L_L_law_1251 {X : VX} {sF : vS} {b L : Nat} {xss : Nat → Int32} (N : Nat) (k18 : Nat → Nat → Int32 → vS → Option (Int32 × vS)) (hk18 : ∀ (a1 : Nat) (a2 : Nat) (l3 : Int32) (s : vS) (ls : Array Slot), lv_has ls 4 [(0, .ref b), (1, .ref (xb X + a1)), (2, .ref (xb X + a2)), (3, .int l3)] → k18 a1 a2 l3 s = some ((1 : Int32), sF) → V X (cL_law, RL, 4, 12, 532, false) (vLaw b L xss) sF s (G0 X 18 ls [])) (a1 : Nat) (a2 : Nat) (l3 : Int32) (s : vS) (ls : Array Slot) (hl : lv_has ls 4 [(0, .ref b), (1, .ref (xb X + a1)), (2, .ref (xb X + a2)), (3, .int l3)]) (h : J_L_law_1251 N L xss k18 a1 a2 l3 s = some ((1 : Int32), sF)) : V X (cL_law, RL, 4, 12, 532, false) (vLaw b L xss) sF s (G0 X 1251 ls []) := by
  unfold J_L_law_1251 at h
  refine v_inc (fun z => [(3, .int z), (0, .ref b), (1, .ref (xb X + a1)), (2, .ref (xb X + a2))]) dL_law_1251 h hl (k := 3) rfl (by rfl) (by decide) (fun _ => rfl) (fun l3_202 ls hl h => ?_)
  refine v_goto 18 dL_law_1254 (by decide) ?_
  exact hk18 a1 a2 l3_202 s ls (lv_sub hl [1, 2, 3, 0] rfl) h
set_option maxHeartbeats 4000000 in
set_option maxRecDepth 100000 in
theorem L_L_law_18 {X : VX} {sF : vS} {b L : Nat} {xss : Nat → Int32} (N : Nat) : ∀ (n : Nat) (a1 : Nat) (a2 : Nat) (l3 : Int32) (s : vS) (ls : Array Slot), lv_has ls 4 [(0, .ref b), (1, .ref (xb X + a1)), (2, .ref (xb X + a2)), (3, .int l3)] → H_L_law_18 N L xss n a1 a2 l3 s = some ((1 : Int32), sF) → V X (cL_law, RL, 4, 12, 532, false) (vLaw b L xss) sF s (G0 X 18 ls []) := by
  intro n
  induction n with
  | zero => intro a1 a2 l3 s ls hl h; cases h
  | succ n ih =>
   intro a1 a2 l3 s ls hl h
   unfold H_L_law_18 at h
   refine v_iload_n dL_law_18 rfl (lv_at hl 3 rfl) ?_
   refine v_aload_n dL_law_19 rfl (lv_at hl 0 rfl) ?_
   refine v_slen dL_law_20 h (fun v5 h => ?_)
   refine v_iconst (5 : Int32) dL_law_21 (by decide) ?_
   refine v_isub dL_law_22 ?_
   refine v_icmp_gt 1257 dL_law_23 (by decide) h (fun h => ?_) (fun h => ?_)
   · refine v_iconst (1 : Int32) dL_law_1257 (by decide) ?_
     exact v_lawret dL_law_1258 h
   · refine v_aload_n dL_law_26 rfl (lv_at hl 0 rfl) ?_
     refine v_iload_n dL_law_27 rfl (lv_at hl 3 rfl) ?_
     refine v_sld dL_law_28 h (fun v6 h => ?_)
     refine v_bipush (31 : Int32) dL_law_29 (by decide) ?_
     refine v_iand dL_law_31 ?_
     refine v_nmI h (fun v7 h => ?_)
     refine v_tswc (0 : Int32) 176 dL_law_32 (by decide) (by decide) (by rfl) (by decide) h (fun h => ?_) (fun h0 h => ?_)
     · refine v_aload_n dL_law_176 rfl (lv_at hl 1 rfl) ?_
       refine v_aload_n dL_law_177 rfl (lv_at hl 0 rfl) ?_
       refine v_iload_n dL_law_178 rfl (lv_at hl 3 rfl) ?_
       refine v_iconst (1 : Int32) dL_law_179 (by decide) ?_
       refine v_iadd dL_law_180 ?_
       refine v_sld dL_law_181 h (fun v196 h => ?_)
       refine v_aload_n dL_law_182 rfl (lv_at hl 0 rfl) ?_
       refine v_iload_n dL_law_183 rfl (lv_at hl 3 rfl) ?_
       refine v_iconst (2 : Int32) dL_law_184 (by decide) ?_
       refine v_iadd dL_law_185 ?_
       refine v_sld dL_law_186 h (fun v197 h => ?_)
       refine k_X8_flag h qmL_13 (by decide) hl.1 (Nat.le_of_ble_eq_true rfl) dL_law_187 (fun v198 s h => ?_)
       refine v_aload_n dL_law_190 rfl (lv_at hl 2 rfl) ?_
       refine v_aload_n dL_law_191 rfl (lv_at hl 0 rfl) ?_
       refine v_iload_n dL_law_192 rfl (lv_at hl 3 rfl) ?_
       refine v_iconst (1 : Int32) dL_law_193 (by decide) ?_
       refine v_iadd dL_law_194 ?_
       refine v_sld dL_law_195 h (fun v199 h => ?_)
       refine v_aload_n dL_law_196 rfl (lv_at hl 0 rfl) ?_
       refine v_iload_n dL_law_197 rfl (lv_at hl 3 rfl) ?_
       refine v_iconst (2 : Int32) dL_law_198 (by decide) ?_
       refine v_iadd dL_law_199 ?_
       refine v_sld dL_law_200 h (fun v200 h => ?_)
       refine k_X9_flag h qmL_17 (by decide) hl.1 (Nat.le_of_ble_eq_true rfl) dL_law_201 (fun v201 s h => ?_)
       refine v_icmp_eq 1251 dL_law_204 (by decide) h (fun h => ?_) (fun h => ?_)
       · exact L_L_law_1251 N (H_L_law_18 N L xss n) ih a1 a2 l3 s ls (lv_sub hl [0, 1, 2, 3] rfl) h
       · refine v_iconst (0 : Int32) dL_law_207 (by decide) ?_
         exact v_lawret dL_law_208 h
     · refine v_tswc (1 : Int32) 209 dL_law_32 (by decide) (by decide) (by rfl) (by decide) h (fun h => ?_) (fun h1 h => ?_)
       · refine v_aload_n dL_law_209 rfl (lv_at hl 1 rfl) ?_
         refine v_aload_n dL_law_210 rfl (lv_at hl 0 rfl) ?_
         refine v_iload_n dL_law_211 rfl (lv_at hl 3 rfl) ?_
         refine v_iconst (1 : Int32) dL_law_212 (by decide) ?_
         refine v_iadd dL_law_213 ?_
         refine v_sld dL_law_214 h (fun v190 h => ?_)
         refine v_aload_n dL_law_215 rfl (lv_at hl 0 rfl) ?_
         refine v_iload_n dL_law_216 rfl (lv_at hl 3 rfl) ?_
         refine v_iconst (2 : Int32) dL_law_217 (by decide) ?_
         refine v_iadd dL_law_218 ?_
         refine v_sld dL_law_219 h (fun v191 h => ?_)
         refine k_X8_rooted h qmL_18 (by decide) hl.1 (Nat.le_of_ble_eq_true rfl) dL_law_220 (fun v192 s h => ?_)
         refine v_aload_n dL_law_223 rfl (lv_at hl 2 rfl) ?_
         refine v_aload_n dL_law_224 rfl (lv_at hl 0 rfl) ?_
         refine v_iload_n dL_law_225 rfl (lv_at hl 3 rfl) ?_
         refine v_iconst (1 : Int32) dL_law_226 (by decide) ?_
         refine v_iadd dL_law_227 ?_
         refine v_sld dL_law_228 h (fun v193 h => ?_)
         refine v_aload_n dL_law_229 rfl (lv_at hl 0 rfl) ?_
         refine v_iload_n dL_law_230 rfl (lv_at hl 3 rfl) ?_
         refine v_iconst (2 : Int32) dL_law_231 (by decide) ?_
         refine v_iadd dL_law_232 ?_
         refine v_sld dL_law_233 h (fun v194 h => ?_)
         refine k_X9_rooted h qmL_21 (by decide) hl.1 (Nat.le_of_ble_eq_true rfl) dL_law_234 (fun v195 s h => ?_)
         refine v_icmp_eq 1251 dL_law_237 (by decide) h (fun h => ?_) (fun h => ?_)
         · exact L_L_law_1251 N (H_L_law_18 N L xss n) ih a1 a2 l3 s ls (lv_sub hl [0, 1, 2, 3] rfl) h
         · refine v_iconst (0 : Int32) dL_law_240 (by decide) ?_
           exact v_lawret dL_law_241 h
       · refine v_tswc (2 : Int32) 242 dL_law_32 (by decide) (by decide) (by rfl) (by decide) h (fun h => ?_) (fun h2 h => ?_)
         · refine v_aload_n dL_law_242 rfl (lv_at hl 1 rfl) ?_
           refine v_aload_n dL_law_243 rfl (lv_at hl 0 rfl) ?_
           refine v_iload_n dL_law_244 rfl (lv_at hl 3 rfl) ?_
           refine v_iconst (1 : Int32) dL_law_245 (by decide) ?_
           refine v_iadd dL_law_246 ?_
           refine v_sld dL_law_247 h (fun v182 h => ?_)
           refine v_aload_n dL_law_248 rfl (lv_at hl 0 rfl) ?_
           refine v_iload_n dL_law_249 rfl (lv_at hl 3 rfl) ?_
           refine v_iconst (2 : Int32) dL_law_250 (by decide) ?_
           refine v_iadd dL_law_251 ?_
           refine v_sld dL_law_252 h (fun v183 h => ?_)
           refine v_aload_n dL_law_253 rfl (lv_at hl 0 rfl) ?_
           refine v_iload_n dL_law_254 rfl (lv_at hl 3 rfl) ?_
           refine v_iconst (3 : Int32) dL_law_255 (by decide) ?_
           refine v_iadd dL_law_256 ?_
           refine v_sld dL_law_257 h (fun v184 h => ?_)
           refine k_X8_alike h qmL_22 (by decide) hl.1 (Nat.le_of_ble_eq_true rfl) dL_law_258 (fun v185 s h => ?_)
           refine v_aload_n dL_law_261 rfl (lv_at hl 2 rfl) ?_
           refine v_aload_n dL_law_262 rfl (lv_at hl 0 rfl) ?_
           refine v_iload_n dL_law_263 rfl (lv_at hl 3 rfl) ?_
           refine v_iconst (1 : Int32) dL_law_264 (by decide) ?_
           refine v_iadd dL_law_265 ?_
           refine v_sld dL_law_266 h (fun v186 h => ?_)
           refine v_aload_n dL_law_267 rfl (lv_at hl 0 rfl) ?_
           refine v_iload_n dL_law_268 rfl (lv_at hl 3 rfl) ?_
           refine v_iconst (2 : Int32) dL_law_269 (by decide) ?_
           refine v_iadd dL_law_270 ?_
           refine v_sld dL_law_271 h (fun v187 h => ?_)
           refine v_aload_n dL_law_272 rfl (lv_at hl 0 rfl) ?_
           refine v_iload_n dL_law_273 rfl (lv_at hl 3 rfl) ?_
           refine v_iconst (3 : Int32) dL_law_274 (by decide) ?_
           refine v_iadd dL_law_275 ?_
           refine v_sld dL_law_276 h (fun v188 h => ?_)
           refine k_X9_alike h qmL_26 (by decide) hl.1 (Nat.le_of_ble_eq_true rfl) dL_law_277 (fun v189 s h => ?_)
           refine v_icmp_eq 1251 dL_law_280 (by decide) h (fun h => ?_) (fun h => ?_)
           · exact L_L_law_1251 N (H_L_law_18 N L xss n) ih a1 a2 l3 s ls (lv_sub hl [0, 1, 2, 3] rfl) h
           · refine v_iconst (0 : Int32) dL_law_283 (by decide) ?_
             exact v_lawret dL_law_284 h
         · refine v_tswc (3 : Int32) 285 dL_law_32 (by decide) (by decide) (by rfl) (by decide) h (fun h => ?_) (fun h3 h => ?_)
           · refine v_aload_n dL_law_285 rfl (lv_at hl 1 rfl) ?_
             refine v_aload_n dL_law_286 rfl (lv_at hl 0 rfl) ?_
             refine v_iload_n dL_law_287 rfl (lv_at hl 3 rfl) ?_
             refine v_iconst (1 : Int32) dL_law_288 (by decide) ?_
             refine v_iadd dL_law_289 ?_
             refine v_sld dL_law_290 h (fun v174 h => ?_)
             refine v_aload_n dL_law_291 rfl (lv_at hl 0 rfl) ?_
             refine v_iload_n dL_law_292 rfl (lv_at hl 3 rfl) ?_
             refine v_iconst (2 : Int32) dL_law_293 (by decide) ?_
             refine v_iadd dL_law_294 ?_
             refine v_sld dL_law_295 h (fun v175 h => ?_)
             refine v_aload_n dL_law_296 rfl (lv_at hl 0 rfl) ?_
             refine v_iload_n dL_law_297 rfl (lv_at hl 3 rfl) ?_
             refine v_iconst (3 : Int32) dL_law_298 (by decide) ?_
             refine v_iadd dL_law_299 ?_
             refine v_sld dL_law_300 h (fun v176 h => ?_)
             refine k_X8_inside h qmL_27 (by decide) hl.1 (Nat.le_of_ble_eq_true rfl) dL_law_301 (fun v177 s h => ?_)
             refine v_aload_n dL_law_304 rfl (lv_at hl 2 rfl) ?_
             refine v_aload_n dL_law_305 rfl (lv_at hl 0 rfl) ?_
             refine v_iload_n dL_law_306 rfl (lv_at hl 3 rfl) ?_
             refine v_iconst (1 : Int32) dL_law_307 (by decide) ?_
             refine v_iadd dL_law_308 ?_
             refine v_sld dL_law_309 h (fun v178 h => ?_)
             refine v_aload_n dL_law_310 rfl (lv_at hl 0 rfl) ?_
             refine v_iload_n dL_law_311 rfl (lv_at hl 3 rfl) ?_
             refine v_iconst (2 : Int32) dL_law_312 (by decide) ?_
             refine v_iadd dL_law_313 ?_
             refine v_sld dL_law_314 h (fun v179 h => ?_)
             refine v_aload_n dL_law_315 rfl (lv_at hl 0 rfl) ?_
             refine v_iload_n dL_law_316 rfl (lv_at hl 3 rfl) ?_
             refine v_iconst (3 : Int32) dL_law_317 (by decide) ?_
             refine v_iadd dL_law_318 ?_
             refine v_sld dL_law_319 h (fun v180 h => ?_)
             refine k_X9_inside h qmL_31 (by decide) hl.1 (Nat.le_of_ble_eq_true rfl) dL_law_320 (fun v181 s h => ?_)
             refine v_lcmp dL_law_323 ?_
             refine v_if_eq 1251 dL_law_324 (by decide) h (fun h => ?_) (fun h => ?_)
             · exact L_L_law_1251 N (H_L_law_18 N L xss n) ih a1 a2 l3 s ls (lv_sub hl [0, 1, 2, 3] rfl) h
             · refine v_iconst (0 : Int32) dL_law_327 (by decide) ?_
               exact v_lawret dL_law_328 h
           · refine v_tswc (4 : Int32) 329 dL_law_32 (by decide) (by decide) (by rfl) (by decide) h (fun h => ?_) (fun h4 h => ?_)
             · refine v_aload_n dL_law_329 rfl (lv_at hl 1 rfl) ?_
               refine v_aload_n dL_law_330 rfl (lv_at hl 0 rfl) ?_
               refine v_iload_n dL_law_331 rfl (lv_at hl 3 rfl) ?_
               refine v_iconst (1 : Int32) dL_law_332 (by decide) ?_
               refine v_iadd dL_law_333 ?_
               refine v_sld dL_law_334 h (fun v164 h => ?_)
               refine v_aload_n dL_law_335 rfl (lv_at hl 0 rfl) ?_
               refine v_iload_n dL_law_336 rfl (lv_at hl 3 rfl) ?_
               refine v_iconst (2 : Int32) dL_law_337 (by decide) ?_
               refine v_iadd dL_law_338 ?_
               refine v_sld dL_law_339 h (fun v165 h => ?_)
               refine v_aload_n dL_law_340 rfl (lv_at hl 0 rfl) ?_
               refine v_iload_n dL_law_341 rfl (lv_at hl 3 rfl) ?_
               refine v_iconst (3 : Int32) dL_law_342 (by decide) ?_
               refine v_iadd dL_law_343 ?_
               refine v_sld dL_law_344 h (fun v166 h => ?_)
               refine v_aload_n dL_law_345 rfl (lv_at hl 0 rfl) ?_
               refine v_iload_n dL_law_346 rfl (lv_at hl 3 rfl) ?_
               refine v_iconst (4 : Int32) dL_law_347 (by decide) ?_
               refine v_iadd dL_law_348 ?_
               refine v_sld dL_law_349 h (fun v167 h => ?_)
               refine k_X8_joint h qmL_32 (by decide) hl.1 (Nat.le_of_ble_eq_true rfl) dL_law_350 (fun v168 s h => ?_)
               refine v_aload_n dL_law_353 rfl (lv_at hl 2 rfl) ?_
               refine v_aload_n dL_law_354 rfl (lv_at hl 0 rfl) ?_
               refine v_iload_n dL_law_355 rfl (lv_at hl 3 rfl) ?_
               refine v_iconst (1 : Int32) dL_law_356 (by decide) ?_
               refine v_iadd dL_law_357 ?_
               refine v_sld dL_law_358 h (fun v169 h => ?_)
               refine v_aload_n dL_law_359 rfl (lv_at hl 0 rfl) ?_
               refine v_iload_n dL_law_360 rfl (lv_at hl 3 rfl) ?_
               refine v_iconst (2 : Int32) dL_law_361 (by decide) ?_
               refine v_iadd dL_law_362 ?_
               refine v_sld dL_law_363 h (fun v170 h => ?_)
               refine v_aload_n dL_law_364 rfl (lv_at hl 0 rfl) ?_
               refine v_iload_n dL_law_365 rfl (lv_at hl 3 rfl) ?_
               refine v_iconst (3 : Int32) dL_law_366 (by decide) ?_
               refine v_iadd dL_law_367 ?_
               refine v_sld dL_law_368 h (fun v171 h => ?_)
               refine v_aload_n dL_law_369 rfl (lv_at hl 0 rfl) ?_
               refine v_iload_n dL_law_370 rfl (lv_at hl 3 rfl) ?_
               refine v_iconst (4 : Int32) dL_law_371 (by decide) ?_
               refine v_iadd dL_law_372 ?_
               refine v_sld dL_law_373 h (fun v172 h => ?_)
               refine k_X9_joint h qmL_36 (by decide) hl.1 (Nat.le_of_ble_eq_true rfl) dL_law_374 (fun v173 s h => ?_)
               refine v_lcmp dL_law_377 ?_
               refine v_if_eq 1251 dL_law_378 (by decide) h (fun h => ?_) (fun h => ?_)
               · exact L_L_law_1251 N (H_L_law_18 N L xss n) ih a1 a2 l3 s ls (lv_sub hl [0, 1, 2, 3] rfl) h
               · refine v_iconst (0 : Int32) dL_law_381 (by decide) ?_
                 exact v_lawret dL_law_382 h
             · refine v_tswc (5 : Int32) 383 dL_law_32 (by decide) (by decide) (by rfl) (by decide) h (fun h => ?_) (fun h5 h => ?_)
               · refine v_aload_n dL_law_383 rfl (lv_at hl 1 rfl) ?_
                 refine v_aload_n dL_law_384 rfl (lv_at hl 0 rfl) ?_
                 refine v_iload_n dL_law_385 rfl (lv_at hl 3 rfl) ?_
                 refine v_iconst (1 : Int32) dL_law_386 (by decide) ?_
                 refine v_iadd dL_law_387 ?_
                 refine v_sld dL_law_388 h (fun v154 h => ?_)
                 refine v_aload_n dL_law_389 rfl (lv_at hl 0 rfl) ?_
                 refine v_iload_n dL_law_390 rfl (lv_at hl 3 rfl) ?_
                 refine v_iconst (2 : Int32) dL_law_391 (by decide) ?_
                 refine v_iadd dL_law_392 ?_
                 refine v_sld dL_law_393 h (fun v155 h => ?_)
                 refine v_aload_n dL_law_394 rfl (lv_at hl 0 rfl) ?_
                 refine v_iload_n dL_law_395 rfl (lv_at hl 3 rfl) ?_
                 refine v_iconst (3 : Int32) dL_law_396 (by decide) ?_
                 refine v_iadd dL_law_397 ?_
                 refine v_sld dL_law_398 h (fun v156 h => ?_)
                 refine v_aload_n dL_law_399 rfl (lv_at hl 0 rfl) ?_
                 refine v_iload_n dL_law_400 rfl (lv_at hl 3 rfl) ?_
                 refine v_iconst (4 : Int32) dL_law_401 (by decide) ?_
                 refine v_iadd dL_law_402 ?_
                 refine v_sld dL_law_403 h (fun v157 h => ?_)
                 refine k_X8_jointRooted h qmL_37 (by decide) hl.1 (Nat.le_of_ble_eq_true rfl) dL_law_404 (fun v158 s h => ?_)
                 refine v_aload_n dL_law_407 rfl (lv_at hl 2 rfl) ?_
                 refine v_aload_n dL_law_408 rfl (lv_at hl 0 rfl) ?_
                 refine v_iload_n dL_law_409 rfl (lv_at hl 3 rfl) ?_
                 refine v_iconst (1 : Int32) dL_law_410 (by decide) ?_
                 refine v_iadd dL_law_411 ?_
                 refine v_sld dL_law_412 h (fun v159 h => ?_)
                 refine v_aload_n dL_law_413 rfl (lv_at hl 0 rfl) ?_
                 refine v_iload_n dL_law_414 rfl (lv_at hl 3 rfl) ?_
                 refine v_iconst (2 : Int32) dL_law_415 (by decide) ?_
                 refine v_iadd dL_law_416 ?_
                 refine v_sld dL_law_417 h (fun v160 h => ?_)
                 refine v_aload_n dL_law_418 rfl (lv_at hl 0 rfl) ?_
                 refine v_iload_n dL_law_419 rfl (lv_at hl 3 rfl) ?_
                 refine v_iconst (3 : Int32) dL_law_420 (by decide) ?_
                 refine v_iadd dL_law_421 ?_
                 refine v_sld dL_law_422 h (fun v161 h => ?_)
                 refine v_aload_n dL_law_423 rfl (lv_at hl 0 rfl) ?_
                 refine v_iload_n dL_law_424 rfl (lv_at hl 3 rfl) ?_
                 refine v_iconst (4 : Int32) dL_law_425 (by decide) ?_
                 refine v_iadd dL_law_426 ?_
                 refine v_sld dL_law_427 h (fun v162 h => ?_)
                 refine k_X9_jointRooted h qmL_40 (by decide) hl.1 (Nat.le_of_ble_eq_true rfl) dL_law_428 (fun v163 s h => ?_)
                 refine v_lcmp dL_law_431 ?_
                 refine v_if_eq 1251 dL_law_432 (by decide) h (fun h => ?_) (fun h => ?_)
                 · exact L_L_law_1251 N (H_L_law_18 N L xss n) ih a1 a2 l3 s ls (lv_sub hl [0, 1, 2, 3] rfl) h
                 · refine v_iconst (0 : Int32) dL_law_435 (by decide) ?_
                   exact v_lawret dL_law_436 h
               · refine v_tswc (6 : Int32) 437 dL_law_32 (by decide) (by decide) (by rfl) (by decide) h (fun h => ?_) (fun h6 h => ?_)
                 · refine v_aload_n dL_law_437 rfl (lv_at hl 1 rfl) ?_
                   refine v_aload_n dL_law_438 rfl (lv_at hl 0 rfl) ?_
                   refine v_iload_n dL_law_439 rfl (lv_at hl 3 rfl) ?_
                   refine v_iconst (1 : Int32) dL_law_440 (by decide) ?_
                   refine v_iadd dL_law_441 ?_
                   refine v_sld dL_law_442 h (fun v150 h => ?_)
                   refine k_X8_points h qmL_41 (by decide) hl.1 (Nat.le_of_ble_eq_true rfl) dL_law_443 (fun v151 s h => ?_)
                   refine v_aload_n dL_law_446 rfl (lv_at hl 2 rfl) ?_
                   refine v_aload_n dL_law_447 rfl (lv_at hl 0 rfl) ?_
                   refine v_iload_n dL_law_448 rfl (lv_at hl 3 rfl) ?_
                   refine v_iconst (1 : Int32) dL_law_449 (by decide) ?_
                   refine v_iadd dL_law_450 ?_
                   refine v_sld dL_law_451 h (fun v152 h => ?_)
                   refine k_X9_points h qmL_45 (by decide) hl.1 (Nat.le_of_ble_eq_true rfl) dL_law_452 (fun v153 s h => ?_)
                   refine v_icmp_eq 1251 dL_law_455 (by decide) h (fun h => ?_) (fun h => ?_)
                   · exact L_L_law_1251 N (H_L_law_18 N L xss n) ih a1 a2 l3 s ls (lv_sub hl [0, 1, 2, 3] rfl) h
                   · refine v_iconst (0 : Int32) dL_law_458 (by decide) ?_
                     exact v_lawret dL_law_459 h
                 · refine v_tswc (7 : Int32) 460 dL_law_32 (by decide) (by decide) (by rfl) (by decide) h (fun h => ?_) (fun h7 h => ?_)
                   · refine v_aload_n dL_law_460 rfl (lv_at hl 1 rfl) ?_
                     refine v_aload_n dL_law_461 rfl (lv_at hl 0 rfl) ?_
                     refine v_iload_n dL_law_462 rfl (lv_at hl 3 rfl) ?_
                     refine v_iconst (1 : Int32) dL_law_463 (by decide) ?_
                     refine v_iadd dL_law_464 ?_
                     refine v_sld dL_law_465 h (fun v142 h => ?_)
                     refine v_aload_n dL_law_466 rfl (lv_at hl 0 rfl) ?_
                     refine v_iload_n dL_law_467 rfl (lv_at hl 3 rfl) ?_
                     refine v_iconst (2 : Int32) dL_law_468 (by decide) ?_
                     refine v_iadd dL_law_469 ?_
                     refine v_sld dL_law_470 h (fun v143 h => ?_)
                     refine v_aload_n dL_law_471 rfl (lv_at hl 0 rfl) ?_
                     refine v_iload_n dL_law_472 rfl (lv_at hl 3 rfl) ?_
                     refine v_iconst (3 : Int32) dL_law_473 (by decide) ?_
                     refine v_iadd dL_law_474 ?_
                     refine v_sld dL_law_475 h (fun v144 h => ?_)
                     refine k_X8_line h qmL_46 (by decide) hl.1 (Nat.le_of_ble_eq_true rfl) dL_law_476 (fun v145 s h => ?_)
                     refine v_aload_n dL_law_479 rfl (lv_at hl 2 rfl) ?_
                     refine v_aload_n dL_law_480 rfl (lv_at hl 0 rfl) ?_
                     refine v_iload_n dL_law_481 rfl (lv_at hl 3 rfl) ?_
                     refine v_iconst (1 : Int32) dL_law_482 (by decide) ?_
                     refine v_iadd dL_law_483 ?_
                     refine v_sld dL_law_484 h (fun v146 h => ?_)
                     refine v_aload_n dL_law_485 rfl (lv_at hl 0 rfl) ?_
                     refine v_iload_n dL_law_486 rfl (lv_at hl 3 rfl) ?_
                     refine v_iconst (2 : Int32) dL_law_487 (by decide) ?_
                     refine v_iadd dL_law_488 ?_
                     refine v_sld dL_law_489 h (fun v147 h => ?_)
                     refine v_aload_n dL_law_490 rfl (lv_at hl 0 rfl) ?_
                     refine v_iload_n dL_law_491 rfl (lv_at hl 3 rfl) ?_
                     refine v_iconst (3 : Int32) dL_law_492 (by decide) ?_
                     refine v_iadd dL_law_493 ?_
                     refine v_sld dL_law_494 h (fun v148 h => ?_)
                     refine k_X9_line h qmL_49 (by decide) hl.1 (Nat.le_of_ble_eq_true rfl) dL_law_495 (fun v149 s h => ?_)
                     refine v_icmp_eq 1251 dL_law_498 (by decide) h (fun h => ?_) (fun h => ?_)
                     · exact L_L_law_1251 N (H_L_law_18 N L xss n) ih a1 a2 l3 s ls (lv_sub hl [0, 1, 2, 3] rfl) h
                     · refine v_iconst (0 : Int32) dL_law_501 (by decide) ?_
                       exact v_lawret dL_law_502 h
                   · refine v_tswc (8 : Int32) 503 dL_law_32 (by decide) (by decide) (by rfl) (by decide) h (fun h => ?_) (fun h8 h => ?_)
                     · refine v_aload_n dL_law_503 rfl (lv_at hl 1 rfl) ?_
                       refine v_aload_n dL_law_504 rfl (lv_at hl 0 rfl) ?_
                       refine v_iload_n dL_law_505 rfl (lv_at hl 3 rfl) ?_
                       refine v_iconst (1 : Int32) dL_law_506 (by decide) ?_
                       refine v_iadd dL_law_507 ?_
                       refine v_sld dL_law_508 h (fun v138 h => ?_)
                       refine k_X8_told h qmL_50 (by decide) hl.1 (Nat.le_of_ble_eq_true rfl) dL_law_509 (fun v139 s h => ?_)
                       refine v_aload_n dL_law_512 rfl (lv_at hl 2 rfl) ?_
                       refine v_aload_n dL_law_513 rfl (lv_at hl 0 rfl) ?_
                       refine v_iload_n dL_law_514 rfl (lv_at hl 3 rfl) ?_
                       refine v_iconst (1 : Int32) dL_law_515 (by decide) ?_
                       refine v_iadd dL_law_516 ?_
                       refine v_sld dL_law_517 h (fun v140 h => ?_)
                       refine k_X9_told h qmL_53 (by decide) hl.1 (Nat.le_of_ble_eq_true rfl) dL_law_518 (fun v141 s h => ?_)
                       refine v_icmp_eq 1251 dL_law_521 (by decide) h (fun h => ?_) (fun h => ?_)
                       · exact L_L_law_1251 N (H_L_law_18 N L xss n) ih a1 a2 l3 s ls (lv_sub hl [0, 1, 2, 3] rfl) h
                       · refine v_iconst (0 : Int32) dL_law_524 (by decide) ?_
                         exact v_lawret dL_law_525 h
                     · refine v_tswc (9 : Int32) 526 dL_law_32 (by decide) (by decide) (by rfl) (by decide) h (fun h => ?_) (fun h9 h => ?_)
                       · refine v_aload_n dL_law_526 rfl (lv_at hl 1 rfl) ?_
                         refine v_aload_n dL_law_527 rfl (lv_at hl 0 rfl) ?_
                         refine v_iload_n dL_law_528 rfl (lv_at hl 3 rfl) ?_
                         refine v_iconst (1 : Int32) dL_law_529 (by decide) ?_
                         refine v_iadd dL_law_530 ?_
                         refine v_sld dL_law_531 h (fun v134 h => ?_)
                         refine k_X8_beside h qmL_54 (by decide) hl.1 (Nat.le_of_ble_eq_true rfl) dL_law_532 (fun v135 s h => ?_)
                         refine v_aload_n dL_law_535 rfl (lv_at hl 2 rfl) ?_
                         refine v_aload_n dL_law_536 rfl (lv_at hl 0 rfl) ?_
                         refine v_iload_n dL_law_537 rfl (lv_at hl 3 rfl) ?_
                         refine v_iconst (1 : Int32) dL_law_538 (by decide) ?_
                         refine v_iadd dL_law_539 ?_
                         refine v_sld dL_law_540 h (fun v136 h => ?_)
                         refine k_X9_beside h qmL_57 (by decide) hl.1 (Nat.le_of_ble_eq_true rfl) dL_law_541 (fun v137 s h => ?_)
                         refine v_icmp_eq 1251 dL_law_544 (by decide) h (fun h => ?_) (fun h => ?_)
                         · exact L_L_law_1251 N (H_L_law_18 N L xss n) ih a1 a2 l3 s ls (lv_sub hl [0, 1, 2, 3] rfl) h
                         · refine v_iconst (0 : Int32) dL_law_547 (by decide) ?_
                           exact v_lawret dL_law_548 h
                       · refine v_tswc (10 : Int32) 549 dL_law_32 (by decide) (by decide) (by rfl) (by decide) h (fun h => ?_) (fun h10 h => ?_)
                         · refine v_aload_n dL_law_549 rfl (lv_at hl 1 rfl) ?_
                           refine v_aload_n dL_law_550 rfl (lv_at hl 0 rfl) ?_
                           refine v_iload_n dL_law_551 rfl (lv_at hl 3 rfl) ?_
                           refine v_iconst (1 : Int32) dL_law_552 (by decide) ?_
                           refine v_iadd dL_law_553 ?_
                           refine v_sld dL_law_554 h (fun v128 h => ?_)
                           refine v_aload_n dL_law_555 rfl (lv_at hl 0 rfl) ?_
                           refine v_iload_n dL_law_556 rfl (lv_at hl 3 rfl) ?_
                           refine v_iconst (2 : Int32) dL_law_557 (by decide) ?_
                           refine v_iadd dL_law_558 ?_
                           refine v_sld dL_law_559 h (fun v129 h => ?_)
                           refine k_X8_share h qmL_58 (by decide) hl.1 (Nat.le_of_ble_eq_true rfl) dL_law_560 (fun v130 s h => ?_)
                           refine v_aload_n dL_law_563 rfl (lv_at hl 2 rfl) ?_
                           refine v_aload_n dL_law_564 rfl (lv_at hl 0 rfl) ?_
                           refine v_iload_n dL_law_565 rfl (lv_at hl 3 rfl) ?_
                           refine v_iconst (1 : Int32) dL_law_566 (by decide) ?_
                           refine v_iadd dL_law_567 ?_
                           refine v_sld dL_law_568 h (fun v131 h => ?_)
                           refine v_aload_n dL_law_569 rfl (lv_at hl 0 rfl) ?_
                           refine v_iload_n dL_law_570 rfl (lv_at hl 3 rfl) ?_
                           refine v_iconst (2 : Int32) dL_law_571 (by decide) ?_
                           refine v_iadd dL_law_572 ?_
                           refine v_sld dL_law_573 h (fun v132 h => ?_)
                           refine k_X9_share h qmL_62 (by decide) hl.1 (Nat.le_of_ble_eq_true rfl) dL_law_574 (fun v133 s h => ?_)
                           refine v_lcmp dL_law_577 ?_
                           refine v_if_eq 1251 dL_law_578 (by decide) h (fun h => ?_) (fun h => ?_)
                           · exact L_L_law_1251 N (H_L_law_18 N L xss n) ih a1 a2 l3 s ls (lv_sub hl [0, 1, 2, 3] rfl) h
                           · refine v_iconst (0 : Int32) dL_law_581 (by decide) ?_
                             exact v_lawret dL_law_582 h
                         · refine v_tswc (11 : Int32) 583 dL_law_32 (by decide) (by decide) (by rfl) (by decide) h (fun h => ?_) (fun h11 h => ?_)
                           · refine v_aload_n dL_law_583 rfl (lv_at hl 1 rfl) ?_
                             refine v_aload_n dL_law_584 rfl (lv_at hl 0 rfl) ?_
                             refine v_iload_n dL_law_585 rfl (lv_at hl 3 rfl) ?_
                             refine v_iconst (1 : Int32) dL_law_586 (by decide) ?_
                             refine v_iadd dL_law_587 ?_
                             refine v_sld dL_law_588 h (fun v120 h => ?_)
                             refine v_aload_n dL_law_589 rfl (lv_at hl 0 rfl) ?_
                             refine v_iload_n dL_law_590 rfl (lv_at hl 3 rfl) ?_
                             refine v_iconst (2 : Int32) dL_law_591 (by decide) ?_
                             refine v_iadd dL_law_592 ?_
                             refine v_sld dL_law_593 h (fun v121 h => ?_)
                             refine v_aload_n dL_law_594 rfl (lv_at hl 0 rfl) ?_
                             refine v_iload_n dL_law_595 rfl (lv_at hl 3 rfl) ?_
                             refine v_iconst (3 : Int32) dL_law_596 (by decide) ?_
                             refine v_iadd dL_law_597 ?_
                             refine v_sld dL_law_598 h (fun v122 h => ?_)
                             refine k_X8_shareAt h qmL_63 (by decide) hl.1 (Nat.le_of_ble_eq_true rfl) dL_law_599 (fun v123 s h => ?_)
                             refine v_aload_n dL_law_602 rfl (lv_at hl 2 rfl) ?_
                             refine v_aload_n dL_law_603 rfl (lv_at hl 0 rfl) ?_
                             refine v_iload_n dL_law_604 rfl (lv_at hl 3 rfl) ?_
                             refine v_iconst (1 : Int32) dL_law_605 (by decide) ?_
                             refine v_iadd dL_law_606 ?_
                             refine v_sld dL_law_607 h (fun v124 h => ?_)
                             refine v_aload_n dL_law_608 rfl (lv_at hl 0 rfl) ?_
                             refine v_iload_n dL_law_609 rfl (lv_at hl 3 rfl) ?_
                             refine v_iconst (2 : Int32) dL_law_610 (by decide) ?_
                             refine v_iadd dL_law_611 ?_
                             refine v_sld dL_law_612 h (fun v125 h => ?_)
                             refine v_aload_n dL_law_613 rfl (lv_at hl 0 rfl) ?_
                             refine v_iload_n dL_law_614 rfl (lv_at hl 3 rfl) ?_
                             refine v_iconst (3 : Int32) dL_law_615 (by decide) ?_
                             refine v_iadd dL_law_616 ?_
                             refine v_sld dL_law_617 h (fun v126 h => ?_)
                             refine k_X9_shareAt h qmL_66 (by decide) hl.1 (Nat.le_of_ble_eq_true rfl) dL_law_618 (fun v127 s h => ?_)
                             refine v_lcmp dL_law_621 ?_
                             refine v_if_eq 1251 dL_law_622 (by decide) h (fun h => ?_) (fun h => ?_)
                             · exact L_L_law_1251 N (H_L_law_18 N L xss n) ih a1 a2 l3 s ls (lv_sub hl [0, 1, 2, 3] rfl) h
                             · refine v_iconst (0 : Int32) dL_law_625 (by decide) ?_
                               exact v_lawret dL_law_626 h
                           · refine v_tswc (12 : Int32) 627 dL_law_32 (by decide) (by decide) (by rfl) (by decide) h (fun h => ?_) (fun h12 h => ?_)
                             · refine v_aload_n dL_law_627 rfl (lv_at hl 1 rfl) ?_
                               refine v_aload_n dL_law_628 rfl (lv_at hl 0 rfl) ?_
                               refine v_iload_n dL_law_629 rfl (lv_at hl 3 rfl) ?_
                               refine v_iconst (1 : Int32) dL_law_630 (by decide) ?_
                               refine v_iadd dL_law_631 ?_
                               refine v_sld dL_law_632 h (fun v116 h => ?_)
                               refine k_X8_maps h qmL_67 (by decide) hl.1 (Nat.le_of_ble_eq_true rfl) dL_law_633 (fun v117 s h => ?_)
                               refine v_aload_n dL_law_636 rfl (lv_at hl 2 rfl) ?_
                               refine v_aload_n dL_law_637 rfl (lv_at hl 0 rfl) ?_
                               refine v_iload_n dL_law_638 rfl (lv_at hl 3 rfl) ?_
                               refine v_iconst (1 : Int32) dL_law_639 (by decide) ?_
                               refine v_iadd dL_law_640 ?_
                               refine v_sld dL_law_641 h (fun v118 h => ?_)
                               refine k_X9_maps h qmL_70 (by decide) hl.1 (Nat.le_of_ble_eq_true rfl) dL_law_642 (fun v119 s h => ?_)
                               refine v_icmp_eq 1251 dL_law_645 (by decide) h (fun h => ?_) (fun h => ?_)
                               · exact L_L_law_1251 N (H_L_law_18 N L xss n) ih a1 a2 l3 s ls (lv_sub hl [0, 1, 2, 3] rfl) h
                               · refine v_iconst (0 : Int32) dL_law_648 (by decide) ?_
                                 exact v_lawret dL_law_649 h
                             · refine v_tswc (13 : Int32) 650 dL_law_32 (by decide) (by decide) (by rfl) (by decide) h (fun h => ?_) (fun h13 h => ?_)
                               · refine v_aload_n dL_law_650 rfl (lv_at hl 1 rfl) ?_
                                 refine v_aload_n dL_law_651 rfl (lv_at hl 0 rfl) ?_
                                 refine v_iload_n dL_law_652 rfl (lv_at hl 3 rfl) ?_
                                 refine v_iconst (1 : Int32) dL_law_653 (by decide) ?_
                                 refine v_iadd dL_law_654 ?_
                                 refine v_sld dL_law_655 h (fun v110 h => ?_)
                                 refine v_aload_n dL_law_656 rfl (lv_at hl 0 rfl) ?_
                                 refine v_iload_n dL_law_657 rfl (lv_at hl 3 rfl) ?_
                                 refine v_iconst (2 : Int32) dL_law_658 (by decide) ?_
                                 refine v_iadd dL_law_659 ?_
                                 refine v_sld dL_law_660 h (fun v111 h => ?_)
                                 refine k_X8_rank h qmL_71 (by decide) hl.1 (Nat.le_of_ble_eq_true rfl) dL_law_661 (fun v112 s h => ?_)
                                 refine v_aload_n dL_law_664 rfl (lv_at hl 2 rfl) ?_
                                 refine v_aload_n dL_law_665 rfl (lv_at hl 0 rfl) ?_
                                 refine v_iload_n dL_law_666 rfl (lv_at hl 3 rfl) ?_
                                 refine v_iconst (1 : Int32) dL_law_667 (by decide) ?_
                                 refine v_iadd dL_law_668 ?_
                                 refine v_sld dL_law_669 h (fun v113 h => ?_)
                                 refine v_aload_n dL_law_670 rfl (lv_at hl 0 rfl) ?_
                                 refine v_iload_n dL_law_671 rfl (lv_at hl 3 rfl) ?_
                                 refine v_iconst (2 : Int32) dL_law_672 (by decide) ?_
                                 refine v_iadd dL_law_673 ?_
                                 refine v_sld dL_law_674 h (fun v114 h => ?_)
                                 refine k_X9_rank h qmL_74 (by decide) hl.1 (Nat.le_of_ble_eq_true rfl) dL_law_675 (fun v115 s h => ?_)
                                 refine v_icmp_eq 1251 dL_law_678 (by decide) h (fun h => ?_) (fun h => ?_)
                                 · exact L_L_law_1251 N (H_L_law_18 N L xss n) ih a1 a2 l3 s ls (lv_sub hl [0, 1, 2, 3] rfl) h
                                 · refine v_iconst (0 : Int32) dL_law_681 (by decide) ?_
                                   exact v_lawret dL_law_682 h
                               · refine v_tswc (14 : Int32) 683 dL_law_32 (by decide) (by decide) (by rfl) (by decide) h (fun h => ?_) (fun h14 h => ?_)
                                 · refine v_aload_n dL_law_683 rfl (lv_at hl 1 rfl) ?_
                                   refine v_aload_n dL_law_684 rfl (lv_at hl 0 rfl) ?_
                                   refine v_iload_n dL_law_685 rfl (lv_at hl 3 rfl) ?_
                                   refine v_iconst (1 : Int32) dL_law_686 (by decide) ?_
                                   refine v_iadd dL_law_687 ?_
                                   refine v_sld dL_law_688 h (fun v104 h => ?_)
                                   refine v_aload_n dL_law_689 rfl (lv_at hl 0 rfl) ?_
                                   refine v_iload_n dL_law_690 rfl (lv_at hl 3 rfl) ?_
                                   refine v_iconst (2 : Int32) dL_law_691 (by decide) ?_
                                   refine v_iadd dL_law_692 ?_
                                   refine v_sld dL_law_693 h (fun v105 h => ?_)
                                   refine k_X8_found h qmL_75 (by decide) hl.1 (Nat.le_of_ble_eq_true rfl) dL_law_694 (fun v106 s h => ?_)
                                   refine v_aload_n dL_law_697 rfl (lv_at hl 2 rfl) ?_
                                   refine v_aload_n dL_law_698 rfl (lv_at hl 0 rfl) ?_
                                   refine v_iload_n dL_law_699 rfl (lv_at hl 3 rfl) ?_
                                   refine v_iconst (1 : Int32) dL_law_700 (by decide) ?_
                                   refine v_iadd dL_law_701 ?_
                                   refine v_sld dL_law_702 h (fun v107 h => ?_)
                                   refine v_aload_n dL_law_703 rfl (lv_at hl 0 rfl) ?_
                                   refine v_iload_n dL_law_704 rfl (lv_at hl 3 rfl) ?_
                                   refine v_iconst (2 : Int32) dL_law_705 (by decide) ?_
                                   refine v_iadd dL_law_706 ?_
                                   refine v_sld dL_law_707 h (fun v108 h => ?_)
                                   refine k_X9_found h qmL_78 (by decide) hl.1 (Nat.le_of_ble_eq_true rfl) dL_law_708 (fun v109 s h => ?_)
                                   refine v_icmp_eq 1251 dL_law_711 (by decide) h (fun h => ?_) (fun h => ?_)
                                   · exact L_L_law_1251 N (H_L_law_18 N L xss n) ih a1 a2 l3 s ls (lv_sub hl [0, 1, 2, 3] rfl) h
                                   · refine v_iconst (0 : Int32) dL_law_714 (by decide) ?_
                                     exact v_lawret dL_law_715 h
                                 · refine v_tswc (15 : Int32) 716 dL_law_32 (by decide) (by decide) (by rfl) (by decide) h (fun h => ?_) (fun h15 h => ?_)
                                   · refine v_aload_n dL_law_716 rfl (lv_at hl 1 rfl) ?_
                                     refine v_aload_n dL_law_717 rfl (lv_at hl 0 rfl) ?_
                                     refine v_iload_n dL_law_718 rfl (lv_at hl 3 rfl) ?_
                                     refine v_iconst (1 : Int32) dL_law_719 (by decide) ?_
                                     refine v_iadd dL_law_720 ?_
                                     refine v_sld dL_law_721 h (fun v100 h => ?_)
                                     refine k_X8_feed h qmL_79 (by decide) hl.1 (Nat.le_of_ble_eq_true rfl) dL_law_722 (fun v101 s h => ?_)
                                     refine v_aload_n dL_law_725 rfl (lv_at hl 2 rfl) ?_
                                     refine v_aload_n dL_law_726 rfl (lv_at hl 0 rfl) ?_
                                     refine v_iload_n dL_law_727 rfl (lv_at hl 3 rfl) ?_
                                     refine v_iconst (1 : Int32) dL_law_728 (by decide) ?_
                                     refine v_iadd dL_law_729 ?_
                                     refine v_sld dL_law_730 h (fun v102 h => ?_)
                                     refine k_X9_feed h qmL_82 (by decide) hl.1 (Nat.le_of_ble_eq_true rfl) dL_law_731 (fun v103 s h => ?_)
                                     refine v_icmp_eq 1251 dL_law_734 (by decide) h (fun h => ?_) (fun h => ?_)
                                     · exact L_L_law_1251 N (H_L_law_18 N L xss n) ih a1 a2 l3 s ls (lv_sub hl [0, 1, 2, 3] rfl) h
                                     · refine v_iconst (0 : Int32) dL_law_737 (by decide) ?_
                                       exact v_lawret dL_law_738 h
                                   · refine v_tswc (16 : Int32) 739 dL_law_32 (by decide) (by decide) (by rfl) (by decide) h (fun h => ?_) (fun h16 h => ?_)
                                     · refine v_aload_n dL_law_739 rfl (lv_at hl 1 rfl) ?_
                                       refine v_aload_n dL_law_740 rfl (lv_at hl 0 rfl) ?_
                                       refine v_iload_n dL_law_741 rfl (lv_at hl 3 rfl) ?_
                                       refine v_iconst (1 : Int32) dL_law_742 (by decide) ?_
                                       refine v_iadd dL_law_743 ?_
                                       refine v_sld dL_law_744 h (fun v96 h => ?_)
                                       refine k_X8_read h qmL_83 (by decide) hl.1 (Nat.le_of_ble_eq_true rfl) dL_law_745 (fun v97 s h => ?_)
                                       refine v_aload_n dL_law_748 rfl (lv_at hl 2 rfl) ?_
                                       refine v_aload_n dL_law_749 rfl (lv_at hl 0 rfl) ?_
                                       refine v_iload_n dL_law_750 rfl (lv_at hl 3 rfl) ?_
                                       refine v_iconst (1 : Int32) dL_law_751 (by decide) ?_
                                       refine v_iadd dL_law_752 ?_
                                       refine v_sld dL_law_753 h (fun v98 h => ?_)
                                       refine k_X9_read h qmL_86 (by decide) hl.1 (Nat.le_of_ble_eq_true rfl) dL_law_754 (fun v99 s h => ?_)
                                       refine v_icmp_eq 1251 dL_law_757 (by decide) h (fun h => ?_) (fun h => ?_)
                                       · exact L_L_law_1251 N (H_L_law_18 N L xss n) ih a1 a2 l3 s ls (lv_sub hl [0, 1, 2, 3] rfl) h
                                       · refine v_iconst (0 : Int32) dL_law_760 (by decide) ?_
                                         exact v_lawret dL_law_761 h
                                     · refine v_tswc (17 : Int32) 762 dL_law_32 (by decide) (by decide) (by rfl) (by decide) h (fun h => ?_) (fun h17 h => ?_)
                                       · refine v_aload_n dL_law_762 rfl (lv_at hl 1 rfl) ?_
                                         refine v_aload_n dL_law_763 rfl (lv_at hl 0 rfl) ?_
                                         refine v_iload_n dL_law_764 rfl (lv_at hl 3 rfl) ?_
                                         refine v_iconst (1 : Int32) dL_law_765 (by decide) ?_
                                         refine v_iadd dL_law_766 ?_
                                         refine v_sld dL_law_767 h (fun v92 h => ?_)
                                         refine k_X8_clear h qmL_87 (by decide) hl.1 (Nat.le_of_ble_eq_true rfl) dL_law_768 (fun v93 s h => ?_)
                                         refine v_aload_n dL_law_771 rfl (lv_at hl 2 rfl) ?_
                                         refine v_aload_n dL_law_772 rfl (lv_at hl 0 rfl) ?_
                                         refine v_iload_n dL_law_773 rfl (lv_at hl 3 rfl) ?_
                                         refine v_iconst (1 : Int32) dL_law_774 (by decide) ?_
                                         refine v_iadd dL_law_775 ?_
                                         refine v_sld dL_law_776 h (fun v94 h => ?_)
                                         refine k_X9_clear h qmL_90 (by decide) hl.1 (Nat.le_of_ble_eq_true rfl) dL_law_777 (fun v95 s h => ?_)
                                         refine v_icmp_eq 1251 dL_law_780 (by decide) h (fun h => ?_) (fun h => ?_)
                                         · exact L_L_law_1251 N (H_L_law_18 N L xss n) ih a1 a2 l3 s ls (lv_sub hl [0, 1, 2, 3] rfl) h
                                         · refine v_iconst (0 : Int32) dL_law_783 (by decide) ?_
                                           exact v_lawret dL_law_784 h
                                       · refine v_tswc (18 : Int32) 785 dL_law_32 (by decide) (by decide) (by rfl) (by decide) h (fun h => ?_) (fun h18 h => ?_)
                                         · refine v_aload_n dL_law_785 rfl (lv_at hl 1 rfl) ?_
                                           refine v_aload_n dL_law_786 rfl (lv_at hl 0 rfl) ?_
                                           refine v_iload_n dL_law_787 rfl (lv_at hl 3 rfl) ?_
                                           refine v_iconst (1 : Int32) dL_law_788 (by decide) ?_
                                           refine v_iadd dL_law_789 ?_
                                           refine v_sld dL_law_790 h (fun v86 h => ?_)
                                           refine v_aload_n dL_law_791 rfl (lv_at hl 0 rfl) ?_
                                           refine v_iload_n dL_law_792 rfl (lv_at hl 3 rfl) ?_
                                           refine v_iconst (2 : Int32) dL_law_793 (by decide) ?_
                                           refine v_iadd dL_law_794 ?_
                                           refine v_sld dL_law_795 h (fun v87 h => ?_)
                                           refine k_X8_sum h qmL_91 (by decide) hl.1 (Nat.le_of_ble_eq_true rfl) dL_law_796 (fun v88 s h => ?_)
                                           refine v_aload_n dL_law_799 rfl (lv_at hl 2 rfl) ?_
                                           refine v_aload_n dL_law_800 rfl (lv_at hl 0 rfl) ?_
                                           refine v_iload_n dL_law_801 rfl (lv_at hl 3 rfl) ?_
                                           refine v_iconst (1 : Int32) dL_law_802 (by decide) ?_
                                           refine v_iadd dL_law_803 ?_
                                           refine v_sld dL_law_804 h (fun v89 h => ?_)
                                           refine v_aload_n dL_law_805 rfl (lv_at hl 0 rfl) ?_
                                           refine v_iload_n dL_law_806 rfl (lv_at hl 3 rfl) ?_
                                           refine v_iconst (2 : Int32) dL_law_807 (by decide) ?_
                                           refine v_iadd dL_law_808 ?_
                                           refine v_sld dL_law_809 h (fun v90 h => ?_)
                                           refine k_X9_sum h qmL_94 (by decide) hl.1 (Nat.le_of_ble_eq_true rfl) dL_law_810 (fun v91 s h => ?_)
                                           refine v_icmp_eq 1251 dL_law_813 (by decide) h (fun h => ?_) (fun h => ?_)
                                           · exact L_L_law_1251 N (H_L_law_18 N L xss n) ih a1 a2 l3 s ls (lv_sub hl [0, 1, 2, 3] rfl) h
                                           · refine v_iconst (0 : Int32) dL_law_816 (by decide) ?_
                                             exact v_lawret dL_law_817 h
                                         · refine v_tswc (19 : Int32) 818 dL_law_32 (by decide) (by decide) (by rfl) (by decide) h (fun h => ?_) (fun h19 h => ?_)
                                           · refine v_aload_n dL_law_818 rfl (lv_at hl 1 rfl) ?_
                                             refine v_aload_n dL_law_819 rfl (lv_at hl 0 rfl) ?_
                                             refine v_iload_n dL_law_820 rfl (lv_at hl 3 rfl) ?_
                                             refine v_iconst (1 : Int32) dL_law_821 (by decide) ?_
                                             refine v_iadd dL_law_822 ?_
                                             refine v_sld dL_law_823 h (fun v80 h => ?_)
                                             refine v_aload_n dL_law_824 rfl (lv_at hl 0 rfl) ?_
                                             refine v_iload_n dL_law_825 rfl (lv_at hl 3 rfl) ?_
                                             refine v_iconst (2 : Int32) dL_law_826 (by decide) ?_
                                             refine v_iadd dL_law_827 ?_
                                             refine v_sld dL_law_828 h (fun v81 h => ?_)
                                             refine k_X8_term h qmL_95 (by decide) hl.1 (Nat.le_of_ble_eq_true rfl) dL_law_829 (fun v82 s h => ?_)
                                             refine v_aload_n dL_law_832 rfl (lv_at hl 2 rfl) ?_
                                             refine v_aload_n dL_law_833 rfl (lv_at hl 0 rfl) ?_
                                             refine v_iload_n dL_law_834 rfl (lv_at hl 3 rfl) ?_
                                             refine v_iconst (1 : Int32) dL_law_835 (by decide) ?_
                                             refine v_iadd dL_law_836 ?_
                                             refine v_sld dL_law_837 h (fun v83 h => ?_)
                                             refine v_aload_n dL_law_838 rfl (lv_at hl 0 rfl) ?_
                                             refine v_iload_n dL_law_839 rfl (lv_at hl 3 rfl) ?_
                                             refine v_iconst (2 : Int32) dL_law_840 (by decide) ?_
                                             refine v_iadd dL_law_841 ?_
                                             refine v_sld dL_law_842 h (fun v84 h => ?_)
                                             refine k_X9_term h qmL_98 (by decide) hl.1 (Nat.le_of_ble_eq_true rfl) dL_law_843 (fun v85 s h => ?_)
                                             refine v_icmp_eq 1251 dL_law_846 (by decide) h (fun h => ?_) (fun h => ?_)
                                             · exact L_L_law_1251 N (H_L_law_18 N L xss n) ih a1 a2 l3 s ls (lv_sub hl [0, 1, 2, 3] rfl) h
                                             · refine v_iconst (0 : Int32) dL_law_849 (by decide) ?_
                                               exact v_lawret dL_law_850 h
                                           · refine v_tswc (20 : Int32) 851 dL_law_32 (by decide) (by decide) (by rfl) (by decide) h (fun h => ?_) (fun h20 h => ?_)
                                             · refine v_aload_n dL_law_851 rfl (lv_at hl 1 rfl) ?_
                                               refine v_aload_n dL_law_852 rfl (lv_at hl 0 rfl) ?_
                                               refine v_iload_n dL_law_853 rfl (lv_at hl 3 rfl) ?_
                                               refine v_iconst (1 : Int32) dL_law_854 (by decide) ?_
                                               refine v_iadd dL_law_855 ?_
                                               refine v_sld dL_law_856 h (fun v72 h => ?_)
                                               refine v_aload_n dL_law_857 rfl (lv_at hl 0 rfl) ?_
                                               refine v_iload_n dL_law_858 rfl (lv_at hl 3 rfl) ?_
                                               refine v_iconst (2 : Int32) dL_law_859 (by decide) ?_
                                               refine v_iadd dL_law_860 ?_
                                               refine v_sld dL_law_861 h (fun v73 h => ?_)
                                               refine v_aload_n dL_law_862 rfl (lv_at hl 0 rfl) ?_
                                               refine v_iload_n dL_law_863 rfl (lv_at hl 3 rfl) ?_
                                               refine v_iconst (3 : Int32) dL_law_864 (by decide) ?_
                                               refine v_iadd dL_law_865 ?_
                                               refine v_sld dL_law_866 h (fun v74 h => ?_)
                                               refine k_X8_coefficient h qmL_99 (by decide) hl.1 (Nat.le_of_ble_eq_true rfl) dL_law_867 (fun v75 s h => ?_)
                                               refine v_aload_n dL_law_870 rfl (lv_at hl 2 rfl) ?_
                                               refine v_aload_n dL_law_871 rfl (lv_at hl 0 rfl) ?_
                                               refine v_iload_n dL_law_872 rfl (lv_at hl 3 rfl) ?_
                                               refine v_iconst (1 : Int32) dL_law_873 (by decide) ?_
                                               refine v_iadd dL_law_874 ?_
                                               refine v_sld dL_law_875 h (fun v76 h => ?_)
                                               refine v_aload_n dL_law_876 rfl (lv_at hl 0 rfl) ?_
                                               refine v_iload_n dL_law_877 rfl (lv_at hl 3 rfl) ?_
                                               refine v_iconst (2 : Int32) dL_law_878 (by decide) ?_
                                               refine v_iadd dL_law_879 ?_
                                               refine v_sld dL_law_880 h (fun v77 h => ?_)
                                               refine v_aload_n dL_law_881 rfl (lv_at hl 0 rfl) ?_
                                               refine v_iload_n dL_law_882 rfl (lv_at hl 3 rfl) ?_
                                               refine v_iconst (3 : Int32) dL_law_883 (by decide) ?_
                                               refine v_iadd dL_law_884 ?_
                                               refine v_sld dL_law_885 h (fun v78 h => ?_)
                                               refine k_X9_coefficient h qmL_102 (by decide) hl.1 (Nat.le_of_ble_eq_true rfl) dL_law_886 (fun v79 s h => ?_)
                                               refine v_lcmp dL_law_889 ?_
                                               refine v_if_eq 1251 dL_law_890 (by decide) h (fun h => ?_) (fun h => ?_)
                                               · exact L_L_law_1251 N (H_L_law_18 N L xss n) ih a1 a2 l3 s ls (lv_sub hl [0, 1, 2, 3] rfl) h
                                               · refine v_iconst (0 : Int32) dL_law_893 (by decide) ?_
                                                 exact v_lawret dL_law_894 h
                                             · refine v_tswc (21 : Int32) 895 dL_law_32 (by decide) (by decide) (by rfl) (by decide) h (fun h => ?_) (fun h21 h => ?_)
                                               · refine v_aload_n dL_law_895 rfl (lv_at hl 1 rfl) ?_
                                                 refine v_aload_n dL_law_896 rfl (lv_at hl 0 rfl) ?_
                                                 refine v_iload_n dL_law_897 rfl (lv_at hl 3 rfl) ?_
                                                 refine v_iconst (1 : Int32) dL_law_898 (by decide) ?_
                                                 refine v_iadd dL_law_899 ?_
                                                 refine v_sld dL_law_900 h (fun v62 h => ?_)
                                                 refine v_aload_n dL_law_901 rfl (lv_at hl 0 rfl) ?_
                                                 refine v_iload_n dL_law_902 rfl (lv_at hl 3 rfl) ?_
                                                 refine v_iconst (2 : Int32) dL_law_903 (by decide) ?_
                                                 refine v_iadd dL_law_904 ?_
                                                 refine v_sld dL_law_905 h (fun v63 h => ?_)
                                                 refine v_aload_n dL_law_906 rfl (lv_at hl 0 rfl) ?_
                                                 refine v_iload_n dL_law_907 rfl (lv_at hl 3 rfl) ?_
                                                 refine v_iconst (3 : Int32) dL_law_908 (by decide) ?_
                                                 refine v_iadd dL_law_909 ?_
                                                 refine v_sld dL_law_910 h (fun v64 h => ?_)
                                                 refine v_aload_n dL_law_911 rfl (lv_at hl 0 rfl) ?_
                                                 refine v_iload_n dL_law_912 rfl (lv_at hl 3 rfl) ?_
                                                 refine v_iconst (4 : Int32) dL_law_913 (by decide) ?_
                                                 refine v_iadd dL_law_914 ?_
                                                 refine v_sld dL_law_915 h (fun v65 h => ?_)
                                                 refine k_X8_makes h qmL_103 (by decide) hl.1 (Nat.le_of_ble_eq_true rfl) dL_law_916 (fun v66 s h => ?_)
                                                 refine v_aload_n dL_law_919 rfl (lv_at hl 2 rfl) ?_
                                                 refine v_aload_n dL_law_920 rfl (lv_at hl 0 rfl) ?_
                                                 refine v_iload_n dL_law_921 rfl (lv_at hl 3 rfl) ?_
                                                 refine v_iconst (1 : Int32) dL_law_922 (by decide) ?_
                                                 refine v_iadd dL_law_923 ?_
                                                 refine v_sld dL_law_924 h (fun v67 h => ?_)
                                                 refine v_aload_n dL_law_925 rfl (lv_at hl 0 rfl) ?_
                                                 refine v_iload_n dL_law_926 rfl (lv_at hl 3 rfl) ?_
                                                 refine v_iconst (2 : Int32) dL_law_927 (by decide) ?_
                                                 refine v_iadd dL_law_928 ?_
                                                 refine v_sld dL_law_929 h (fun v68 h => ?_)
                                                 refine v_aload_n dL_law_930 rfl (lv_at hl 0 rfl) ?_
                                                 refine v_iload_n dL_law_931 rfl (lv_at hl 3 rfl) ?_
                                                 refine v_iconst (3 : Int32) dL_law_932 (by decide) ?_
                                                 refine v_iadd dL_law_933 ?_
                                                 refine v_sld dL_law_934 h (fun v69 h => ?_)
                                                 refine v_aload_n dL_law_935 rfl (lv_at hl 0 rfl) ?_
                                                 refine v_iload_n dL_law_936 rfl (lv_at hl 3 rfl) ?_
                                                 refine v_iconst (4 : Int32) dL_law_937 (by decide) ?_
                                                 refine v_iadd dL_law_938 ?_
                                                 refine v_sld dL_law_939 h (fun v70 h => ?_)
                                                 refine k_X9_makes h qmL_107 (by decide) hl.1 (Nat.le_of_ble_eq_true rfl) dL_law_940 (fun v71 s h => ?_)
                                                 refine v_icmp_eq 1251 dL_law_943 (by decide) h (fun h => ?_) (fun h => ?_)
                                                 · exact L_L_law_1251 N (H_L_law_18 N L xss n) ih a1 a2 l3 s ls (lv_sub hl [0, 1, 2, 3] rfl) h
                                                 · refine v_iconst (0 : Int32) dL_law_946 (by decide) ?_
                                                   exact v_lawret dL_law_947 h
                                               · refine v_tswc (22 : Int32) 948 dL_law_32 (by decide) (by decide) (by rfl) (by decide) h (fun h => ?_) (fun h22 h => ?_)
                                                 · refine v_aload_n dL_law_948 rfl (lv_at hl 1 rfl) ?_
                                                   refine v_aload_n dL_law_949 rfl (lv_at hl 0 rfl) ?_
                                                   refine v_iload_n dL_law_950 rfl (lv_at hl 3 rfl) ?_
                                                   refine v_iconst (1 : Int32) dL_law_951 (by decide) ?_
                                                   refine v_iadd dL_law_952 ?_
                                                   refine v_sld dL_law_953 h (fun v56 h => ?_)
                                                   refine v_aload_n dL_law_954 rfl (lv_at hl 0 rfl) ?_
                                                   refine v_iload_n dL_law_955 rfl (lv_at hl 3 rfl) ?_
                                                   refine v_iconst (2 : Int32) dL_law_956 (by decide) ?_
                                                   refine v_iadd dL_law_957 ?_
                                                   refine v_sld dL_law_958 h (fun v57 h => ?_)
                                                   refine k_X8_lift h qmL_108 (by decide) hl.1 (Nat.le_of_ble_eq_true rfl) dL_law_959 (fun v58 s h => ?_)
                                                   refine v_aload_n dL_law_962 rfl (lv_at hl 2 rfl) ?_
                                                   refine v_aload_n dL_law_963 rfl (lv_at hl 0 rfl) ?_
                                                   refine v_iload_n dL_law_964 rfl (lv_at hl 3 rfl) ?_
                                                   refine v_iconst (1 : Int32) dL_law_965 (by decide) ?_
                                                   refine v_iadd dL_law_966 ?_
                                                   refine v_sld dL_law_967 h (fun v59 h => ?_)
                                                   refine v_aload_n dL_law_968 rfl (lv_at hl 0 rfl) ?_
                                                   refine v_iload_n dL_law_969 rfl (lv_at hl 3 rfl) ?_
                                                   refine v_iconst (2 : Int32) dL_law_970 (by decide) ?_
                                                   refine v_iadd dL_law_971 ?_
                                                   refine v_sld dL_law_972 h (fun v60 h => ?_)
                                                   refine k_X9_lift h qmL_111 (by decide) hl.1 (Nat.le_of_ble_eq_true rfl) dL_law_973 (fun v61 s h => ?_)
                                                   refine v_icmp_eq 1251 dL_law_976 (by decide) h (fun h => ?_) (fun h => ?_)
                                                   · exact L_L_law_1251 N (H_L_law_18 N L xss n) ih a1 a2 l3 s ls (lv_sub hl [0, 1, 2, 3] rfl) h
                                                   · refine v_iconst (0 : Int32) dL_law_979 (by decide) ?_
                                                     exact v_lawret dL_law_980 h
                                                 · refine v_tswc (23 : Int32) 981 dL_law_32 (by decide) (by decide) (by rfl) (by decide) h (fun h => ?_) (fun h23 h => ?_)
                                                   · refine v_aload_n dL_law_981 rfl (lv_at hl 1 rfl) ?_
                                                     refine v_aload_n dL_law_982 rfl (lv_at hl 0 rfl) ?_
                                                     refine v_iload_n dL_law_983 rfl (lv_at hl 3 rfl) ?_
                                                     refine v_iconst (1 : Int32) dL_law_984 (by decide) ?_
                                                     refine v_iadd dL_law_985 ?_
                                                     refine v_sld dL_law_986 h (fun v52 h => ?_)
                                                     refine k_X8_average h qmL_112 (by decide) hl.1 (Nat.le_of_ble_eq_true rfl) dL_law_987 (fun v53 s h => ?_)
                                                     refine v_aload_n dL_law_990 rfl (lv_at hl 2 rfl) ?_
                                                     refine v_aload_n dL_law_991 rfl (lv_at hl 0 rfl) ?_
                                                     refine v_iload_n dL_law_992 rfl (lv_at hl 3 rfl) ?_
                                                     refine v_iconst (1 : Int32) dL_law_993 (by decide) ?_
                                                     refine v_iadd dL_law_994 ?_
                                                     refine v_sld dL_law_995 h (fun v54 h => ?_)
                                                     refine k_X9_average h qmL_115 (by decide) hl.1 (Nat.le_of_ble_eq_true rfl) dL_law_996 (fun v55 s h => ?_)
                                                     refine v_icmp_eq 1251 dL_law_999 (by decide) h (fun h => ?_) (fun h => ?_)
                                                     · exact L_L_law_1251 N (H_L_law_18 N L xss n) ih a1 a2 l3 s ls (lv_sub hl [0, 1, 2, 3] rfl) h
                                                     · refine v_iconst (0 : Int32) dL_law_1002 (by decide) ?_
                                                       exact v_lawret dL_law_1003 h
                                                   · refine v_tswc (24 : Int32) 1004 dL_law_32 (by decide) (by decide) (by rfl) (by decide) h (fun h => ?_) (fun h24 h => ?_)
                                                     · refine v_aload_n dL_law_1004 rfl (lv_at hl 1 rfl) ?_
                                                       refine v_aload_n dL_law_1005 rfl (lv_at hl 0 rfl) ?_
                                                       refine v_iload_n dL_law_1006 rfl (lv_at hl 3 rfl) ?_
                                                       refine v_iconst (1 : Int32) dL_law_1007 (by decide) ?_
                                                       refine v_iadd dL_law_1008 ?_
                                                       refine v_sld dL_law_1009 h (fun v42 h => ?_)
                                                       refine v_aload_n dL_law_1010 rfl (lv_at hl 0 rfl) ?_
                                                       refine v_iload_n dL_law_1011 rfl (lv_at hl 3 rfl) ?_
                                                       refine v_iconst (2 : Int32) dL_law_1012 (by decide) ?_
                                                       refine v_iadd dL_law_1013 ?_
                                                       refine v_sld dL_law_1014 h (fun v43 h => ?_)
                                                       refine v_aload_n dL_law_1015 rfl (lv_at hl 0 rfl) ?_
                                                       refine v_iload_n dL_law_1016 rfl (lv_at hl 3 rfl) ?_
                                                       refine v_iconst (3 : Int32) dL_law_1017 (by decide) ?_
                                                       refine v_iadd dL_law_1018 ?_
                                                       refine v_sld dL_law_1019 h (fun v44 h => ?_)
                                                       refine v_aload_n dL_law_1020 rfl (lv_at hl 0 rfl) ?_
                                                       refine v_iload_n dL_law_1021 rfl (lv_at hl 3 rfl) ?_
                                                       refine v_iconst (4 : Int32) dL_law_1022 (by decide) ?_
                                                       refine v_iadd dL_law_1023 ?_
                                                       refine v_sld dL_law_1024 h (fun v45 h => ?_)
                                                       refine k_X8_bound h qmL_116 (by decide) hl.1 (Nat.le_of_ble_eq_true rfl) dL_law_1025 (fun v46 s h => ?_)
                                                       refine v_aload_n dL_law_1028 rfl (lv_at hl 2 rfl) ?_
                                                       refine v_aload_n dL_law_1029 rfl (lv_at hl 0 rfl) ?_
                                                       refine v_iload_n dL_law_1030 rfl (lv_at hl 3 rfl) ?_
                                                       refine v_iconst (1 : Int32) dL_law_1031 (by decide) ?_
                                                       refine v_iadd dL_law_1032 ?_
                                                       refine v_sld dL_law_1033 h (fun v47 h => ?_)
                                                       refine v_aload_n dL_law_1034 rfl (lv_at hl 0 rfl) ?_
                                                       refine v_iload_n dL_law_1035 rfl (lv_at hl 3 rfl) ?_
                                                       refine v_iconst (2 : Int32) dL_law_1036 (by decide) ?_
                                                       refine v_iadd dL_law_1037 ?_
                                                       refine v_sld dL_law_1038 h (fun v48 h => ?_)
                                                       refine v_aload_n dL_law_1039 rfl (lv_at hl 0 rfl) ?_
                                                       refine v_iload_n dL_law_1040 rfl (lv_at hl 3 rfl) ?_
                                                       refine v_iconst (3 : Int32) dL_law_1041 (by decide) ?_
                                                       refine v_iadd dL_law_1042 ?_
                                                       refine v_sld dL_law_1043 h (fun v49 h => ?_)
                                                       refine v_aload_n dL_law_1044 rfl (lv_at hl 0 rfl) ?_
                                                       refine v_iload_n dL_law_1045 rfl (lv_at hl 3 rfl) ?_
                                                       refine v_iconst (4 : Int32) dL_law_1046 (by decide) ?_
                                                       refine v_iadd dL_law_1047 ?_
                                                       refine v_sld dL_law_1048 h (fun v50 h => ?_)
                                                       refine k_X9_bound h qmL_119 (by decide) hl.1 (Nat.le_of_ble_eq_true rfl) dL_law_1049 (fun v51 s h => ?_)
                                                       refine v_lcmp dL_law_1052 ?_
                                                       refine v_if_eq 1251 dL_law_1053 (by decide) h (fun h => ?_) (fun h => ?_)
                                                       · exact L_L_law_1251 N (H_L_law_18 N L xss n) ih a1 a2 l3 s ls (lv_sub hl [0, 1, 2, 3] rfl) h
                                                       · refine v_iconst (0 : Int32) dL_law_1056 (by decide) ?_
                                                         exact v_lawret dL_law_1057 h
                                                     · refine v_tswc (25 : Int32) 1058 dL_law_32 (by decide) (by decide) (by rfl) (by decide) h (fun h => ?_) (fun h25 h => ?_)
                                                       · refine v_aload_n dL_law_1058 rfl (lv_at hl 1 rfl) ?_
                                                         refine v_aload_n dL_law_1059 rfl (lv_at hl 0 rfl) ?_
                                                         refine v_iload_n dL_law_1060 rfl (lv_at hl 3 rfl) ?_
                                                         refine v_iconst (1 : Int32) dL_law_1061 (by decide) ?_
                                                         refine v_iadd dL_law_1062 ?_
                                                         refine v_sld dL_law_1063 h (fun v36 h => ?_)
                                                         refine v_aload_n dL_law_1064 rfl (lv_at hl 0 rfl) ?_
                                                         refine v_iload_n dL_law_1065 rfl (lv_at hl 3 rfl) ?_
                                                         refine v_iconst (2 : Int32) dL_law_1066 (by decide) ?_
                                                         refine v_iadd dL_law_1067 ?_
                                                         refine v_sld dL_law_1068 h (fun v37 h => ?_)
                                                         refine k_X8_value h qmL_120 (by decide) hl.1 (Nat.le_of_ble_eq_true rfl) dL_law_1069 (fun v38 s h => ?_)
                                                         refine v_aload_n dL_law_1072 rfl (lv_at hl 2 rfl) ?_
                                                         refine v_aload_n dL_law_1073 rfl (lv_at hl 0 rfl) ?_
                                                         refine v_iload_n dL_law_1074 rfl (lv_at hl 3 rfl) ?_
                                                         refine v_iconst (1 : Int32) dL_law_1075 (by decide) ?_
                                                         refine v_iadd dL_law_1076 ?_
                                                         refine v_sld dL_law_1077 h (fun v39 h => ?_)
                                                         refine v_aload_n dL_law_1078 rfl (lv_at hl 0 rfl) ?_
                                                         refine v_iload_n dL_law_1079 rfl (lv_at hl 3 rfl) ?_
                                                         refine v_iconst (2 : Int32) dL_law_1080 (by decide) ?_
                                                         refine v_iadd dL_law_1081 ?_
                                                         refine v_sld dL_law_1082 h (fun v40 h => ?_)
                                                         refine k_X9_value h qmL_123 (by decide) hl.1 (Nat.le_of_ble_eq_true rfl) dL_law_1083 (fun v41 s h => ?_)
                                                         refine v_lcmp dL_law_1086 ?_
                                                         refine v_if_eq 1251 dL_law_1087 (by decide) h (fun h => ?_) (fun h => ?_)
                                                         · exact L_L_law_1251 N (H_L_law_18 N L xss n) ih a1 a2 l3 s ls (lv_sub hl [0, 1, 2, 3] rfl) h
                                                         · refine v_iconst (0 : Int32) dL_law_1090 (by decide) ?_
                                                           exact v_lawret dL_law_1091 h
                                                       · refine v_tswc (26 : Int32) 1092 dL_law_32 (by decide) (by decide) (by rfl) (by decide) h (fun h => ?_) (fun h26 h => ?_)
                                                         · refine v_aload_n dL_law_1092 rfl (lv_at hl 1 rfl) ?_
                                                           refine v_aload_n dL_law_1093 rfl (lv_at hl 0 rfl) ?_
                                                           refine v_iload_n dL_law_1094 rfl (lv_at hl 3 rfl) ?_
                                                           refine v_iconst (1 : Int32) dL_law_1095 (by decide) ?_
                                                           refine v_iadd dL_law_1096 ?_
                                                           refine v_sld dL_law_1097 h (fun v28 h => ?_)
                                                           refine v_aload_n dL_law_1098 rfl (lv_at hl 0 rfl) ?_
                                                           refine v_iload_n dL_law_1099 rfl (lv_at hl 3 rfl) ?_
                                                           refine v_iconst (2 : Int32) dL_law_1100 (by decide) ?_
                                                           refine v_iadd dL_law_1101 ?_
                                                           refine v_sld dL_law_1102 h (fun v29 h => ?_)
                                                           refine v_aload_n dL_law_1103 rfl (lv_at hl 0 rfl) ?_
                                                           refine v_iload_n dL_law_1104 rfl (lv_at hl 3 rfl) ?_
                                                           refine v_iconst (3 : Int32) dL_law_1105 (by decide) ?_
                                                           refine v_iadd dL_law_1106 ?_
                                                           refine v_sld dL_law_1107 h (fun v30 h => ?_)
                                                           refine k_X8_valueAt h qmL_124 (by decide) hl.1 (Nat.le_of_ble_eq_true rfl) dL_law_1108 (fun v31 s h => ?_)
                                                           refine v_aload_n dL_law_1111 rfl (lv_at hl 2 rfl) ?_
                                                           refine v_aload_n dL_law_1112 rfl (lv_at hl 0 rfl) ?_
                                                           refine v_iload_n dL_law_1113 rfl (lv_at hl 3 rfl) ?_
                                                           refine v_iconst (1 : Int32) dL_law_1114 (by decide) ?_
                                                           refine v_iadd dL_law_1115 ?_
                                                           refine v_sld dL_law_1116 h (fun v32 h => ?_)
                                                           refine v_aload_n dL_law_1117 rfl (lv_at hl 0 rfl) ?_
                                                           refine v_iload_n dL_law_1118 rfl (lv_at hl 3 rfl) ?_
                                                           refine v_iconst (2 : Int32) dL_law_1119 (by decide) ?_
                                                           refine v_iadd dL_law_1120 ?_
                                                           refine v_sld dL_law_1121 h (fun v33 h => ?_)
                                                           refine v_aload_n dL_law_1122 rfl (lv_at hl 0 rfl) ?_
                                                           refine v_iload_n dL_law_1123 rfl (lv_at hl 3 rfl) ?_
                                                           refine v_iconst (3 : Int32) dL_law_1124 (by decide) ?_
                                                           refine v_iadd dL_law_1125 ?_
                                                           refine v_sld dL_law_1126 h (fun v34 h => ?_)
                                                           refine k_X9_valueAt h qmL_127 (by decide) hl.1 (Nat.le_of_ble_eq_true rfl) dL_law_1127 (fun v35 s h => ?_)
                                                           refine v_lcmp dL_law_1130 ?_
                                                           refine v_if_eq 1251 dL_law_1131 (by decide) h (fun h => ?_) (fun h => ?_)
                                                           · exact L_L_law_1251 N (H_L_law_18 N L xss n) ih a1 a2 l3 s ls (lv_sub hl [0, 1, 2, 3] rfl) h
                                                           · refine v_iconst (0 : Int32) dL_law_1134 (by decide) ?_
                                                             exact v_lawret dL_law_1135 h
                                                         · refine v_tswc (27 : Int32) 1136 dL_law_32 (by decide) (by decide) (by rfl) (by decide) h (fun h => ?_) (fun h27 h => ?_)
                                                           · refine v_aload_n dL_law_1136 rfl (lv_at hl 1 rfl) ?_
                                                             refine v_aload_n dL_law_1137 rfl (lv_at hl 0 rfl) ?_
                                                             refine v_iload_n dL_law_1138 rfl (lv_at hl 3 rfl) ?_
                                                             refine v_iconst (1 : Int32) dL_law_1139 (by decide) ?_
                                                             refine v_iadd dL_law_1140 ?_
                                                             refine v_sld dL_law_1141 h (fun v22 h => ?_)
                                                             refine v_aload_n dL_law_1142 rfl (lv_at hl 0 rfl) ?_
                                                             refine v_iload_n dL_law_1143 rfl (lv_at hl 3 rfl) ?_
                                                             refine v_iconst (2 : Int32) dL_law_1144 (by decide) ?_
                                                             refine v_iadd dL_law_1145 ?_
                                                             refine v_sld dL_law_1146 h (fun v23 h => ?_)
                                                             refine k_X8_move h qmL_128 (by decide) hl.1 (Nat.le_of_ble_eq_true rfl) dL_law_1147 (fun v24 s h => ?_)
                                                             refine v_aload_n dL_law_1150 rfl (lv_at hl 2 rfl) ?_
                                                             refine v_aload_n dL_law_1151 rfl (lv_at hl 0 rfl) ?_
                                                             refine v_iload_n dL_law_1152 rfl (lv_at hl 3 rfl) ?_
                                                             refine v_iconst (1 : Int32) dL_law_1153 (by decide) ?_
                                                             refine v_iadd dL_law_1154 ?_
                                                             refine v_sld dL_law_1155 h (fun v25 h => ?_)
                                                             refine v_aload_n dL_law_1156 rfl (lv_at hl 0 rfl) ?_
                                                             refine v_iload_n dL_law_1157 rfl (lv_at hl 3 rfl) ?_
                                                             refine v_iconst (2 : Int32) dL_law_1158 (by decide) ?_
                                                             refine v_iadd dL_law_1159 ?_
                                                             refine v_sld dL_law_1160 h (fun v26 h => ?_)
                                                             refine k_X9_move h qmL_131 (by decide) hl.1 (Nat.le_of_ble_eq_true rfl) dL_law_1161 (fun v27 s h => ?_)
                                                             refine v_icmp_eq 1251 dL_law_1164 (by decide) h (fun h => ?_) (fun h => ?_)
                                                             · exact L_L_law_1251 N (H_L_law_18 N L xss n) ih a1 a2 l3 s ls (lv_sub hl [0, 1, 2, 3] rfl) h
                                                             · refine v_iconst (0 : Int32) dL_law_1167 (by decide) ?_
                                                               exact v_lawret dL_law_1168 h
                                                           · refine v_tswc (28 : Int32) 1169 dL_law_32 (by decide) (by decide) (by rfl) (by decide) h (fun h => ?_) (fun h28 h => ?_)
                                                             · refine v_aload_n dL_law_1169 rfl (lv_at hl 1 rfl) ?_
                                                               refine v_aload_n dL_law_1170 rfl (lv_at hl 0 rfl) ?_
                                                               refine v_iload_n dL_law_1171 rfl (lv_at hl 3 rfl) ?_
                                                               refine v_iconst (1 : Int32) dL_law_1172 (by decide) ?_
                                                               refine v_iadd dL_law_1173 ?_
                                                               refine v_sld dL_law_1174 h (fun v16 h => ?_)
                                                               refine v_aload_n dL_law_1175 rfl (lv_at hl 0 rfl) ?_
                                                               refine v_iload_n dL_law_1176 rfl (lv_at hl 3 rfl) ?_
                                                               refine v_iconst (2 : Int32) dL_law_1177 (by decide) ?_
                                                               refine v_iadd dL_law_1178 ?_
                                                               refine v_sld dL_law_1179 h (fun v17 h => ?_)
                                                               refine k_X8_film h qmL_132 (by decide) hl.1 (Nat.le_of_ble_eq_true rfl) dL_law_1180 (fun v18 s h => ?_)
                                                               refine v_aload_n dL_law_1183 rfl (lv_at hl 2 rfl) ?_
                                                               refine v_aload_n dL_law_1184 rfl (lv_at hl 0 rfl) ?_
                                                               refine v_iload_n dL_law_1185 rfl (lv_at hl 3 rfl) ?_
                                                               refine v_iconst (1 : Int32) dL_law_1186 (by decide) ?_
                                                               refine v_iadd dL_law_1187 ?_
                                                               refine v_sld dL_law_1188 h (fun v19 h => ?_)
                                                               refine v_aload_n dL_law_1189 rfl (lv_at hl 0 rfl) ?_
                                                               refine v_iload_n dL_law_1190 rfl (lv_at hl 3 rfl) ?_
                                                               refine v_iconst (2 : Int32) dL_law_1191 (by decide) ?_
                                                               refine v_iadd dL_law_1192 ?_
                                                               refine v_sld dL_law_1193 h (fun v20 h => ?_)
                                                               refine k_X9_film h qmL_135 (by decide) hl.1 (Nat.le_of_ble_eq_true rfl) dL_law_1194 (fun v21 s h => ?_)
                                                               refine v_icmp_eq 1251 dL_law_1197 (by decide) h (fun h => ?_) (fun h => ?_)
                                                               · exact L_L_law_1251 N (H_L_law_18 N L xss n) ih a1 a2 l3 s ls (lv_sub hl [0, 1, 2, 3] rfl) h
                                                               · refine v_iconst (0 : Int32) dL_law_1200 (by decide) ?_
                                                                 exact v_lawret dL_law_1201 h
                                                             · refine v_tswc (29 : Int32) 1202 dL_law_32 (by decide) (by decide) (by rfl) (by decide) h (fun h => ?_) (fun h29 h => ?_)
                                                               · refine v_aload_n dL_law_1202 rfl (lv_at hl 1 rfl) ?_
                                                                 refine k_X8_image h qmL_136 (by decide) hl.1 (Nat.le_of_ble_eq_true rfl) dL_law_1203 (fun v14 s h => ?_)
                                                                 refine v_aload_n dL_law_1206 rfl (lv_at hl 2 rfl) ?_
                                                                 refine k_X9_image h qmL_140 (by decide) hl.1 (Nat.le_of_ble_eq_true rfl) dL_law_1207 (fun v15 s h => ?_)
                                                                 refine v_icmp_eq 1251 dL_law_1210 (by decide) h (fun h => ?_) (fun h => ?_)
                                                                 · exact L_L_law_1251 N (H_L_law_18 N L xss n) ih a1 a2 l3 s ls (lv_sub hl [0, 1, 2, 3] rfl) h
                                                                 · refine v_iconst (0 : Int32) dL_law_1213 (by decide) ?_
                                                                   exact v_lawret dL_law_1214 h
                                                               · refine v_tswc (30 : Int32) 1215 dL_law_32 (by decide) (by decide) (by rfl) (by decide) h (fun h => ?_) (fun h30 h => ?_)
                                                                 · refine v_aload_n dL_law_1215 rfl (lv_at hl 1 rfl) ?_
                                                                   refine k_X8_back h qmL_141 (by decide) hl.1 (Nat.le_of_ble_eq_true rfl) dL_law_1216 (fun v12 s h => ?_)
                                                                   refine v_aload_n dL_law_1219 rfl (lv_at hl 2 rfl) ?_
                                                                   refine k_X9_back h qmL_144 (by decide) hl.1 (Nat.le_of_ble_eq_true rfl) dL_law_1220 (fun v13 s h => ?_)
                                                                   refine v_icmp_eq 1251 dL_law_1223 (by decide) h (fun h => ?_) (fun h => ?_)
                                                                   · exact L_L_law_1251 N (H_L_law_18 N L xss n) ih a1 a2 l3 s ls (lv_sub hl [0, 1, 2, 3] rfl) h
                                                                   · refine v_iconst (0 : Int32) dL_law_1226 (by decide) ?_
                                                                     exact v_lawret dL_law_1227 h
                                                                 · refine v_tswc (31 : Int32) 1228 dL_law_32 (by decide) (by decide) (by rfl) (by decide) h (fun h => ?_) (fun h31 h => ?_)
                                                                   · refine v_aload_n dL_law_1228 rfl (lv_at hl 1 rfl) ?_
                                                                     refine v_aload_n dL_law_1229 rfl (lv_at hl 0 rfl) ?_
                                                                     refine v_iload_n dL_law_1230 rfl (lv_at hl 3 rfl) ?_
                                                                     refine v_iconst (1 : Int32) dL_law_1231 (by decide) ?_
                                                                     refine v_iadd dL_law_1232 ?_
                                                                     refine v_sld dL_law_1233 h (fun v8 h => ?_)
                                                                     refine k_X8_count h qmL_145 (by decide) hl.1 (Nat.le_of_ble_eq_true rfl) dL_law_1234 (fun v9 s h => ?_)
                                                                     refine v_aload_n dL_law_1237 rfl (lv_at hl 2 rfl) ?_
                                                                     refine v_aload_n dL_law_1238 rfl (lv_at hl 0 rfl) ?_
                                                                     refine v_iload_n dL_law_1239 rfl (lv_at hl 3 rfl) ?_
                                                                     refine v_iconst (1 : Int32) dL_law_1240 (by decide) ?_
                                                                     refine v_iadd dL_law_1241 ?_
                                                                     refine v_sld dL_law_1242 h (fun v10 h => ?_)
                                                                     refine k_X9_count h qmL_148 (by decide) hl.1 (Nat.le_of_ble_eq_true rfl) dL_law_1243 (fun v11 s h => ?_)
                                                                     refine v_icmp_eq 1251 dL_law_1246 (by decide) h (fun h => ?_) (fun h => ?_)
                                                                     · exact L_L_law_1251 N (H_L_law_18 N L xss n) ih a1 a2 l3 s ls (lv_sub hl [0, 1, 2, 3] rfl) h
                                                                     · refine v_iconst (0 : Int32) dL_law_1249 (by decide) ?_
                                                                       exact v_lawret dL_law_1250 h
                                                                   · have g0 := tsw_ne (c := (0 : Int32)) (i := 0) rfl h0
                                                                     have g1 := tsw_ne (c := (1 : Int32)) (i := 1) rfl h1
                                                                     have g2 := tsw_ne (c := (2 : Int32)) (i := 2) rfl h2
                                                                     have g3 := tsw_ne (c := (3 : Int32)) (i := 3) rfl h3
                                                                     have g4 := tsw_ne (c := (4 : Int32)) (i := 4) rfl h4
                                                                     have g5 := tsw_ne (c := (5 : Int32)) (i := 5) rfl h5
                                                                     have g6 := tsw_ne (c := (6 : Int32)) (i := 6) rfl h6
                                                                     have g7 := tsw_ne (c := (7 : Int32)) (i := 7) rfl h7
                                                                     have g8 := tsw_ne (c := (8 : Int32)) (i := 8) rfl h8
                                                                     have g9 := tsw_ne (c := (9 : Int32)) (i := 9) rfl h9
                                                                     have g10 := tsw_ne (c := (10 : Int32)) (i := 10) rfl h10
                                                                     have g11 := tsw_ne (c := (11 : Int32)) (i := 11) rfl h11
                                                                     have g12 := tsw_ne (c := (12 : Int32)) (i := 12) rfl h12
                                                                     have g13 := tsw_ne (c := (13 : Int32)) (i := 13) rfl h13
                                                                     have g14 := tsw_ne (c := (14 : Int32)) (i := 14) rfl h14
                                                                     have g15 := tsw_ne (c := (15 : Int32)) (i := 15) rfl h15
                                                                     have g16 := tsw_ne (c := (16 : Int32)) (i := 16) rfl h16
                                                                     have g17 := tsw_ne (c := (17 : Int32)) (i := 17) rfl h17
                                                                     have g18 := tsw_ne (c := (18 : Int32)) (i := 18) rfl h18
                                                                     have g19 := tsw_ne (c := (19 : Int32)) (i := 19) rfl h19
                                                                     have g20 := tsw_ne (c := (20 : Int32)) (i := 20) rfl h20
                                                                     have g21 := tsw_ne (c := (21 : Int32)) (i := 21) rfl h21
                                                                     have g22 := tsw_ne (c := (22 : Int32)) (i := 22) rfl h22
                                                                     have g23 := tsw_ne (c := (23 : Int32)) (i := 23) rfl h23
                                                                     have g24 := tsw_ne (c := (24 : Int32)) (i := 24) rfl h24
                                                                     have g25 := tsw_ne (c := (25 : Int32)) (i := 25) rfl h25
                                                                     have g26 := tsw_ne (c := (26 : Int32)) (i := 26) rfl h26
                                                                     have g27 := tsw_ne (c := (27 : Int32)) (i := 27) rfl h27
                                                                     have g28 := tsw_ne (c := (28 : Int32)) (i := 28) rfl h28
                                                                     have g29 := tsw_ne (c := (29 : Int32)) (i := 29) rfl h29
                                                                     have g30 := tsw_ne (c := (30 : Int32)) (i := 30) rfl h30
                                                                     have g31 := tsw_ne (c := (31 : Int32)) (i := 31) rfl h31
                                                                     refine v_tswd 1251 dL_law_32 (by omega) (by decide) ?_
                                                                     exact L_L_law_1251 N (H_L_law_18 N L xss n) ih a1 a2 l3 s ls (lv_sub hl [0, 1, 2, 3] rfl) h
